/-! THE REFERENCE: lists of tags, by program (wip/whole/gen/p44.py) -/
/-- a list of tags, with an eye on W: whether one says it, whether one of these is strong -/
def tgL (W : List Nat) : Nat → Nat → Bool → Bool → List Nat → Option (Bool × Bool)
  | 0, _, _, _, _ => none
  | n + 1, els, sm, sg, rs => if gc rs = [] then (if els = 0 then none else some (sm, sg)) else if (tgt (gc rs)).1 = true then (if ee (gp (tgt (gc rs)).2.2.1) = true then tgL W n (els + 1) (sm || sameL (tgt (gc rs)).2.2.2 W) (sg || (sameL (tgt (gc rs)).2.2.2 W && !(tgt (gc rs)).2.1)) (gp (tgt (gc rs)).2.2.1) else none) else none
theorem tgL_gc {W : List Nat} {n els : Nat} {sm sg : Bool} {r1 r2 : List Nat} (h : gc r1 = gc r2) : tgL W n els sm sg r1 = tgL W n els sm sg r2 := by
  cases n with
  | zero => rfl
  | succ n => rw [tgL, tgL, h]
/-- star, same, strong -/
def tgsL (W T : List Nat) : Option (Bool × Bool × Bool) := if (pk 42 (gp T)).1 = true then (if gp (pk 42 (gp T)).2 = [] then some (true, false, false) else none) else (tgL W 97 0 false false (gp T)).map (fun u => (false, u))
def fdN (N : Option Nat) (str wk sm sg : Bool) : Bool := N.isSome && (if str = true then (sg && !wk) else sm)
def tgV (N : Option Nat) (str wk : Bool) (v : Option (Bool × Bool × Bool)) : Int32 := match v with
  | none => -1
  | some (star, sm, sg) => bI (star || fdN N str wk sm sg)
/-- a tag leads on -/
theorem pk_len {c : Nat} {rs : List Nat} : (pk c rs).2.length ≤ rs.length := by
  cases rs with
  | nil => exact Nat.le_refl _
  | cons x r => simp only [pk]; split <;> simp
theorem pk_len1 {c : Nat} {rs : List Nat} (h : (pk c rs).1 = true) : (pk c rs).2.length < rs.length := by
  cases rs with
  | nil => cases h
  | cons x r =>
    simp only [pk] at h ⊢
    split at h
    · rename_i hx; rw [if_pos hx]; simp
    · cases h
theorem tt_len {W rs : List Nat} : (tt W rs).2.length ≤ rs.length := by
  induction W generalizing rs with
  | nil => exact Nat.le_refl _
  | cons c W ih =>
    have h := pk_len (c := c) (rs := rs)
    rw [tt]
    rcases hpk : pk c rs with ⟨b, r⟩
    rw [hpk] at h
    cases b with
    | true => exact Nat.le_trans ih h
    | false => exact h
theorem opq_len {rs : List Nat} (h : (opq rs).1 = true) : (opq rs).2.1.length < rs.length := by
  have h1 := pk_len1 (c := 34) (rs := rs)
  rw [opq] at h ⊢
  rcases hpk : pk 34 rs with ⟨b, r⟩
  rw [hpk] at h h1
  cases b with
  | false => cases h
  | true =>
    have h2 := pk_len1 (rs := r.dropWhile isOp) h
    have h3 := (List.dropWhile_suffix (l := r) isOp).length_le
    have h4 : r.length < rs.length := h1 rfl
    show (pk 34 (r.dropWhile isOp)).2.length < _
    omega
theorem tgt_len {rs : List Nat} (h : (tgt rs).1 = true) : (tgt rs).2.2.1.length < rs.length := by
  unfold tgt at h ⊢
  split at h
  · rename_i h1
    rw [if_pos h1]
    split at h
    · rename_i h2
      rw [if_pos h2]
      exact Nat.lt_of_lt_of_le (opq_len h) tt_len
    · cases h
  · rename_i h1
    rw [if_neg h1]
    exact opq_len h
set_option maxRecDepth 100000 in
set_option maxHeartbeats 4000000 in
theorem c_Mo_tags (l : Launch) (D : va_G) (tys : List (ClassId × FieldType)) (tc : Nat → ClassId) (hty : ∀ i : Nat, i < 4 → tys[i]? = some (tc i, vx_ty i)) (h : Nat) (ar : Nat → Nat) (now : Int64) (sc : Nat → Int32) (ai : Nat → Nat → Int32) (al : Nat → Nat → Int64) (G : Nat) (T : List Nat) (hT : mdT ai G T) (N : Option Nat) (str wk : Bool) (tg : Nat) (W : List Nat) (hN : ∀ i, N = some i → i < 4 ∧ ai 4 i = nI tg ∧ tg ≤ 9999 ∧ ai 5 i = bI wk ∧ W = tagL tg) : Kt l y_Mo_tags (yw y_Mo_tags b_Mo_tags 8 (some .int)) 4 83 0 0 D cls tys (fun _ _ _ => True) [.ref h, .int (nI G), .int (iI N), .int (bI str)] (mdW tc h ar now sc ai al) (fun r w => r = some (.int (tgV N str wk (tgsL W T))) ∧ ∃ s2, w = mdW tc h ar now s2 ai al ∧ gq sc s2) := by
  refine Kt.of ro_true (by decide) rfl hty (Nat.le_of_ble_eq_true rfl) ?_
  intro p e s m args below meth c0 A hC hr hlk hnm hF
  have hFt : vx_Ft y_Mo_tags.cls (yw y_Mo_tags b_Mo_tags 8 (some .int)) cls cty ft_Mo := ft_of (fun w h => List.mem_cons_of_mem _ h) fl_Mo_in ft_Mo_b
  have hini : false = true → meth.name = "<init>" := fun h => by cases h
  have hTl := hT.2.2.2.1
  obtain ⟨P0, hP0⟩ : ∃ P0, pz T 0 isGp = P0 := ⟨_, rfl⟩
  have hP0l : P0 ≤ T.length := by rw [← hP0]; exact pz_lt (Nat.zero_le _)
  have hgpT : gp T = T.drop P0 := by rw [← hP0]; exact gp_at (ps := 0)
  refine vx_cut (α := (Nat → Int32)) 44 (fun u => gq sc u ∧ u 11 = nI G ∧ u 12 = nI P0 ∧ ¬ T.getD P0 0 = 42) (fun u => [(0, .ref h), (1, .int (nI G)), (2, .int (iI N)), (3, .int (bI str)), (4, .int (bI false)), (5, .int (nI 0)), (6, .int (bI true))]) (fun u => []) (fun u => mdW tc h ar now u ai al) (fun hJ24 => ?_) ?_
  · skip
    refine vx_gon hC hFt hini (vx_ends hC hr hlk) jc_Mo_tags 0 24 (by decide) rfl ?_
    refine mo_call hC (c_Mo_open l D tys tc hty h ar now sc ai al G) wm_Mo_open wl_Mo_199 wi_Mo_open ws_Mo_Mo_open ⟨by decide, by decide⟩ rfl rfl (Nat.le_of_ble_eq_true rfl) ⟨Nat.zero_le _, Nat.zero_le _⟩ (fun r' w1 hp => ?_)
    obtain ⟨rfl, rfl⟩ := hp
    refine mo_call hC (c_Mo_gap l D tys tc hty h ar now (upd (upd sc 11 (nI G)) 12 (nI 0)) ai al G T 0 hT.opn) wm_Mo_gap wl_Mo_156 wi_Mo_gap ws_Mo_Mo_gap ⟨by decide, by decide⟩ rfl rfl (Nat.le_of_ble_eq_true rfl) ⟨Nat.zero_le _, Nat.zero_le _⟩ (fun r' w1 hp => ?_)
    obtain ⟨rfl, rfl⟩ := hp
    rw [hP0]
    refine mo_call hC (c_Mo_take l D tys tc hty h ar now (upd (upd (upd sc 11 (nI G)) 12 (nI 0)) 12 (nI P0)) ai al G T P0 (hT.opn.at (by omega)) 42 (by decide)) wm_Mo_take wl_Mo_153 wi_Mo_take ws_Mo_Mo_take ⟨by decide, by decide⟩ rfl rfl (Nat.le_of_ble_eq_true rfl) ⟨Nat.zero_le _, Nat.zero_le _⟩ (fun r' w1 hp => ?_)
    obtain ⟨rfl, rfl⟩ := hp
    refine And.intro (fun c8 => ?_) (fun c8 => ?_)
    · skip
      have c8 : ¬ T.getD P0 0 = 42 := of_decide_eq_false (bI_eq c8)
      rw [if_neg c8, upd_upd]
      refine vx_gon hC hFt hini (vx_ends hC hr hlk) jc_Mo_tags 18 6 (by decide) rfl ?_
      refine Vx.subL (lv' := [(0, .ref h), (1, .int (nI G)), (2, .int (iI N)), (3, .int (bI str)), (4, .int (bI false)), (5, .int (nI 0)), (6, .int (bI true))]) [3, 4, 5, 6, 2, 1, 0] rfl ?_
      exact hJ24 (upd (upd (upd sc 11 (nI G)) 12 (nI 0)) 12 (nI P0)) ⟨((gq.refl.upd (k := 11) (by decide)).upd (k := 12) (by decide)).upd (k := 12) (by decide), rfl, rfl, c8⟩
    · skip
      have c8 : T.getD P0 0 = 42 := of_decide_eq_true (bI_ne c8)
      rw [if_pos c8]
      have hin := T_in (T := T) (k := P0) (by omega)
      refine mo_call hC (c_Mo_gap l D tys tc hty h ar now (upd (upd (upd (upd sc 11 (nI G)) 12 (nI 0)) 12 (nI P0)) 12 (nI (P0 + 1))) ai al G T (P0 + 1) ((hT.opn.at (p2 := P0) (by omega)).at (by omega))) wm_Mo_gap wl_Mo_156 wi_Mo_gap ws_Mo_Mo_gap ⟨by decide, by decide⟩ rfl rfl (Nat.le_of_ble_eq_true rfl) ⟨Nat.zero_le _, Nat.zero_le _⟩ (fun r' w1 hp => ?_)
      obtain ⟨rfl, rfl⟩ := hp
      refine mo_call hC (c_Mo_ended l D tys tc hty h ar now (upd (upd (upd (upd (upd sc 11 (nI G)) 12 (nI 0)) 12 (nI P0)) 12 (nI (P0 + 1))) 12 (nI (pz T (P0 + 1) isGp))) ai al G T (pz T (P0 + 1) isGp) (((hT.opn.at (p2 := P0) (by omega)).at (p2 := P0 + 1) (by omega)).at (pz_le (by omega) (by omega)))) wm_Mo_ended wl_Mo_166 wi_Mo_ended ws_Mo_Mo_ended ⟨by decide, by decide⟩ rfl rfl (Nat.le_of_ble_eq_true rfl) ⟨Nat.zero_le _, Nat.zero_le _⟩ (fun r' w1 hp => ?_)
      obtain ⟨rfl, rfl⟩ := hp
      refine And.intro (fun c13 => ?_) (fun c13 => ?_)
      · skip
        have c13 : ¬ T.length ≤ pz T (P0 + 1) isGp := of_decide_eq_false (bI_eq c13)
        refine vx_gon hC hFt hini (vx_ends hC hr hlk) jc_Mo_tags 16 8 (by decide) rfl ?_
        refine And.intro (trivial) (And.intro ?_ (And.intro (Nat.le_refl _) (Nat.le_refl _)))
        rw [show tgsL W T = none by rw [tgsL, hgpT, pk_at (by decide), if_pos c8, if_pos rfl, gp_at, if_neg (by rw [drop_get (Nat.lt_of_not_le c13)]; exact List.cons_ne_nil _ _)]]
        exact ⟨rfl, _, rfl, ((((gq.refl.upd (k := 11) (by decide)).upd (k := 12) (by decide)).upd (k := 12) (by decide)).upd (k := 12) (by decide)).upd (k := 12) (by decide)⟩
      · skip
        have c13 : T.length ≤ pz T (P0 + 1) isGp := of_decide_eq_true (bI_ne c13)
        refine vx_gon hC hFt hini (vx_ends hC hr hlk) jc_Mo_tags 17 7 (by decide) rfl ?_
        refine And.intro (trivial) (And.intro ?_ (And.intro (Nat.le_refl _) (Nat.le_refl _)))
        rw [show tgsL W T = some (true, false, false) by rw [tgsL, hgpT, pk_at (by decide), if_pos c8, if_pos rfl, gp_at, if_pos (drop_end c13)]]
        exact ⟨rfl, _, rfl, ((((gq.refl.upd (k := 11) (by decide)).upd (k := 12) (by decide)).upd (k := 12) (by decide)).upd (k := 12) (by decide)).upd (k := 12) (by decide)⟩
  · skip
    rintro s4 ⟨hg4, h411, h412, c8⟩
    obtain ⟨RES, hRES⟩ : ∃ RES, tgL W 97 0 false false (T.drop P0) = RES := ⟨_, rfl⟩
    rw [show tgsL W T = RES.map (fun u => (false, u)) by rw [tgsL, hgpT, pk_at (by decide), if_neg c8, if_neg (fun z => by cases z), hRES]]
    obtain ⟨pp, hpp⟩ : ∃ pp, pp = P0 := ⟨_, rfl⟩
    obtain ⟨sm, hsm0⟩ : ∃ sm : Bool, sm = false := ⟨_, rfl⟩
    obtain ⟨sg, hsg0⟩ : ∃ sg : Bool, sg = false := ⟨_, rfl⟩
    obtain ⟨fd, hfd0⟩ : ∃ fd : Bool, fd = false := ⟨_, rfl⟩
    obtain ⟨els, he0⟩ : ∃ els : Nat, els = 0 := ⟨_, rfl⟩
    obtain ⟨mo, hmo0⟩ : ∃ mo : Bool, mo = true := ⟨_, rfl⟩
    obtain ⟨n, hn⟩ : ∃ n : Nat, n = 97 := ⟨_, rfl⟩
    refine Vx.eqs rfl (lv2 := [(0, .ref h), (1, .int (nI G)), (2, .int (iI N)), (3, .int (bI str)), (4, .int (bI fd)), (5, .int (nI els)), (6, .int (bI mo))]) (by rw [hfd0, he0, hmo0]) rfl rfl ?_
    rw [← hpp] at h412
    have hpl : pp ≤ T.length := by omega
    have hres : tgL W n els sm sg (T.drop pp) = RES := by rw [hn, he0, hsm0, hsg0, hpp]; exact hRES
    have hfd : fd = fdN N str wk sm sg := by rw [hfd0, hsm0, hsg0]; simp [fdN]
    have hfu : T.length - pp < n := by omega
    have hmo : mo = false → gc (T.drop pp) = [] := fun z => by rw [hmo0] at z; cases z
    have hel : els + (T.length - pp) ≤ 97 := by omega
    clear hpp hsm0 hsg0 hfd0 he0 hmo0 hn hRES c8
    induction n generalizing s4 pp sm sg fd els mo with
    | zero => omega
    | succ n ih =>
      have hM4 : mdS s4 ai G T pp := ⟨hT.1, h411, hT.2.1, hT.2.2.1, hT.2.2.2, h412, by omega⟩
      have hQ9 := pz_ge (T := T) (a := pp) (q := isGc)
      refine vx_cut (α := ((Nat → Int32) × Nat × Bool)) 121 (fun u => gq sc u.1 ∧ u.1 11 = nI G ∧ u.1 12 = nI u.2.1 ∧ u.2.1 ≤ T.length ∧ (tgt (gc (T.drop pp))).1 = true ∧ T.drop u.2.1 = (tgt (gc (T.drop pp))).2.2.1 ∧ u.2.2 = fdN N str wk (sm || sameL (tgt (gc (T.drop pp))).2.2.2 W) (sg || (sameL (tgt (gc (T.drop pp))).2.2.2 W && !(tgt (gc (T.drop pp))).2.1))) (fun u => [(0, .ref h), (1, .int (nI G)), (2, .int (iI N)), (3, .int (bI str)), (4, .int (bI u.2.2)), (5, .int (nI els + 1)), (6, .int (bI true))]) (fun u => []) (fun u => mdW tc h ar now u.1 ai al) (fun hJ62 => ?_) ?_
      · skip
        refine vx_gon hC hFt hini (vx_ends hC hr hlk) jc_Mo_tags 24 38 (by decide) rfl ?_
        refine And.intro (fun c26 => ?_) (fun c26 => ?_)
        · skip
          have hmo9 : mo = false := by cases mo with
            | false => rfl
            | true => exact absurd rfl c26
          subst hmo9
          refine vx_go hC hFt hini (vx_ends hC hr hlk) jc_Mo_tags 70 (by decide) rfl ?_
          refine And.intro (fun c71 => ?_) (fun c71 => ?_)
          · skip
            have c71 : ¬ els = 0 := fun z => c71 (by rw [z]; rfl)
            refine vx_go hC hFt hini (vx_ends hC hr hlk) jc_Mo_tags 74 (by decide) rfl ?_
            refine And.intro (trivial) (And.intro ?_ (And.intro (Nat.le_refl _) (Nat.le_refl _)))
            rw [tgL, if_pos (hmo rfl), if_neg c71] at hres
            subst hres
            refine ⟨?_, s4, rfl, hg4⟩
            rw [hfd]
            rfl
          · skip
            have c71 : els = 0 := (nI_eq (b := 0) (by omega) (by omega)).mp c71
            refine vx_go hC hFt hini (vx_ends hC hr hlk) jc_Mo_tags 75 (by decide) rfl ?_
            refine And.intro (trivial) (And.intro ?_ (And.intro (Nat.le_refl _) (Nat.le_refl _)))
            rw [tgL, if_pos (hmo rfl), if_pos c71] at hres
            subst hres
            exact ⟨rfl, s4, rfl, hg4⟩
        · skip
          have hmo9 : mo = true := by cases mo with
            | true => rfl
            | false => exact absurd c26 (by decide)
          subst hmo9
          refine mo_call hC (c_Mo_element l D tys tc hty h ar now s4 ai al G T pp hM4) wm_Mo_element wl_Mo_203 wi_Mo_element ws_Mo_Mo_element ⟨by decide, by decide⟩ rfl rfl (Nat.le_of_ble_eq_true rfl) ⟨Nat.zero_le _, Nat.zero_le _⟩ (fun r' w1 hp => ?_)
          obtain ⟨rfl, rfl⟩ := hp
          refine And.intro (fun c29 => ?_) (fun c29 => ?_)
          · skip
            have c29 : gc (T.drop pp) = [] := by rw [gc_at]; exact drop_end (Nat.le_of_not_lt (of_decide_eq_false (bI_eq c29)))
            refine vx_go hC hFt hini (vx_ends hC hr hlk) jc_Mo_tags 70 (by decide) rfl ?_
            refine And.intro (fun c71 => ?_) (fun c71 => ?_)
            · skip
              have c71 : ¬ els = 0 := fun z => c71 (by rw [z]; rfl)
              refine vx_go hC hFt hini (vx_ends hC hr hlk) jc_Mo_tags 74 (by decide) rfl ?_
              refine And.intro (trivial) (And.intro ?_ (And.intro (Nat.le_refl _) (Nat.le_refl _)))
              rw [tgL, if_pos (c29), if_neg c71] at hres
              subst hres
              refine ⟨?_, (upd s4 12 (nI (pz T pp isGc))), rfl, (hg4.upd (by decide))⟩
              rw [hfd]
              rfl
            · skip
              have c71 : els = 0 := (nI_eq (b := 0) (by omega) (by omega)).mp c71
              refine vx_go hC hFt hini (vx_ends hC hr hlk) jc_Mo_tags 75 (by decide) rfl ?_
              refine And.intro (trivial) (And.intro ?_ (And.intro (Nat.le_refl _) (Nat.le_refl _)))
              rw [tgL, if_pos (c29), if_pos c71] at hres
              subst hres
              exact ⟨rfl, (upd s4 12 (nI (pz T pp isGc))), rfl, (hg4.upd (by decide))⟩
          · skip
            have c29b : (pz T pp isGc) < T.length := of_decide_eq_true (bI_ne c29)
            have c29 : ¬ gc (T.drop pp) = [] := by rw [gc_at, drop_get c29b]; exact List.cons_ne_nil _ _
            refine mo_call hC (c_Mo_tagText l D tys tc hty h ar now (upd s4 12 (nI (pz T pp isGc))) ai al G T (pz T pp isGc) (hM4.at (by omega)) (by omega)) wm_Mo_tagText wl_Mo_235 wi_Mo_tagText ws_Mo_Mo_tagText ⟨by decide, by decide⟩ rfl rfl (Nat.le_of_ble_eq_true rfl) ⟨Nat.zero_le _, Nat.zero_le _⟩ (fun r' w1 hp => ?_)
            obtain ⟨rfl, s5, p5, rfl, hg5, h511, h512, hp5l, hx5⟩ := hp
            have hM5 : mdS s5 ai G T p5 := hM4.gq (h511.trans (pk_un (by decide))) h512 (by omega)
            refine And.intro (fun c32 => ?_) (fun c32 => ?_)
            · skip
              have c32 : (tgt (T.drop (pz T pp isGc))).1 = true := bI_ne c32
              have hx5 := hx5 c32
              obtain ⟨h515, a5, b5, h513, h514, hab5, hb5, hS5⟩ := hx5.2
              refine vx_gon hC hFt hini (vx_ends hC hr hlk) jc_Mo_tags 35 27 (by decide) rfl ?_
              refine And.intro (fun c37 => ?_) (fun c37 => ?_)
              · skip
                have hN0 : N = none := by cases N with
                  | none => rfl
                  | some i => exact absurd c37 (nI_pos (by have := (hN i rfl).1; omega))
                refine vx_gon hC hFt hini (vx_ends hC hr hlk) jc_Mo_tags 54 8 (by decide) rfl ?_
                refine And.intro (fun c57 => ?_) (fun c57 => ?_)
                · skip
                  refine vx_gon hC hFt hini (vx_ends hC hr hlk) jc_Mo_tags 60 2 (by decide) rfl ?_
                  refine Vx.subL (lv' := [(0, .ref h), (1, .int (nI G)), (2, .int (iI N)), (3, .int (bI str)), (4, .int (bI fd)), (5, .int (nI els + 1)), (6, .int (bI true))]) [3, 4, 5, 6, 0, 2, 7] rfl ?_
                  exact hJ62 (s5, p5, fd) ⟨(hg4.upd (by decide)).trans hg5, h511.trans h411, h512, hp5l, by rw [gc_at]; exact c32, by rw [gc_at]; exact hx5.1, by rw [gc_at, hfd]; simp [fdN, hN0]⟩
                · skip
                  exact absurd rfl c57
              · skip
                obtain ⟨i, hN1⟩ : ∃ i, N = some i := by cases N with
                  | none => exact absurd (by decide) c37
                  | some i => exact ⟨i, rfl⟩
                obtain ⟨hi4, htg, htl, hwk, hW⟩ := hN i hN1
                refine mo_call hC (c_Mo_isTagOf l D tys tc hty h ar now s5 ai al G T p5 hM5 a5 b5 hab5 hb5 h513 h514 i tg hi4 htg htl) wm_Mo_isTagOf wl_Mo_238 wi_Mo_isTagOf ws_Mo_Mo_isTagOf ⟨by decide, by decide⟩ rfl (by rw [hN1]; rfl) (Nat.le_of_ble_eq_true rfl) ⟨Nat.zero_le _, Nat.zero_le _⟩ (fun r' w1 hp => ?_)
                obtain ⟨rfl, rfl⟩ := hp
                refine And.intro (fun c41 => ?_) (fun c41 => ?_)
                · skip
                  have c41 : sameL (tgt (T.drop (pz T pp isGc))).2.2.2 W = false := by rw [hS5, hW]; exact bI_eq c41
                  refine vx_gon hC hFt hini (vx_ends hC hr hlk) jc_Mo_tags 54 8 (by decide) rfl ?_
                  refine And.intro (fun c57 => ?_) (fun c57 => ?_)
                  · skip
                    refine vx_gon hC hFt hini (vx_ends hC hr hlk) jc_Mo_tags 60 2 (by decide) rfl ?_
                    refine Vx.subL (lv' := [(0, .ref h), (1, .int (nI G)), (2, .int (iI N)), (3, .int (bI str)), (4, .int (bI fd)), (5, .int (nI els + 1)), (6, .int (bI true))]) [3, 4, 5, 6, 0, 2, 7] rfl ?_
                    exact hJ62 (s5, p5, fd) ⟨(hg4.upd (by decide)).trans hg5, h511.trans h411, h512, hp5l, by rw [gc_at]; exact c32, by rw [gc_at]; exact hx5.1, by rw [gc_at, hfd]; simp [fdN, c41, hN1]⟩
                  · skip
                    exact absurd rfl c57
                · skip
                  have c41 : sameL (tgt (T.drop (pz T pp isGc))).2.2.2 W = true := by rw [hS5, hW]; exact bI_ne c41
                  refine And.intro (fun c43 => ?_) (fun c43 => ?_)
                  · skip
                    have c43 : str = false := bI_eq c43
                    refine vx_gon hC hFt hini (vx_ends hC hr hlk) jc_Mo_tags 52 10 (by decide) rfl ?_
                    refine vx_gon hC hFt hini (vx_ends hC hr hlk) jc_Mo_tags 55 7 (by decide) rfl ?_
                    refine And.intro (fun c57 => ?_) (fun c57 => ?_)
                    · skip
                      exact absurd c57 (by decide)
                    · skip
                      refine vx_gon hC hFt hini (vx_ends hC hr hlk) jc_Mo_tags 61 1 (by decide) rfl ?_
                      refine Vx.subL (lv' := [(0, .ref h), (1, .int (nI G)), (2, .int (iI N)), (3, .int (bI str)), (4, .int (bI true)), (5, .int (nI els + 1)), (6, .int (bI true))]) [3, 4, 5, 6, 0, 2, 7] rfl ?_
                      exact hJ62 (s5, p5, true) ⟨(hg4.upd (by decide)).trans hg5, h511.trans h411, h512, hp5l, by rw [gc_at]; exact c32, by rw [gc_at]; exact hx5.1, by rw [gc_at]; simp [fdN, c41, hN1, c43]⟩
                  · skip
                    have c43 : str = true := bI_ne c43
                    refine And.intro rfl ?_
                    refine And.intro (fun c46 => ?_) (fun c46 => ?_)
                    · skip
                      have c46 : (tgt (T.drop (pz T pp isGc))).2.1 = true := by rw [h515] at c46; exact bI_ne c46
                      refine vx_gon hC hFt hini (vx_ends hC hr hlk) jc_Mo_tags 54 8 (by decide) rfl ?_
                      refine And.intro (fun c57 => ?_) (fun c57 => ?_)
                      · skip
                        refine vx_gon hC hFt hini (vx_ends hC hr hlk) jc_Mo_tags 60 2 (by decide) rfl ?_
                        refine Vx.subL (lv' := [(0, .ref h), (1, .int (nI G)), (2, .int (iI N)), (3, .int (bI str)), (4, .int (bI fd)), (5, .int (nI els + 1)), (6, .int (bI true))]) [3, 4, 5, 6, 0, 2, 7] rfl ?_
                        exact hJ62 (s5, p5, fd) ⟨(hg4.upd (by decide)).trans hg5, h511.trans h411, h512, hp5l, by rw [gc_at]; exact c32, by rw [gc_at]; exact hx5.1, by rw [gc_at, hfd]; simp [fdN, c41, hN1, c43, c46]⟩
                      · skip
                        exact absurd rfl c57
                    · skip
                      have c46 : (tgt (T.drop (pz T pp isGc))).2.1 = false := by rw [h515] at c46; exact bI_eq c46
                      refine And.intro rfl ?_
                      refine And.intro rfl (And.intro rfl (And.intro (show vp_in (iI N) 4 by rw [hN1]; exact vp_in_nI hi4 (by decide)) ?_))
                      rw [show (iI N).toNatClampNeg = i by rw [hN1]; exact nI_clamp (by omega), hwk]
                      refine And.intro (fun c51 => ?_) (fun c51 => ?_)
                      · skip
                        have c51 : wk = true := bI_ne c51
                        refine vx_gon hC hFt hini (vx_ends hC hr hlk) jc_Mo_tags 54 8 (by decide) rfl ?_
                        refine And.intro (fun c57 => ?_) (fun c57 => ?_)
                        · skip
                          refine vx_gon hC hFt hini (vx_ends hC hr hlk) jc_Mo_tags 60 2 (by decide) rfl ?_
                          refine Vx.subL (lv' := [(0, .ref h), (1, .int (nI G)), (2, .int (iI N)), (3, .int (bI str)), (4, .int (bI fd)), (5, .int (nI els + 1)), (6, .int (bI true))]) [3, 4, 5, 6, 0, 2, 7] rfl ?_
                          exact hJ62 (s5, p5, fd) ⟨(hg4.upd (by decide)).trans hg5, h511.trans h411, h512, hp5l, by rw [gc_at]; exact c32, by rw [gc_at]; exact hx5.1, by rw [gc_at, hfd]; simp [fdN, c41, hN1, c43, c46, c51]⟩
                        · skip
                          exact absurd rfl c57
                      · skip
                        have c51 : wk = false := bI_eq c51
                        refine vx_gon hC hFt hini (vx_ends hC hr hlk) jc_Mo_tags 55 7 (by decide) rfl ?_
                        refine And.intro (fun c57 => ?_) (fun c57 => ?_)
                        · skip
                          exact absurd c57 (by decide)
                        · skip
                          refine vx_gon hC hFt hini (vx_ends hC hr hlk) jc_Mo_tags 61 1 (by decide) rfl ?_
                          refine Vx.subL (lv' := [(0, .ref h), (1, .int (nI G)), (2, .int (iI N)), (3, .int (bI str)), (4, .int (bI true)), (5, .int (nI els + 1)), (6, .int (bI true))]) [3, 4, 5, 6, 0, 2, 7] rfl ?_
                          exact hJ62 (s5, p5, true) ⟨(hg4.upd (by decide)).trans hg5, h511.trans h411, h512, hp5l, by rw [gc_at]; exact c32, by rw [gc_at]; exact hx5.1, by rw [gc_at]; simp [fdN, c41, hN1, c43, c46, c51]⟩
            · skip
              have c32 : (tgt (T.drop (pz T pp isGc))).1 = false := bI_eq c32
              refine And.intro (trivial) (And.intro ?_ (And.intro (Nat.le_refl _) (Nat.le_refl _)))
              rw [tgL, if_neg c29, if_neg (by rw [gc_at, c32]; decide)] at hres
              subst hres
              exact ⟨rfl, s5, rfl, (hg4.upd (by decide)).trans hg5⟩
      · rintro ⟨s5, p5, f5⟩ ⟨hg5, h511, h512, hp5l, ht1, ht2, hf5⟩
        replace hg5 : gq sc s5 := hg5
        replace h511 : s5 11 = nI G := h511
        replace h512 : s5 12 = nI p5 := h512
        replace hp5l : p5 ≤ T.length := hp5l
        replace ht2 : T.drop p5 = (tgt (gc (T.drop pp))).2.2.1 := ht2
        replace hf5 : f5 = fdN N str wk (sm || sameL (tgt (gc (T.drop pp))).2.2.2 W) (sg || (sameL (tgt (gc (T.drop pp))).2.2.2 W && !(tgt (gc (T.drop pp))).2.1)) := hf5
        have hgc : ¬ gc (T.drop pp) = [] := fun z => by rw [z] at ht1; cases ht1
        have hlen := tgt_len ht1
        rw [← ht2, gc_at, List.length_drop, List.length_drop] at hlen
        have hM5 : mdS s5 ai G T p5 := ⟨hT.1, h511, hT.2.1, hT.2.2.1, hT.2.2.2, h512, by omega⟩
        have hP2 := pz_lt (T := T) (a := p5) (q := isGp) hp5l
        have hP3 := pz_ge (T := T) (a := p5) (q := isGp)
        refine vx_go hC hFt hini (vx_ends hC hr hlk) jc_Mo_tags 62 (by decide) rfl ?_
        refine mo_call hC (c_Mo_separator l D tys tc hty h ar now s5 ai al G T p5 hM5) wm_Mo_separator wl_Mo_209 wi_Mo_separator ws_Mo_Mo_separator ⟨by decide, by decide⟩ rfl rfl (Nat.le_of_ble_eq_true rfl) ⟨Nat.zero_le _, Nat.zero_le _⟩ (fun r' w1 hp => ?_)
        obtain ⟨rfl, rfl⟩ := hp
        refine And.intro (fun c66 => ?_) (fun c66 => ?_)
        · skip
          refine vx_go hC hFt hini (vx_ends hC hr hlk) jc_Mo_tags 69 (by decide) rfl ?_
          refine Vx.subL (lv' := [(0, .ref h), (1, .int (nI G)), (2, .int (iI N)), (3, .int (bI str)), (4, .int (bI f5)), (5, .int (nI els + 1)), (6, .int (sepv T (pz T p5 isGp)))]) [1, 2, 3, 4, 5, 6, 0] rfl ?_
          obtain ⟨hee, mo2, hm1, hm2, hm3, hm4, hm5⟩ := sep_yes c66
          refine Vx.eqs rfl (lv2 := [(0, .ref h), (1, .int (nI G)), (2, .int (iI N)), (3, .int (bI str)), (4, .int (bI f5)), (5, .int (nI (els + 1))), (6, .int (bI mo2))]) (by rw [nI_1, hm1]) rfl rfl ?_
          exact ih (upd s5 12 (nI (if T.getD (pz T p5 isGp) 0 = 44 then pz T p5 isGp + 1 else pz T p5 isGp))) (hg5.upd (by decide)) h511 (if T.getD (pz T p5 isGp) 0 = 44 then pz T p5 isGp + 1 else pz T p5 isGp) pk_us (sm || sameL (tgt (gc (T.drop pp))).2.2.2 W) (sg || (sameL (tgt (gc (T.drop pp))).2.2.2 W && !(tgt (gc (T.drop pp))).2.1)) f5 (els + 1) mo2 (hm4 hP2) (by rw [tgL_gc hm3, ← hres, tgL, if_neg hgc, if_pos ht1, ← ht2, if_pos (show ee (gp (T.drop p5)) = true by rw [gp_at]; exact hee), gp_at]) hf5 (by omega) (fun z => by rw [hm3]; exact hm2 z) (by omega)
        · skip
          refine And.intro (trivial) (And.intro ?_ (And.intro (Nat.le_refl _) (Nat.le_refl _)))
          rw [tgL, if_neg hgc, if_pos ht1, ← ht2, if_neg (by rw [gp_at, sep_no c66]; decide)] at hres
          subst hres
          exact ⟨rfl, upd s5 12 (nI (if T.getD (pz T p5 isGp) 0 = 44 then pz T p5 isGp + 1 else pz T p5 isGp)), rfl, hg5.upd (by decide)⟩
