/-! THE REFERENCE: the field Accept-Language, by program (wip/whole/gen/p41.py) -/
/-- the weight of a language range, if it has one -/
def lwt (r : List Nat) : Option (Nat × List Nat) := if (pk 59 (gp r)).1 = true then (if (pk 113 (bsc r)).1 = true ∨ (pk 81 (bsc r)).1 = true then (match (wt (bsc r).tail).1 with
    | some w => some (w, gp (wt (bsc r).tail).2)
    | none => none) else none) else some (1000, gp r)
theorem lwr_q {x : Nat} (h : x < 256) : lwr x = 113 ↔ x = 113 ∨ x = 81 := by unfold lwr; split <;> omega
theorem pk_c {T : List Nat} {ps c : Nat} (hc : 0 < c) : (pk c (T.drop ps)).1 = true ↔ T.getD ps 0 = c := by
  rw [pk_at hc]
  split
  · rename_i h; exact ⟨fun _ => h, fun _ => rfl⟩
  · rename_i h; exact ⟨(fun z => by cases z), fun z => absurd z h⟩
theorem lwt_some {T : List Nat} {ps : Nat} {u : Nat × Nat} (hT : isT T) (hps : ps ≤ T.length) (h : wia T ps = some u) : lwt (T.drop ps) = some (u.1, gp (T.drop u.2)) ∧ u.1 ≤ 1000 ∧ u.2 ≤ T.length ∧ ps ≤ u.2 := by
  rw [wia] at h
  by_cases h59 : T.getD (pz T ps isGp) 0 = 59
  · rw [if_pos h59] at h
    have hc : (pk 59 (gp (T.drop ps))).1 = true := by rw [gp_at]; exact (pk_c (by decide)).mpr h59
    have hin := T_in (T := T) (k := pz T ps isGp) (by omega)
    have g1 := pz_ge (T := T) (a := ps) (q := isGp)
    have g2 := pz_ge (T := T) (a := pz T ps isGp + 1) (q := isGp)
    rw [lwt, if_pos hc, bsc_at h59]
    by_cases hq : lwr (T.getD (pz T (pz T ps isGp + 1) isGp) 0) = 113
    · rw [if_pos hq] at h
      have hq2 := (lwr_q (T_lt hT _)).mp hq
      have hin2 := T_in (T := T) (k := pz T (pz T ps isGp + 1) isGp) (by omega)
      rw [if_pos (hq2.elim (fun z => Or.inl ((pk_c (by decide)).mpr z)) (fun z => Or.inr ((pk_c (by decide)).mpr z)))]
      rw [List.tail_drop]
      by_cases h61 : T.getD (pz T (pz T ps isGp + 1) isGp + 1) 0 = 61
      · rw [if_pos h61] at h
        obtain ⟨k1, k2, k3, k4⟩ := wt_some h61 h
        rw [k1]
        exact ⟨rfl, k2, k3, by omega⟩
      · rw [if_neg h61] at h; cases h
    · rw [if_neg hq] at h; cases h
  · rw [if_neg h59] at h
    obtain rfl := Option.some.inj h
    rw [lwt, if_neg (fun z => h59 ((pk_c (by decide)).mp (by rw [← gp_at]; exact z)))]
    exact ⟨rfl, Nat.le_refl _, hps, Nat.le_refl _⟩
theorem lwt_none {T : List Nat} {ps : Nat} (hT : isT T) (h : wia T ps = none) : lwt (T.drop ps) = none := by
  rw [wia] at h
  by_cases h59 : T.getD (pz T ps isGp) 0 = 59
  · rw [if_pos h59] at h
    have hc : (pk 59 (gp (T.drop ps))).1 = true := by rw [gp_at]; exact (pk_c (by decide)).mpr h59
    rw [lwt, if_pos hc, bsc_at h59]
    by_cases hq : lwr (T.getD (pz T (pz T ps isGp + 1) isGp) 0) = 113
    · rw [if_pos hq] at h
      have hq2 := (lwr_q (T_lt hT _)).mp hq
      rw [if_pos (hq2.elim (fun z => Or.inl ((pk_c (by decide)).mpr z)) (fun z => Or.inr ((pk_c (by decide)).mpr z))), List.tail_drop]
      by_cases h61 : T.getD (pz T (pz T ps isGp + 1) isGp + 1) 0 = 61
      · rw [if_pos h61] at h
        rw [wt_none h61 h]
      · rw [wt_no h61]
    · rw [if_neg (fun z => hq ((lwr_q (T_lt hT _)).mpr (z.elim (fun y => Or.inl ((pk_c (by decide)).mp y)) (fun y => Or.inr ((pk_c (by decide)).mp y)))))]
  · rw [if_neg h59] at h; cases h
def coL (wh : Nat) : List Nat := WDS.getD (10 + wh) []
def beL (wh : Nat) : List Nat := if wh = 1 then [101, 110] else if wh = 3 then [100, 101] else []
/-- 0: a range doesn't fit; 1: the star; else one more than its length -/
def fitL (C B S : List Nat) : Nat := if S = [42] then 1 else if (alikeL S C || alikeL S B) = true then S.length + 1 else 0
def lanL (C B : List Nat) : Nat → Nat → Nat → Nat → List Nat → Option Nat
  | 0, _, _, _, _ => none
  | n + 1, els, lg, q, rs => if gc rs = [] then (if els = 0 then none else some q) else if (lgt (gc rs)).1 = true then (match lwt (lgt (gc rs)).2.1 with
    | none => none
    | some u => if ee u.2 = true then lanL C B n (els + 1) (if lg < fitL C B (lgt (gc rs)).2.2 then fitL C B (lgt (gc rs)).2.2 else lg) (if lg < fitL C B (lgt (gc rs)).2.2 then u.1 else q) u.2 else none) else none
theorem lanL_gc {C B : List Nat} {n els lg q : Nat} {r1 r2 : List Nat} (h : gc r1 = gc r2) : lanL C B n els lg q r1 = lanL C B n els lg q r2 := by
  cases n with
  | zero => rfl
  | succ n => rw [lanL, lanL, h]
theorem lgt_s {T : List Nat} {p : Nat} (h : T.getD p 0 = 42) : lgt (T.drop p) = (true, T.drop (p + 1), [42]) := by rw [lgt, pk_at (by decide), if_pos h]
theorem lgt_l {T : List Nat} {p : Nat} (h : ¬ T.getD p 0 = 42) : lgt (T.drop p) = lng 0 false (T.drop p) [] := by rw [lgt, pk_at (by decide), if_neg h]
theorem lng_ne {sub : Nat} {dt : Bool} {rs S : List Nat} (h : (lng sub dt rs S).1 = true) (hs : 0 < sub → S ≠ []) : (lng sub dt rs S).2.2 ≠ [] := by
  induction rs generalizing sub dt S with
  | nil => exact hs (of_decide_eq_true h)
  | cons x r ih =>
    unfold lng at h ⊢
    split at h
    · rename_i h1
      rw [if_pos h1]
      split at h
      · cases h
      · rename_i h2
        rw [if_neg h2]
        exact ih h (fun z => by omega)
    · rename_i h1
      rw [if_neg h1]
      split at h
      · rename_i h2
        rw [if_pos h2]
        split at h
        · cases h
        · rename_i h3
          rw [if_neg h3]
          exact ih h (fun _ z => by simp at z)
      · rename_i h2
        rw [if_neg h2]
        exact hs (of_decide_eq_true h)
theorem spk_al {S : List Nat} {wh : Nat} (hw : wh < 5) (hS : S ≠ []) : spk S (WDS.getD (10 + wh) []) = (alikeL S (coL wh) || alikeL S (beL wh)) := by
  unfold spk alikeL coL
  have hl : 0 < S.length := List.length_pos_iff.mpr hS
  have hm : (S.map lwr).length = S.length := List.length_map _
  rw [← hm] at hl ⊢
  have hS2 : S.map lwr ≠ [] := fun z => hS (List.map_eq_nil_iff.mp z)
  generalize S.map lwr = Y at hl hS2
  rcases (show wh = 0 ∨ wh = 1 ∨ wh = 2 ∨ wh = 3 ∨ wh = 4 by omega) with rfl | rfl | rfl | rfl | rfl
  all_goals (
    match Y, hl with
    | [a], _ => simp [WDS, beL, lwr]
    | [a, b], _ => simp [WDS, beL, lwr]
    | [a, b, c], _ => simp [WDS, beL, lwr]
    | [a, b, c, d], _ => simp [WDS, beL, lwr]
    | [a, b, c, d, e], _ => simp [WDS, beL, lwr]
    | a :: b :: c :: d :: e :: f :: Z, _ => simp [WDS, beL, lwr])
/-- the two ways to keep the best range -/
def lnR (lg q lo qu : Nat) (st : Int32) : Prop := (lg = 0 ∧ q = 0 ∧ lo = 0 ∧ st = -1) ∨ (lg = 1 ∧ lo = 0 ∧ q ≤ 1000 ∧ st = nI q) ∨ (2 ≤ lg ∧ lo + 1 = lg ∧ qu = q)
theorem lnR_s {lg q lo qu w : Nat} {st : Int32} (h : lnR lg q lo qu st) (hw : w ≤ 1000) : (st < 0 → lnR (if lg < 1 then 1 else lg) (if lg < 1 then w else q) lo qu (nI w)) ∧ (¬ st < 0 → lnR (if lg < 1 then 1 else lg) (if lg < 1 then w else q) lo qu st) := by
  rcases h with ⟨rfl, rfl, rfl, rfl⟩ | ⟨rfl, rfl, hq, rfl⟩ | ⟨h1, h2, h3⟩
  · exact ⟨fun _ => Or.inr (Or.inl ⟨rfl, rfl, hw, rfl⟩), fun z => absurd (by decide) z⟩
  · exact ⟨fun z => absurd z (nI_pos (by omega)), fun _ => Or.inr (Or.inl ⟨rfl, rfl, hq, rfl⟩)⟩
  · rw [if_neg (by omega), if_neg (by omega)]
    exact ⟨fun _ => Or.inr (Or.inr ⟨h1, h2, h3⟩), fun _ => Or.inr (Or.inr ⟨h1, h2, h3⟩)⟩
theorem lnR_f {lg q lo qu w nn : Nat} {st : Int32} (h : lnR lg q lo qu st) (hn : 1 ≤ nn) : (lo < nn → lnR (if lg < nn + 1 then nn + 1 else lg) (if lg < nn + 1 then w else q) nn w st) ∧ (¬ lo < nn → lnR (if lg < nn + 1 then nn + 1 else lg) (if lg < nn + 1 then w else q) lo qu st) := by
  rcases h with ⟨rfl, rfl, rfl, rfl⟩ | ⟨rfl, rfl, hq, rfl⟩ | ⟨h1, h2, h3⟩
  · exact ⟨fun _ => by rw [if_pos (by omega), if_pos (by omega)]; exact Or.inr (Or.inr ⟨by omega, rfl, rfl⟩), fun z => absurd hn (by omega)⟩
  · exact ⟨fun _ => by rw [if_pos (by omega), if_pos (by omega)]; exact Or.inr (Or.inr ⟨by omega, rfl, rfl⟩), fun z => absurd hn (by omega)⟩
  · refine ⟨fun z => ?_, fun z => ?_⟩
    · rw [if_pos (by omega), if_pos (by omega)]; exact Or.inr (Or.inr ⟨by omega, rfl, rfl⟩)
    · rw [if_neg (by omega), if_neg (by omega)]; exact Or.inr (Or.inr ⟨h1, h2, h3⟩)
theorem al_5 {S : List Nat} (h : S ≠ []) : (alikeL S (coL 5) || alikeL S (beL 5)) = false := by
  have h2 : S.map lwr ≠ [] := fun z => h (List.map_eq_nil_iff.mp z)
  simp [alikeL, coL, beL, WDS, h]
set_option maxRecDepth 100000 in
set_option maxHeartbeats 4000000 in
theorem c_Mo_spoken (l : Launch) (D : va_G) (tys : List (ClassId × FieldType)) (tc : Nat → ClassId) (hty : ∀ i : Nat, i < 4 → tys[i]? = some (tc i, vx_ty i)) (h : Nat) (ar : Nat → Nat) (now : Int64) (sc : Nat → Int32) (ai : Nat → Nat → Int32) (al : Nat → Nat → Int64) (T : List Nat) (hT : mdT ai 1 T) (wh : Nat) (hwh : wh < 6) (hWd : mdWd al) : Kt l y_Mo_spoken (yw y_Mo_spoken b_Mo_spoken 10 (some .int)) 5 106 0 0 D cls tys (fun _ _ _ => True) [.ref h, .int (nI wh)] (mdW tc h ar now sc ai al) (fun r w => r = some (.int (iI (lanL (coL wh) (beL wh) 97 0 0 0 T))) ∧ ∃ s2, w = mdW tc h ar now s2 ai al ∧ gq sc s2) := by
  refine Kt.of ro_true (by decide) rfl hty (Nat.le_of_ble_eq_true rfl) ?_
  intro p e s m args below meth c0 A hC hr hlk hnm hF
  have hFt : vx_Ft y_Mo_spoken.cls (yw y_Mo_spoken b_Mo_spoken 10 (some .int)) cls cty ft_Mo := ft_of (fun w h => List.mem_cons_of_mem _ h) fl_Mo_in ft_Mo_b
  have hini : false = true → meth.name = "<init>" := fun h => by cases h
  have hTl := hT.2.2.2.1
  generalize hres0 : lanL (coL wh) (beL wh) 97 0 0 0 T = RES
  refine vx_cut (α := (Nat → Int32)) 18 (fun u => u = upd (upd sc 11 (nI 1)) 12 (nI 0)) (fun u => [(0, .ref h), (1, .int (nI wh)), (2, .int (nI 0)), (3, .int (nI 0)), (4, .int (-1)), (5, .int (nI 0)), (6, .int (bI true))]) (fun u => []) (fun u => mdW tc h ar now u ai al) (fun hJ13 => ?_) ?_
  · skip
    refine vx_gon hC hFt hini (vx_ends hC hr hlk) jc_Mo_spoken 0 13 (by decide) rfl ?_
    refine mo_call hC (c_Mo_open l D tys tc hty h ar now sc ai al 1) wm_Mo_open wl_Mo_199 wi_Mo_open ws_Mo_Mo_open ⟨by decide, by decide⟩ rfl rfl (Nat.le_of_ble_eq_true rfl) ⟨Nat.zero_le _, Nat.zero_le _⟩ (fun r' w1 hp => ?_)
    obtain ⟨rfl, rfl⟩ := hp
    refine Vx.subL (lv' := [(0, .ref h), (1, .int (nI wh)), (2, .int (nI 0)), (3, .int (nI 0)), (4, .int (-1)), (5, .int (nI 0)), (6, .int (bI true))]) [5, 6, 4, 3, 2, 1, 0] rfl ?_
    exact hJ13 (upd (upd sc 11 (nI 1)) 12 (nI 0)) rfl
  · skip
    intro s4 hs4
    obtain ⟨lg, hlg0⟩ : ∃ lg : Nat, lg = 0 := ⟨_, rfl⟩
    obtain ⟨q, hq0⟩ : ∃ q : Nat, q = 0 := ⟨_, rfl⟩
    obtain ⟨lo, hlo0⟩ : ∃ lo : Nat, lo = 0 := ⟨_, rfl⟩
    obtain ⟨qu, hqu0⟩ : ∃ qu : Nat, qu = 0 := ⟨_, rfl⟩
    obtain ⟨st, hst0⟩ : ∃ st : Int32, st = -1 := ⟨_, rfl⟩
    obtain ⟨els, he0⟩ : ∃ els : Nat, els = 0 := ⟨_, rfl⟩
    obtain ⟨mo, hmo0⟩ : ∃ mo : Bool, mo = true := ⟨_, rfl⟩
    obtain ⟨pp, hpp⟩ : ∃ pp : Nat, pp = 0 := ⟨_, rfl⟩
    obtain ⟨n, hn⟩ : ∃ n : Nat, n = 97 := ⟨_, rfl⟩
    refine Vx.eqs rfl (lv2 := [(0, .ref h), (1, .int (nI wh)), (2, .int (nI lo)), (3, .int (nI qu)), (4, .int (st)), (5, .int (nI els)), (6, .int (bI mo))]) (by rw [hlo0, hqu0, hst0, he0, hmo0]) rfl rfl ?_
    have hR : lnR lg q lo qu st := Or.inl ⟨hlg0, hq0, hlo0, hst0⟩
    have hlo : lo ≤ 96 := by omega
    have hg4 : gq sc s4 := by rw [hs4]; exact (gq.refl.upd (by decide)).upd (by decide)
    have h411 : s4 11 = nI 1 := by rw [hs4]; rfl
    have h412 : s4 12 = nI pp := by rw [hs4, hpp]; rfl
    have hpl : pp ≤ T.length := by omega
    have hres : lanL (coL wh) (beL wh) n els lg q (T.drop pp) = RES := by rw [hn, he0, hlg0, hq0, hpp]; exact hres0
    have hfu : T.length - pp < n := by omega
    have hmo : mo = false → gc (T.drop pp) = [] := fun z => by rw [hmo0] at z; cases z
    have hel : els + (T.length - pp) ≤ 97 := by omega
    clear hlg0 hq0 hlo0 hqu0 hst0 he0 hmo0 hs4 hpp hn hres0
    induction n generalizing lg q lo qu st els mo s4 pp with
    | zero => omega
    | succ n ih =>
      have hM4 : mdS s4 ai 1 T pp := ⟨hT.1, h411, hT.2.1, hT.2.2.1, hT.2.2.2, h412, by omega⟩
      have hQ9 := pz_ge (T := T) (a := pp) (q := isGc)
      refine vx_cut (α := ((Nat → Int32) × Nat × Bool × Nat × Bool)) 98 (fun u => gq sc u.1 ∧ u.1 11 = nI 1 ∧ u.1 12 = nI u.2.1 ∧ u.2.1 ≤ T.length ∧ (pz T pp isGc) < u.2.1 ∧ (lgt (gc (T.drop pp))).1 = true ∧ (lgt (gc (T.drop pp))).2.1 = T.drop u.2.1 ∧ u.2.2.2.1 ≤ 96 ∧ (u.2.2.1 = true → (fitL (coL wh) (beL wh) (lgt (gc (T.drop pp))).2.2) = 1 ∧ u.2.2.2.2 = false) ∧ (u.2.2.1 = false → u.2.2.2.2 = true → (fitL (coL wh) (beL wh) (lgt (gc (T.drop pp))).2.2) = u.2.2.2.1 + 1 ∧ 1 ≤ u.2.2.2.1 ∧ u.2.2.2.1 ≤ 96) ∧ (u.2.2.1 = false → u.2.2.2.2 = false → (fitL (coL wh) (beL wh) (lgt (gc (T.drop pp))).2.2) = 0)) (fun u => [(0, .ref h), (1, .int (nI wh)), (2, .int (nI lo)), (3, .int (nI qu)), (4, .int (st)), (5, .int (nI els)), (6, .int (bI mo)), (7, .int (bI u.2.2.1)), (8, .int (nI u.2.2.2.1)), (9, .int (bI u.2.2.2.2))]) (fun u => []) (fun u => mdW tc h ar now u.1 ai al) (fun hJ53 => ?_) ?_
      · skip
        refine vx_gon hC hFt hini (vx_ends hC hr hlk) jc_Mo_spoken 13 40 (by decide) rfl ?_
        refine And.intro (fun c15 => ?_) (fun c15 => ?_)
        · skip
          have hmo9 : mo = false := by cases mo with
            | false => rfl
            | true => exact absurd rfl c15
          subst hmo9
          refine vx_go hC hFt hini (vx_ends hC hr hlk) jc_Mo_spoken 86 (by decide) rfl ?_
          refine And.intro (fun c87 => ?_) (fun c87 => ?_)
          · skip
            have c87 : ¬ els = 0 := fun z => c87 (by rw [z]; rfl)
            refine vx_go hC hFt hini (vx_ends hC hr hlk) jc_Mo_spoken 90 (by decide) rfl ?_
            refine And.intro (fun c91 => ?_) (fun c91 => ?_)
            · skip
              have c91 : lo = 0 := Nat.eq_zero_of_not_pos (fun z => absurd c91 (nI_nle z (by omega)))
              refine vx_go hC hFt hini (vx_ends hC hr hlk) jc_Mo_spoken 94 (by decide) rfl ?_
              refine And.intro (fun c95 => ?_) (fun c95 => ?_)
              · skip
                refine vx_go hC hFt hini (vx_ends hC hr hlk) jc_Mo_spoken 98 (by decide) rfl ?_
                refine And.intro (trivial) (And.intro ?_ (And.intro (Nat.le_refl _) (Nat.le_refl _)))
                rw [lanL, if_pos (hmo rfl)] at hres
                rw [← hres]
                rw [if_neg c87]
                rcases hR with ⟨-, -, -, rfl⟩ | ⟨-, -, -, rfl⟩ | ⟨z1, z2, -⟩
                · exact absurd c95 (by decide)
                · exact ⟨rfl, s4, rfl, hg4⟩
                · omega
              · skip
                refine vx_go hC hFt hini (vx_ends hC hr hlk) jc_Mo_spoken 99 (by decide) rfl ?_
                refine And.intro (trivial) (And.intro ?_ (And.intro (Nat.le_refl _) (Nat.le_refl _)))
                rw [lanL, if_pos (hmo rfl)] at hres
                rw [← hres]
                rw [if_neg c87]
                rcases hR with ⟨-, rfl, -, -⟩ | ⟨-, -, hq9, rfl⟩ | ⟨z1, z2, -⟩
                · exact ⟨rfl, s4, rfl, hg4⟩
                · exact absurd (nI_pos' (by omega)) c95
                · omega
            · skip
              have c91 : 0 < lo := Nat.pos_of_ne_zero (fun z => c91 (by rw [z]; exact nI_le (Nat.le_refl 0) (by decide)))
              refine vx_go hC hFt hini (vx_ends hC hr hlk) jc_Mo_spoken 99 (by decide) rfl ?_
              refine And.intro (trivial) (And.intro ?_ (And.intro (Nat.le_refl _) (Nat.le_refl _)))
              rw [lanL, if_pos (hmo rfl)] at hres
              rw [← hres]
              rw [if_neg c87]
              obtain rfl : qu = q := by rcases hR with z | z | z <;> omega
              exact ⟨rfl, s4, rfl, hg4⟩
          · skip
            have c87 : els = 0 := (nI_eq (b := 0) (by omega) (by omega)).mp c87
            refine vx_go hC hFt hini (vx_ends hC hr hlk) jc_Mo_spoken 99 (by decide) rfl ?_
            refine And.intro (trivial) (And.intro ?_ (And.intro (Nat.le_refl _) (Nat.le_refl _)))
            rw [lanL, if_pos (hmo rfl)] at hres
            rw [← hres]
            rw [if_pos c87]
            exact ⟨rfl, s4, rfl, hg4⟩
        · skip
          have hmo9 : mo = true := by cases mo with
            | true => rfl
            | false => exact absurd c15 (by decide)
          subst hmo9
          refine mo_call hC (c_Mo_element l D tys tc hty h ar now s4 ai al 1 T pp hM4) wm_Mo_element wl_Mo_203 wi_Mo_element ws_Mo_Mo_element ⟨by decide, by decide⟩ rfl rfl (Nat.le_of_ble_eq_true rfl) ⟨Nat.zero_le _, Nat.zero_le _⟩ (fun r' w1 hp => ?_)
          obtain ⟨rfl, rfl⟩ := hp
          refine And.intro (fun c18 => ?_) (fun c18 => ?_)
          · skip
            have c18 : gc (T.drop pp) = [] := by rw [gc_at]; exact drop_end (Nat.le_of_not_lt (of_decide_eq_false (bI_eq c18)))
            refine vx_go hC hFt hini (vx_ends hC hr hlk) jc_Mo_spoken 86 (by decide) rfl ?_
            refine And.intro (fun c87 => ?_) (fun c87 => ?_)
            · skip
              have c87 : ¬ els = 0 := fun z => c87 (by rw [z]; rfl)
              refine vx_go hC hFt hini (vx_ends hC hr hlk) jc_Mo_spoken 90 (by decide) rfl ?_
              refine And.intro (fun c91 => ?_) (fun c91 => ?_)
              · skip
                have c91 : lo = 0 := Nat.eq_zero_of_not_pos (fun z => absurd c91 (nI_nle z (by omega)))
                refine vx_go hC hFt hini (vx_ends hC hr hlk) jc_Mo_spoken 94 (by decide) rfl ?_
                refine And.intro (fun c95 => ?_) (fun c95 => ?_)
                · skip
                  refine vx_go hC hFt hini (vx_ends hC hr hlk) jc_Mo_spoken 98 (by decide) rfl ?_
                  refine And.intro (trivial) (And.intro ?_ (And.intro (Nat.le_refl _) (Nat.le_refl _)))
                  rw [lanL, if_pos (c18)] at hres
                  rw [← hres]
                  rw [if_neg c87]
                  rcases hR with ⟨-, -, -, rfl⟩ | ⟨-, -, -, rfl⟩ | ⟨z1, z2, -⟩
                  · exact absurd c95 (by decide)
                  · exact ⟨rfl, (upd s4 12 (nI (pz T pp isGc))), rfl, (hg4.upd (by decide))⟩
                  · omega
                · skip
                  refine vx_go hC hFt hini (vx_ends hC hr hlk) jc_Mo_spoken 99 (by decide) rfl ?_
                  refine And.intro (trivial) (And.intro ?_ (And.intro (Nat.le_refl _) (Nat.le_refl _)))
                  rw [lanL, if_pos (c18)] at hres
                  rw [← hres]
                  rw [if_neg c87]
                  rcases hR with ⟨-, rfl, -, -⟩ | ⟨-, -, hq9, rfl⟩ | ⟨z1, z2, -⟩
                  · exact ⟨rfl, (upd s4 12 (nI (pz T pp isGc))), rfl, (hg4.upd (by decide))⟩
                  · exact absurd (nI_pos' (by omega)) c95
                  · omega
              · skip
                have c91 : 0 < lo := Nat.pos_of_ne_zero (fun z => c91 (by rw [z]; exact nI_le (Nat.le_refl 0) (by decide)))
                refine vx_go hC hFt hini (vx_ends hC hr hlk) jc_Mo_spoken 99 (by decide) rfl ?_
                refine And.intro (trivial) (And.intro ?_ (And.intro (Nat.le_refl _) (Nat.le_refl _)))
                rw [lanL, if_pos (c18)] at hres
                rw [← hres]
                rw [if_neg c87]
                obtain rfl : qu = q := by rcases hR with z | z | z <;> omega
                exact ⟨rfl, (upd s4 12 (nI (pz T pp isGc))), rfl, (hg4.upd (by decide))⟩
            · skip
              have c87 : els = 0 := (nI_eq (b := 0) (by omega) (by omega)).mp c87
              refine vx_go hC hFt hini (vx_ends hC hr hlk) jc_Mo_spoken 99 (by decide) rfl ?_
              refine And.intro (trivial) (And.intro ?_ (And.intro (Nat.le_refl _) (Nat.le_refl _)))
              rw [lanL, if_pos (c18)] at hres
              rw [← hres]
              rw [if_pos c87]
              exact ⟨rfl, (upd s4 12 (nI (pz T pp isGc))), rfl, (hg4.upd (by decide))⟩
          · skip
            have c18b : (pz T pp isGc) < T.length := of_decide_eq_true (bI_ne c18)
            have c18 : ¬ gc (T.drop pp) = [] := by rw [gc_at, drop_get c18b]; exact List.cons_ne_nil _ _
            refine mo_call hC (c_Mo_take l D tys tc hty h ar now (upd s4 12 (nI (pz T pp isGc))) ai al 1 T (pz T pp isGc) (hM4.at (by omega)) 42 (by decide)) wm_Mo_take wl_Mo_153 wi_Mo_take ws_Mo_Mo_take ⟨by decide, by decide⟩ rfl rfl (Nat.le_of_ble_eq_true rfl) ⟨Nat.zero_le _, Nat.zero_le _⟩ (fun r' w1 hp => ?_)
            obtain ⟨rfl, rfl⟩ := hp
            rw [upd_upd]
            refine And.intro (fun c24 => ?_) (fun c24 => ?_)
            · skip
              have c24 : T.getD (pz T pp isGc) 0 = 42 := of_decide_eq_true (bI_ne c24)
              rw [decide_eq_true c24, if_pos c24]
              refine vx_gon hC hFt hini (vx_ends hC hr hlk) jc_Mo_spoken 30 23 (by decide) rfl ?_
              refine And.intro (fun c31 => ?_) (fun c31 => ?_)
              · skip
                exact absurd c31 (by decide)
              · skip
                refine vx_gon hC hFt hini (vx_ends hC hr hlk) jc_Mo_spoken 39 14 (by decide) rfl ?_
                refine And.intro (fun c41 => ?_) (fun c41 => ?_)
                · skip
                  refine vx_gon hC hFt hini (vx_ends hC hr hlk) jc_Mo_spoken 51 2 (by decide) rfl ?_
                  refine Vx.subL (lv' := [(0, .ref h), (1, .int (nI wh)), (2, .int (nI lo)), (3, .int (nI qu)), (4, .int (st)), (5, .int (nI els)), (6, .int (bI true)), (7, .int (bI true)), (8, .int (nI 0)), (9, .int (bI false))]) [3, 4, 5, 6, 7, 8, 9, 2, 1, 0] rfl ?_
                  exact hJ53 ((upd s4 12 (nI ((pz T pp isGc) + 1))), (pz T pp isGc) + 1, true, 0, false) ⟨hg4.upd (by decide), h411, rfl, c18b, Nat.lt_succ_self _, by rw [gc_at, lgt_s c24], by rw [gc_at, lgt_s c24], Nat.zero_le _, fun _ => ⟨by rw [gc_at, lgt_s c24]; rfl, rfl⟩, (fun z => by cases z), (fun z => by cases z)⟩
                · skip
                  exact absurd c41 (by decide)
            · skip
              have c24 : ¬ T.getD (pz T pp isGc) 0 = 42 := of_decide_eq_false (bI_eq c24)
              rw [decide_eq_false c24, if_neg c24]
              refine mo_call hC (c_Mo_tongue l D tys tc hty h ar now (upd s4 12 (nI (pz T pp isGc))) ai al 1 T (pz T pp isGc) (hM4.at (by omega)) (by omega)) wm_Mo_tongue wl_Mo_214 wi_Mo_tongue ws_Mo_Mo_tongue ⟨by decide, by decide⟩ rfl rfl (Nat.le_of_ble_eq_true rfl) ⟨Nat.zero_le _, Nat.zero_le _⟩ (fun r' w1 hp => ?_)
              obtain ⟨rfl, s6, rfl, hf6, hx6⟩ := hp
              refine And.intro (fun c27 => ?_) (fun c27 => ?_)
              · skip
                have c27 : (lng 0 false (T.drop (pz T pp isGc)) []).1 = true := bI_ne c27
                obtain ⟨p6, hp6l, hp6, h612, h613, h614⟩ := hx6 c27
                rw [h612] at h614
                have hSne := lng_ne c27 (fun z => by omega)
                have happ := lng_app (sub := 0) (dt := false) (rs := T.drop (pz T pp isGc)) (S := [])
                rw [← hp6] at happ
                obtain ⟨hSs, hQp⟩ := sl_app hp6l (Nat.le_of_lt c18b) happ
                have hSl : (lng 0 false (T.drop (pz T pp isGc)) []).2.2.length = p6 - (pz T pp isGc) := by rw [hSs, sl_len hp6l]
                have hnn1 : 1 ≤ p6 - (pz T pp isGc) := by rw [← hSl]; exact List.length_pos_iff.mpr hSne
                have hnn2 : p6 - (pz T pp isGc) ≤ 96 := by omega
                have hS42 : ¬ (lng 0 false (T.drop (pz T pp isGc)) []).2.2 = [42] := by
                  rw [hSs]
                  exact fun z => c24 ((sl_one hp6l).mp z).2
                have hM6 : mdS s6 ai 1 T p6 := (hM4.at (by omega)).fq hf6 h612 (by omega)
                refine vx_gon hC hFt hini (vx_ends hC hr hlk) jc_Mo_spoken 30 23 (by decide) rfl ?_
                refine And.intro (fun c31 => ?_) (fun c31 => ?_)
                · skip
                  refine vx_gon hC hFt hini (vx_ends hC hr hlk) jc_Mo_spoken 34 19 (by decide) rfl ?_
                  refine And.intro rfl ?_
                  refine And.intro rfl ?_
                  refine And.intro (fun c41 => ?_) (fun c41 => ?_)
                  · skip
                    exact absurd rfl c41
                  · skip
                    refine And.intro (fun c44 => ?_) (fun c44 => ?_)
                    · skip
                      have c44 : 5 ≤ wh := (nI_leI (by omega) (by omega)).mp c44
                      have hwh5 : wh = 5 := by omega
                      refine vx_gon hC hFt hini (vx_ends hC hr hlk) jc_Mo_spoken 51 2 (by decide) rfl ?_
                      refine Vx.subL (lv' := [(0, .ref h), (1, .int (nI wh)), (2, .int (nI lo)), (3, .int (nI qu)), (4, .int (st)), (5, .int (nI els)), (6, .int (bI true)), (7, .int (bI false)), (8, .int (s6 14 - s6 13)), (9, .int (bI false))]) [3, 4, 5, 6, 7, 8, 9, 2, 1, 0] rfl ?_
                      rw [h614, h613, pk_sub hQp]
                      exact hJ53 (s6, p6, false, p6 - (pz T pp isGc), false) ⟨(hg4.upd (by decide)).trans hf6.gq, ((hf6 11 (by decide) (by decide) (by decide) (by decide)).trans (pk_un (by decide))).trans h411, h612, hp6l, by show (pz T pp isGc) < p6; omega, by rw [gc_at, lgt_l c24]; exact c27, by rw [gc_at, lgt_l c24]; exact hp6.symm, hnn2, (fun z => by cases z), (fun _ z => by cases z), (fun _ _ => by rw [gc_at, lgt_l c24, fitL, if_neg hS42, if_neg (by rw [show (alikeL _ (coL wh) || alikeL _ (beL wh)) = false by rw [hwh5]; exact al_5 hSne]; decide)])⟩
                    · skip
                      have c44 : wh < 5 := Nat.lt_of_not_le (fun z => c44 ((nI_leI (a := 5) (by omega) (by omega)).mpr z))
                      refine mo_call hC (c_Mo_speaks l D tys tc hty h ar now s6 ai al 1 T p6 hM6 (pz T pp isGc) p6 hQp hp6l h613 h614 wh c44 hWd) wm_Mo_speaks wl_Mo_217 wi_Mo_speaks ws_Mo_Mo_speaks ⟨by decide, by decide⟩ rfl rfl (Nat.le_of_ble_eq_true rfl) ⟨Nat.zero_le _, Nat.zero_le _⟩ (fun r' w1 hp => ?_)
                      obtain ⟨rfl, rfl⟩ := hp
                      refine And.intro (fun c48 => ?_) (fun c48 => ?_)
                      · skip
                        have c48 := bI_eq c48
                        refine vx_gon hC hFt hini (vx_ends hC hr hlk) jc_Mo_spoken 51 2 (by decide) rfl ?_
                        refine Vx.subL (lv' := [(0, .ref h), (1, .int (nI wh)), (2, .int (nI lo)), (3, .int (nI qu)), (4, .int (st)), (5, .int (nI els)), (6, .int (bI true)), (7, .int (bI false)), (8, .int (s6 14 - s6 13)), (9, .int (bI false))]) [3, 4, 5, 6, 7, 8, 9, 2, 1, 0] rfl ?_
                        rw [h614, h613, pk_sub hQp]
                        exact hJ53 (s6, p6, false, p6 - (pz T pp isGc), false) ⟨(hg4.upd (by decide)).trans hf6.gq, ((hf6 11 (by decide) (by decide) (by decide) (by decide)).trans (pk_un (by decide))).trans h411, h612, hp6l, by show (pz T pp isGc) < p6; omega, by rw [gc_at, lgt_l c24]; exact c27, by rw [gc_at, lgt_l c24]; exact hp6.symm, hnn2, (fun z => by cases z), (fun _ z => by cases z), (fun _ _ => by rw [gc_at, lgt_l c24, fitL, if_neg hS42, if_neg (by rw [show (alikeL _ (coL wh) || alikeL _ (beL wh)) = false by rw [← spk_al c44 hSne, hSs]; exact c48]; decide)])⟩
                      · skip
                        have c48 := bI_ne c48
                        refine vx_gon hC hFt hini (vx_ends hC hr hlk) jc_Mo_spoken 52 1 (by decide) rfl ?_
                        refine Vx.subL (lv' := [(0, .ref h), (1, .int (nI wh)), (2, .int (nI lo)), (3, .int (nI qu)), (4, .int (st)), (5, .int (nI els)), (6, .int (bI true)), (7, .int (bI false)), (8, .int (s6 14 - s6 13)), (9, .int (bI true))]) [3, 4, 5, 6, 7, 8, 9, 2, 1, 0] rfl ?_
                        rw [h614, h613, pk_sub hQp]
                        exact hJ53 (s6, p6, false, p6 - (pz T pp isGc), true) ⟨(hg4.upd (by decide)).trans hf6.gq, ((hf6 11 (by decide) (by decide) (by decide) (by decide)).trans (pk_un (by decide))).trans h411, h612, hp6l, by show (pz T pp isGc) < p6; omega, by rw [gc_at, lgt_l c24]; exact c27, by rw [gc_at, lgt_l c24]; exact hp6.symm, hnn2, (fun z => by cases z), (fun _ _ => ⟨by rw [gc_at, lgt_l c24, fitL, if_neg hS42, if_pos (by rw [← spk_al c44 hSne, hSs]; exact c48), hSl], hnn1, hnn2⟩), (fun _ z => by cases z)⟩
                · skip
                  exact absurd rfl c31
              · skip
                have c27 : (lng 0 false (T.drop (pz T pp isGc)) []).1 = false := bI_eq c27
                refine And.intro (trivial) (And.intro ?_ (And.intro (Nat.le_refl _) (Nat.le_refl _)))
                rw [lanL, if_neg c18, if_neg (by rw [gc_at, lgt_l c24, c27]; decide)] at hres
                rw [← hres]
                exact ⟨rfl, s6, rfl, (hg4.upd (by decide)).trans hf6.gq⟩
      · rintro ⟨s5, p5, any, nn, fits⟩ ⟨hg5, h511, h512, hp5l, hp5, hlg1, hlg2, hnn, hj1, hj2, hj3⟩
        replace hg5 : gq sc s5 := hg5
        replace h511 : s5 11 = nI 1 := h511
        replace h512 : s5 12 = nI p5 := h512
        replace hp5l : p5 ≤ T.length := hp5l
        replace hp5 : (pz T pp isGc) < p5 := hp5
        replace hlg2 : (lgt (gc (T.drop pp))).2.1 = T.drop p5 := hlg2
        replace hnn : nn ≤ 96 := hnn
        replace hj1 : any = true → (fitL (coL wh) (beL wh) (lgt (gc (T.drop pp))).2.2) = 1 ∧ fits = false := hj1
        replace hj2 : any = false → fits = true → (fitL (coL wh) (beL wh) (lgt (gc (T.drop pp))).2.2) = nn + 1 ∧ 1 ≤ nn ∧ nn ≤ 96 := hj2
        replace hj3 : any = false → fits = false → (fitL (coL wh) (beL wh) (lgt (gc (T.drop pp))).2.2) = 0 := hj3
        have hgc : ¬ gc (T.drop pp) = [] := by rw [gc_at, drop_get (by omega)]; exact List.cons_ne_nil _ _
        have hM5 : mdS s5 ai 1 T p5 := ⟨hT.1, h511, hT.2.1, hT.2.2.1, hT.2.2.2, h512, by omega⟩
        refine vx_cut (α := ((Nat → Int32) × Int32 × Nat × Nat)) 131 (fun u => gq sc u.1 ∧ u.1 11 = nI 1 ∧ wia T p5 = some u.2.2 ∧ u.1 12 = nI u.2.2.2 ∧ u.1 16 = nI u.2.2.1 ∧ ((any = true ∧ st < 0 ∧ u.2.1 = nI u.2.2.1) ∨ (¬ (any = true ∧ st < 0) ∧ u.2.1 = st))) (fun u => [(0, .ref h), (1, .int (nI wh)), (2, .int (nI lo)), (3, .int (nI qu)), (4, .int (u.2.1)), (5, .int (nI els + 1)), (6, .int (bI mo)), (7, .int (bI any)), (8, .int (nI nn)), (9, .int (bI fits))]) (fun u => []) (fun u => mdW tc h ar now u.1 ai al) (fun hJ68 => ?_) ?_
        · skip
          refine vx_gon hC hFt hini (vx_ends hC hr hlk) jc_Mo_spoken 53 15 (by decide) rfl ?_
          refine mo_call hC (c_Mo_weightIfAny l D tys tc hty h ar now s5 ai al 1 T p5 hM5) wm_Mo_weightIfAny wl_Mo_220 wi_Mo_weightIfAny ws_Mo_Mo_weightIfAny ⟨by decide, by decide⟩ rfl rfl (Nat.le_of_ble_eq_true rfl) ⟨Nat.zero_le _, Nat.zero_le _⟩ (fun r' w1 hp => ?_)
          obtain ⟨rfl, s7, rfl, hg7, h711, hx7⟩ := wgP.fq hp
          refine And.intro (fun c55 => ?_) (fun c55 => ?_)
          · skip
            have c55 := bI_ne c55
            obtain ⟨u9, hwi⟩ := Option.isSome_iff_exists.mp c55
            have hx7 := hx7 u9 hwi
            refine vx_gon hC hFt hini (vx_ends hC hr hlk) jc_Mo_spoken 58 10 (by decide) rfl ?_
            refine And.intro (fun c60 => ?_) (fun c60 => ?_)
            · skip
              obtain rfl : any = false := bI_eq c60
              refine vx_gon hC hFt hini (vx_ends hC hr hlk) jc_Mo_spoken 66 2 (by decide) rfl ?_
              refine Vx.subL (lv' := [(0, .ref h), (1, .int (nI wh)), (2, .int (nI lo)), (3, .int (nI qu)), (4, .int (st)), (5, .int (nI els + 1)), (6, .int (bI mo)), (7, .int (bI false)), (8, .int (nI nn)), (9, .int (bI fits))]) [2, 3, 4, 5, 0, 1, 6, 7, 8, 9] rfl ?_
              exact hJ68 (s7, st, u9) ⟨hg5.trans hg7, h711.trans h511, hwi, hx7.1, hx7.2, Or.inr ⟨(fun z => by cases z.1), rfl⟩⟩
            · skip
              obtain rfl : any = true := bI_ne c60
              refine And.intro (fun c62 => ?_) (fun c62 => ?_)
              · skip
                refine vx_gon hC hFt hini (vx_ends hC hr hlk) jc_Mo_spoken 66 2 (by decide) rfl ?_
                refine Vx.subL (lv' := [(0, .ref h), (1, .int (nI wh)), (2, .int (nI lo)), (3, .int (nI qu)), (4, .int (st)), (5, .int (nI els + 1)), (6, .int (bI mo)), (7, .int (bI true)), (8, .int (nI nn)), (9, .int (bI fits))]) [2, 3, 4, 5, 0, 1, 6, 7, 8, 9] rfl ?_
                exact hJ68 (s7, st, u9) ⟨hg5.trans hg7, h711.trans h511, hwi, hx7.1, hx7.2, Or.inr ⟨(fun z => absurd c62 (Int32.not_le.mpr z.2)), rfl⟩⟩
              · skip
                refine And.intro rfl ?_
                refine vx_gon hC hFt hini (vx_ends hC hr hlk) jc_Mo_spoken 67 1 (by decide) rfl ?_
                refine Vx.subL (lv' := [(0, .ref h), (1, .int (nI wh)), (2, .int (nI lo)), (3, .int (nI qu)), (4, .int (s7 16)), (5, .int (nI els + 1)), (6, .int (bI mo)), (7, .int (bI true)), (8, .int (nI nn)), (9, .int (bI fits))]) [2, 3, 4, 5, 0, 1, 6, 7, 8, 9] rfl ?_
                exact hJ68 (s7, s7 16, u9) ⟨hg5.trans hg7, h711.trans h511, hwi, hx7.1, hx7.2, Or.inl ⟨rfl, Int32.not_le.mp c62, hx7.2⟩⟩
          · skip
            have c55 := bI_eq c55
            refine And.intro (trivial) (And.intro ?_ (And.intro (Nat.le_refl _) (Nat.le_refl _)))
            have hwn : wia T p5 = none := Option.isNone_iff_eq_none.mp (by rw [← Option.not_isSome, c55]; rfl)
            rw [lanL, if_neg hgc, if_pos hlg1, hlg2, lwt_none hT.2.2.2 hwn] at hres
            rw [← hres]
            exact ⟨rfl, s7, rfl, hg5.trans hg7⟩
        · rintro ⟨s8, st2, u9⟩ ⟨hg8, h811, hwi, h812, h816, hst2⟩
          replace hg8 : gq sc s8 := hg8
          replace h811 : s8 11 = nI 1 := h811
          replace hwi : wia T p5 = some u9 := hwi
          replace h812 : s8 12 = nI u9.2 := h812
          replace h816 : s8 16 = nI u9.1 := h816
          replace hst2 : (any = true ∧ st < 0 ∧ st2 = nI u9.1) ∨ (¬ (any = true ∧ st < 0) ∧ st2 = st) := hst2
          obtain ⟨hw1, hw2, hw3, hw4⟩ := lwt_some hT.2.2.2 hp5l hwi
          have hM8 : mdS s8 ai 1 T u9.2 := ⟨hT.1, h811, hT.2.1, hT.2.2.1, hT.2.2.2, h812, by omega⟩
          have hP2 := pz_lt (T := T) (a := u9.2) (q := isGp) hw3
          have hP3 := pz_ge (T := T) (a := u9.2) (q := isGp)
          refine vx_go hC hFt hini (vx_ends hC hr hlk) jc_Mo_spoken 68 (by decide) rfl ?_
          refine And.intro (fun c69 => ?_) (fun c69 => ?_)
          · skip
            obtain rfl : fits = false := bI_eq c69
            refine vx_go hC hFt hini (vx_ends hC hr hlk) jc_Mo_spoken 78 (by decide) rfl ?_
            refine mo_call hC (c_Mo_separator l D tys tc hty h ar now s8 ai al 1 T u9.2 hM8) wm_Mo_separator wl_Mo_209 wi_Mo_separator ws_Mo_Mo_separator ⟨by decide, by decide⟩ rfl rfl (Nat.le_of_ble_eq_true rfl) ⟨Nat.zero_le _, Nat.zero_le _⟩ (fun r' w1 hp => ?_)
            obtain ⟨rfl, rfl⟩ := hp
            refine And.intro (fun c82 => ?_) (fun c82 => ?_)
            · skip
              refine vx_go hC hFt hini (vx_ends hC hr hlk) jc_Mo_spoken 85 (by decide) rfl ?_
              refine Vx.subL (lv' := [(0, .ref h), (1, .int (nI wh)), (2, .int (nI lo)), (3, .int (nI qu)), (4, .int (st2)), (5, .int (nI els + 1)), (6, .int (sepv T (pz T u9.2 isGp)))]) [1, 2, 3, 4, 5, 6, 0] rfl ?_
              obtain ⟨hee, mo2, hm1, hm2, hm3, hm4, hm5⟩ := sep_yes c82
              have hRn : lnR (if lg < (fitL (coL wh) (beL wh) (lgt (gc (T.drop pp))).2.2) then (fitL (coL wh) (beL wh) (lgt (gc (T.drop pp))).2.2) else lg) (if lg < (fitL (coL wh) (beL wh) (lgt (gc (T.drop pp))).2.2) then u9.1 else q) lo qu st2 := by
                cases any with
                | true =>
                  rw [(hj1 rfl).1]
                  rcases hst2 with ⟨-, z1, rfl⟩ | ⟨z1, rfl⟩
                  · exact (lnR_s hR hw2).1 z1
                  · exact (lnR_s hR hw2).2 (fun z => z1 ⟨rfl, z⟩)
                | false =>
                  rw [hj3 rfl rfl, if_neg (Nat.not_lt_zero _), if_neg (Nat.not_lt_zero _)]
                  rcases hst2 with ⟨z1, -, -⟩ | ⟨z1, rfl⟩
                  · cases z1
                  · exact hR
              refine Vx.eqs rfl (lv2 := [(0, .ref h), (1, .int (nI wh)), (2, .int (nI lo)), (3, .int (nI qu)), (4, .int (st2)), (5, .int (nI (els + 1))), (6, .int (bI mo2))]) (by rw [nI_1, hm1]) rfl rfl ?_
              exact ih (upd s8 12 (nI (if T.getD (pz T u9.2 isGp) 0 = 44 then pz T u9.2 isGp + 1 else pz T u9.2 isGp))) (if lg < (fitL (coL wh) (beL wh) (lgt (gc (T.drop pp))).2.2) then (fitL (coL wh) (beL wh) (lgt (gc (T.drop pp))).2.2) else lg) (if lg < (fitL (coL wh) (beL wh) (lgt (gc (T.drop pp))).2.2) then u9.1 else q) lo qu st2 (els + 1) mo2 (if T.getD (pz T u9.2 isGp) 0 = 44 then pz T u9.2 isGp + 1 else pz T u9.2 isGp) hRn (by omega) (hg8.upd (by decide)) ((pk_un (by decide)).trans h811) pk_us (hm4 hP2) (by rw [lanL_gc hm3, ← hres, lanL, if_neg hgc, if_pos hlg1, hlg2, hw1]; show _ = if ee (gp (T.drop u9.2)) = true then _ else none; rw [if_pos (show ee (gp (T.drop u9.2)) = true by rw [gp_at]; exact hee), gp_at]) (by omega) (fun z => by rw [hm3]; exact hm2 z) (by omega)
            · skip
              refine And.intro (trivial) (And.intro ?_ (And.intro (Nat.le_refl _) (Nat.le_refl _)))
              rw [lanL, if_neg hgc, if_pos hlg1, hlg2, hw1] at hres
              rw [← hres]
              show (_ : Option Value) = some (Value.int (iI (if ee (gp (T.drop u9.2)) = true then _ else none))) ∧ _
              rw [if_neg (by rw [gp_at, sep_no c82]; decide)]
              exact ⟨rfl, upd s8 12 (nI (if T.getD (pz T u9.2 isGp) 0 = 44 then pz T u9.2 isGp + 1 else pz T u9.2 isGp)), rfl, hg8.upd (by decide)⟩
          · skip
            obtain rfl : fits = true := bI_ne c69
            refine And.intro (fun c72 => ?_) (fun c72 => ?_)
            · skip
              have c72 : ¬ lo < nn := Nat.not_lt.mpr ((nI_leI (by omega) (by omega)).mp c72)
              refine vx_go hC hFt hini (vx_ends hC hr hlk) jc_Mo_spoken 78 (by decide) rfl ?_
              refine mo_call hC (c_Mo_separator l D tys tc hty h ar now s8 ai al 1 T u9.2 hM8) wm_Mo_separator wl_Mo_209 wi_Mo_separator ws_Mo_Mo_separator ⟨by decide, by decide⟩ rfl rfl (Nat.le_of_ble_eq_true rfl) ⟨Nat.zero_le _, Nat.zero_le _⟩ (fun r' w1 hp => ?_)
              obtain ⟨rfl, rfl⟩ := hp
              refine And.intro (fun c82 => ?_) (fun c82 => ?_)
              · skip
                refine vx_go hC hFt hini (vx_ends hC hr hlk) jc_Mo_spoken 85 (by decide) rfl ?_
                refine Vx.subL (lv' := [(0, .ref h), (1, .int (nI wh)), (2, .int (nI lo)), (3, .int (nI qu)), (4, .int (st2)), (5, .int (nI els + 1)), (6, .int (sepv T (pz T u9.2 isGp)))]) [1, 2, 3, 4, 5, 6, 0] rfl ?_
                obtain ⟨hee, mo2, hm1, hm2, hm3, hm4, hm5⟩ := sep_yes c82
                have hanyf : any = false := by
                  cases any with
                  | false => rfl
                  | true => exact absurd (hj1 rfl).2 (by decide)
                subst hanyf
                obtain ⟨hfi, hn1, hn2⟩ := hj2 rfl rfl
                have hRn : lnR (if lg < (fitL (coL wh) (beL wh) (lgt (gc (T.drop pp))).2.2) then (fitL (coL wh) (beL wh) (lgt (gc (T.drop pp))).2.2) else lg) (if lg < (fitL (coL wh) (beL wh) (lgt (gc (T.drop pp))).2.2) then u9.1 else q) lo qu st2 := by
                  rw [hfi]
                  rcases hst2 with ⟨z1, -, -⟩ | ⟨z1, rfl⟩
                  · cases z1
                  · exact (lnR_f hR hn1).2 c72
                refine Vx.eqs rfl (lv2 := [(0, .ref h), (1, .int (nI wh)), (2, .int (nI lo)), (3, .int (nI qu)), (4, .int (st2)), (5, .int (nI (els + 1))), (6, .int (bI mo2))]) (by rw [nI_1, hm1]) rfl rfl ?_
                exact ih (upd s8 12 (nI (if T.getD (pz T u9.2 isGp) 0 = 44 then pz T u9.2 isGp + 1 else pz T u9.2 isGp))) (if lg < (fitL (coL wh) (beL wh) (lgt (gc (T.drop pp))).2.2) then (fitL (coL wh) (beL wh) (lgt (gc (T.drop pp))).2.2) else lg) (if lg < (fitL (coL wh) (beL wh) (lgt (gc (T.drop pp))).2.2) then u9.1 else q) lo qu st2 (els + 1) mo2 (if T.getD (pz T u9.2 isGp) 0 = 44 then pz T u9.2 isGp + 1 else pz T u9.2 isGp) hRn (by omega) (hg8.upd (by decide)) ((pk_un (by decide)).trans h811) pk_us (hm4 hP2) (by rw [lanL_gc hm3, ← hres, lanL, if_neg hgc, if_pos hlg1, hlg2, hw1]; show _ = if ee (gp (T.drop u9.2)) = true then _ else none; rw [if_pos (show ee (gp (T.drop u9.2)) = true by rw [gp_at]; exact hee), gp_at]) (by omega) (fun z => by rw [hm3]; exact hm2 z) (by omega)
              · skip
                refine And.intro (trivial) (And.intro ?_ (And.intro (Nat.le_refl _) (Nat.le_refl _)))
                rw [lanL, if_neg hgc, if_pos hlg1, hlg2, hw1] at hres
                rw [← hres]
                show (_ : Option Value) = some (Value.int (iI (if ee (gp (T.drop u9.2)) = true then _ else none))) ∧ _
                rw [if_neg (by rw [gp_at, sep_no c82]; decide)]
                exact ⟨rfl, upd s8 12 (nI (if T.getD (pz T u9.2 isGp) 0 = 44 then pz T u9.2 isGp + 1 else pz T u9.2 isGp)), rfl, hg8.upd (by decide)⟩
            · skip
              have c72 : lo < nn := Nat.lt_of_not_le (fun z => c72 ((nI_leI (by omega) (by omega)).mpr z))
              refine And.intro rfl ?_
              refine mo_call hC (c_Mo_separator l D tys tc hty h ar now s8 ai al 1 T u9.2 hM8) wm_Mo_separator wl_Mo_209 wi_Mo_separator ws_Mo_Mo_separator ⟨by decide, by decide⟩ rfl rfl (Nat.le_of_ble_eq_true rfl) ⟨Nat.zero_le _, Nat.zero_le _⟩ (fun r' w1 hp => ?_)
              obtain ⟨rfl, rfl⟩ := hp
              refine And.intro (fun c82 => ?_) (fun c82 => ?_)
              · skip
                refine vx_go hC hFt hini (vx_ends hC hr hlk) jc_Mo_spoken 85 (by decide) rfl ?_
                refine Vx.subL (lv' := [(0, .ref h), (1, .int (nI wh)), (2, .int (nI nn)), (3, .int (s8 16)), (4, .int (st2)), (5, .int (nI els + 1)), (6, .int (sepv T (pz T u9.2 isGp)))]) [3, 4, 2, 1, 5, 6, 0] rfl ?_
                obtain ⟨hee, mo2, hm1, hm2, hm3, hm4, hm5⟩ := sep_yes c82
                have hanyf : any = false := by
                  cases any with
                  | false => rfl
                  | true => exact absurd (hj1 rfl).2 (by decide)
                subst hanyf
                obtain ⟨hfi, hn1, hn2⟩ := hj2 rfl rfl
                have hRn : lnR (if lg < (fitL (coL wh) (beL wh) (lgt (gc (T.drop pp))).2.2) then (fitL (coL wh) (beL wh) (lgt (gc (T.drop pp))).2.2) else lg) (if lg < (fitL (coL wh) (beL wh) (lgt (gc (T.drop pp))).2.2) then u9.1 else q) nn u9.1 st2 := by
                  rw [hfi]
                  rcases hst2 with ⟨z1, -, -⟩ | ⟨z1, rfl⟩
                  · cases z1
                  · exact (lnR_f hR hn1).1 c72
                refine Vx.eqs rfl (lv2 := [(0, .ref h), (1, .int (nI wh)), (2, .int (nI nn)), (3, .int (nI u9.1)), (4, .int (st2)), (5, .int (nI (els + 1))), (6, .int (bI mo2))]) (by rw [nI_1, hm1, h816]) rfl rfl ?_
                exact ih (upd s8 12 (nI (if T.getD (pz T u9.2 isGp) 0 = 44 then pz T u9.2 isGp + 1 else pz T u9.2 isGp))) (if lg < (fitL (coL wh) (beL wh) (lgt (gc (T.drop pp))).2.2) then (fitL (coL wh) (beL wh) (lgt (gc (T.drop pp))).2.2) else lg) (if lg < (fitL (coL wh) (beL wh) (lgt (gc (T.drop pp))).2.2) then u9.1 else q) nn u9.1 st2 (els + 1) mo2 (if T.getD (pz T u9.2 isGp) 0 = 44 then pz T u9.2 isGp + 1 else pz T u9.2 isGp) hRn (by omega) (hg8.upd (by decide)) ((pk_un (by decide)).trans h811) pk_us (hm4 hP2) (by rw [lanL_gc hm3, ← hres, lanL, if_neg hgc, if_pos hlg1, hlg2, hw1]; show _ = if ee (gp (T.drop u9.2)) = true then _ else none; rw [if_pos (show ee (gp (T.drop u9.2)) = true by rw [gp_at]; exact hee), gp_at]) (by omega) (fun z => by rw [hm3]; exact hm2 z) (by omega)
              · skip
                refine And.intro (trivial) (And.intro ?_ (And.intro (Nat.le_refl _) (Nat.le_refl _)))
                rw [lanL, if_neg hgc, if_pos hlg1, hlg2, hw1] at hres
                rw [← hres]
                show (_ : Option Value) = some (Value.int (iI (if ee (gp (T.drop u9.2)) = true then _ else none))) ∧ _
                rw [if_neg (by rw [gp_at, sep_no c82]; decide)]
                exact ⟨rfl, upd s8 12 (nI (if T.getD (pz T u9.2 isGp) 0 = 44 then pz T u9.2 isGp + 1 else pz T u9.2 isGp)), rfl, hg8.upd (by decide)⟩
