/-! THE REFERENCE: the field Accept, by program (wip/whole/gen/p40.py) -/
/-- the list of media ranges: the quality of a type; els: elements so far, mt: 0 or one more than what the best one told, q: its weight -/
def accL (M S P V : List Nat) : Nat → Nat → Nat → Nat → List Nat → Option Nat
  | 0, _, _, _, _ => none
  | n + 1, els, mt, q, rs => if gc rs = [] then (if els = 0 then none else some q) else match mrg M S P V (gc rs) with
    | none => none
    | some u => if ee u.2.2.2 = true then accL M S P V n (els + 1) (if u.1 = true ∧ mt < u.2.1 + 1 then u.2.1 + 1 else mt) (if u.1 = true ∧ mt < u.2.1 + 1 then u.2.2.1 else q) u.2.2.2 else none
theorem accL_gc {M S P V : List Nat} {n els mt q : Nat} {r1 r2 : List Nat} (h : gc r1 = gc r2) : accL M S P V n els mt q r1 = accL M S P V n els mt q r2 := by
  cases n with
  | zero => rfl
  | succ n => rw [accL, accL, h]
def mdT (ai : Nat → Nat → Int32) (G : Nat) (T : List Nat) : Prop := G < 8 ∧ ai 8 G = nI T.length ∧ (∀ j, j < T.length → ai 7 (96 * G + j) = nI (T.getD j 0)) ∧ isT T
theorem mdT.opn {sc : Nat → Int32} {ai : Nat → Nat → Int32} {G : Nat} {T : List Nat} (h : mdT ai G T) : mdS (upd (upd sc 11 (nI G)) 12 (nI 0)) ai G T 0 := ⟨h.1, rfl, h.2.1, h.2.2.1, h.2.2.2, rfl, Nat.zero_le _⟩
theorem mrP.get {tc : Nat → ClassId} {h : Nat} {ar : Nat → Nat} {now : Int64} {sc : Nat → Int32} {ai : Nat → Nat → Int32} {al : Nat → Nat → Int64} {T : List Nat} {ps : Nat} {v : Option (Bool × Nat × Nat × List Nat)} {r : Option Value} {w : va_W} (hp : mrP tc h ar now sc ai al T ps v r w) : ∃ g s2, r = some (.int g) ∧ w = mdW tc h ar now s2 ai al ∧ gq sc s2 ∧ s2 11 = sc 11 ∧ (v = none → g = -1) ∧ ∀ u, v = some u → g = nI (8 * u.2.1 + (if u.1 = true then 1 else 0)) ∧ u.2.1 ≤ 100 ∧ u.2.2.1 ≤ 1000 ∧ ∃ p2, p2 ≤ T.length ∧ gp (T.drop p2) = u.2.2.2 ∧ s2 12 = nI p2 ∧ s2 16 = nI u.2.2.1 ∧ ps < p2 := by
  obtain ⟨s2, h1, h2, h3, h4⟩ := hp
  cases v with
  | none => exact ⟨-1, s2, h4, h1, h2, h3, fun _ => rfl, fun u z => by cases z⟩
  | some u => exact ⟨_, s2, h4.1, h1, h2, h3, (fun z => by cases z), (fun u z => by cases z; exact ⟨rfl, h4.2⟩)⟩
def bq (mt : Nat) : Int32 := if mt = 0 then -1 else nI (8 * (mt - 1) + 1)
theorem bq_le {t mt : Nat} (h1 : t ≤ 100) (h2 : mt ≤ 101) : nI (8 * t + 1) ≤ bq mt ↔ t + 1 ≤ mt := by
  unfold bq
  by_cases e : mt = 0
  · rw [if_pos e]
    constructor
    · intro z
      exact absurd (Int32.le_trans (nI_pos' (n := 8 * t + 1) (by omega)) z) (by decide)
    · intro z; omega
  · rw [if_neg e, nI_leI (by omega) (by omega)]; omega
/-- between two elements -/
theorem sep_no {T : List Nat} {P : Nat} (h : ¬ 0 ≤ sepv T P) : ee (T.drop P) = false := by
  unfold sepv at h
  by_cases h1 : T.length ≤ P
  · rw [if_pos h1] at h; exact absurd (by decide) h
  · rw [if_neg h1] at h
    by_cases h2 : T.getD P 0 = 44
    · rw [if_pos h2] at h; exact absurd (by decide) h
    · rw [drop_get (by omega), ee]; exact decide_eq_false h2
theorem sep_yes {T : List Nat} {P : Nat} (h : 0 ≤ sepv T P) : ee (T.drop P) = true ∧ ∃ mo : Bool, sepv T P = bI mo ∧ (mo = false → gc (T.drop P) = []) ∧ gc (T.drop (if T.getD P 0 = 44 then P + 1 else P)) = gc (T.drop P) ∧ (P ≤ T.length → (if T.getD P 0 = 44 then P + 1 else P) ≤ T.length) ∧ P ≤ (if T.getD P 0 = 44 then P + 1 else P) := by
  unfold sepv at h ⊢
  by_cases h1 : T.length ≤ P
  · rw [if_pos h1, drop_end h1, if_neg (by rw [T_out h1]; decide), drop_end h1]
    exact ⟨rfl, false, rfl, fun _ => rfl, rfl, id, Nat.le_refl _⟩
  · rw [if_neg h1] at h ⊢
    by_cases h2 : T.getD P 0 = 44
    · rw [if_pos h2, if_pos h2]
      refine ⟨by rw [drop_get (by omega), ee]; exact decide_eq_true h2, true, rfl, fun z => (by cases z), ?_, fun _ => (by omega), Nat.le_succ _⟩
      rw [drop_get (W := T) (i := P) (by omega), gc, gc, dw_t (by rw [h2]; decide)]
    · rw [if_neg h2] at h; exact absurd h (by decide)
set_option maxRecDepth 100000 in
set_option maxHeartbeats 4000000 in
theorem c_Mo_accepted (l : Launch) (D : va_G) (tys : List (ClassId × FieldType)) (tc : Nat → ClassId) (hty : ∀ i : Nat, i < 4 → tys[i]? = some (tc i, vx_ty i)) (h : Nat) (ar : Nat → Nat) (now : Int64) (sc : Nat → Int32) (ai : Nat → Nat → Int32) (al : Nat → Nat → Int64) (T : List Nat) (hT : mdT ai 0 T) (kd : Nat) (hkd : kd < 6) (hWd : mdWd al) : Kt l y_Mo_accepted (yw y_Mo_accepted b_Mo_accepted 7 (some .int)) 6 133 0 0 D cls tys (fun _ _ _ => True) [.ref h, .int (nI kd)] (mdW tc h ar now sc ai al) (fun r w => r = some (.int (iI (accL (mnL kd) (snL kd) (pnL kd) (vnL kd) 97 0 0 0 T))) ∧ ∃ s2, w = mdW tc h ar now s2 ai al ∧ gq sc s2) := by
  refine Kt.of ro_true (by decide) rfl hty (Nat.le_of_ble_eq_true rfl) ?_
  intro p e s m args below meth c0 A hC hr hlk hnm hF
  have hFt : vx_Ft y_Mo_accepted.cls (yw y_Mo_accepted b_Mo_accepted 7 (some .int)) cls cty ft_Mo := ft_of (fun w h => List.mem_cons_of_mem _ h) fl_Mo_in ft_Mo_b
  have hini : false = true → meth.name = "<init>" := fun h => by cases h
  have hTl := hT.2.2.2.1
  refine vx_gon hC hFt hini (vx_ends hC hr hlk) jc_Mo_accepted 0 11 (by decide) rfl ?_
  refine mo_call hC (c_Mo_open l D tys tc hty h ar now sc ai al 0) wm_Mo_open wl_Mo_199 wi_Mo_open ws_Mo_Mo_open ⟨by decide, by decide⟩ rfl rfl (Nat.le_of_ble_eq_true rfl) ⟨Nat.zero_le _, Nat.zero_le _⟩ (fun r' w1 hp => ?_)
  obtain ⟨rfl, rfl⟩ := hp
  generalize hres : accL (mnL kd) (snL kd) (pnL kd) (vnL kd) 97 0 0 0 T = RES
  refine Vx.subL (lv' := [(0, .ref h), (1, .int (nI kd)), (2, .int (-1)), (3, .int (nI 0)), (4, .int (nI 0)), (5, .int (bI true))]) [4, 5, 3, 2, 1, 0] rfl ?_
  obtain ⟨mt, hmt0⟩ : ∃ mt : Nat, mt = 0 := ⟨_, rfl⟩
  obtain ⟨q, hq0⟩ : ∃ q : Nat, q = 0 := ⟨_, rfl⟩
  obtain ⟨els, he0⟩ : ∃ els : Nat, els = 0 := ⟨_, rfl⟩
  obtain ⟨mo, hmo0⟩ : ∃ mo : Bool, mo = true := ⟨_, rfl⟩
  obtain ⟨s4, hs4⟩ : ∃ s4, s4 = upd (upd sc 11 (nI 0)) 12 (nI 0) := ⟨_, rfl⟩
  obtain ⟨pp, hpp⟩ : ∃ pp : Nat, pp = 0 := ⟨_, rfl⟩
  obtain ⟨n, hn⟩ : ∃ n : Nat, n = 97 := ⟨_, rfl⟩
  refine Vx.eqs rfl (lv2 := [(0, .ref h), (1, .int (nI kd)), (2, .int (bq mt)), (3, .int (nI q)), (4, .int (nI els)), (5, .int (bI mo))]) (by rw [hmt0, hq0, he0, hmo0]; rfl) rfl (w2 := mdW tc h ar now s4 ai al) (by rw [hs4]) ?_
  have hg4 : gq sc s4 := by rw [hs4]; exact (gq.refl.upd (by decide)).upd (by decide)
  have h411 : s4 11 = nI 0 := by rw [hs4]; rfl
  have h412 : s4 12 = nI pp := by rw [hs4, hpp]; rfl
  have hpl : pp ≤ T.length := by omega
  have hmt : mt ≤ 101 := by omega
  replace hres : accL (mnL kd) (snL kd) (pnL kd) (vnL kd) n els mt q (T.drop pp) = RES := by rw [hn, he0, hmt0, hq0, hpp]; exact hres
  have hfu : T.length - pp < n := by omega
  have hmo : mo = false → gc (T.drop pp) = [] := fun z => by rw [hmo0] at z; cases z
  have hel : els + (T.length - pp) ≤ 97 := by omega
  have hql : q ≤ 1000 := by omega
  clear hmt0 hq0 he0 hmo0 hs4 hpp hn
  induction n generalizing mt q els mo s4 pp with
  | zero => omega
  | succ n ih =>
    have hM4 : mdS s4 ai 0 T pp := ⟨hT.1, h411, hT.2.1, hT.2.2.1, hT.2.2.2, h412, by omega⟩
    refine vx_go hC hFt hini (vx_ends hC hr hlk) jc_Mo_accepted 11 (by decide) rfl ?_
    refine And.intro (fun c13 => ?_) (fun c13 => ?_)
    · skip
      have hmo9 : mo = false := by cases mo with
        | false => rfl
        | true => exact absurd rfl c13
      subst hmo9
      refine vx_go hC hFt hini (vx_ends hC hr hlk) jc_Mo_accepted 47 (by decide) rfl ?_
      refine And.intro (fun c48 => ?_) (fun c48 => ?_)
      · skip
        have c48 : ¬ els = 0 := fun z => c48 (by rw [z]; rfl)
        refine vx_go hC hFt hini (vx_ends hC hr hlk) jc_Mo_accepted 51 (by decide) rfl ?_
        refine And.intro (trivial) (And.intro ?_ (And.intro (Nat.le_refl _) (Nat.le_refl _)))
        rw [show accL (mnL kd) (snL kd) (pnL kd) (vnL kd) (n + 1) els mt q (T.drop pp) = _ from by rw [accL, if_pos (hmo rfl)]] at hres
        rw [← hres]
        rw [if_neg (by omega)]
        exact ⟨rfl, s4, rfl, hg4⟩
      · skip
        have c48 : els = 0 := (nI_eq (b := 0) (by omega) (by omega)).mp c48
        refine vx_go hC hFt hini (vx_ends hC hr hlk) jc_Mo_accepted 52 (by decide) rfl ?_
        refine And.intro (trivial) (And.intro ?_ (And.intro (Nat.le_refl _) (Nat.le_refl _)))
        rw [show accL (mnL kd) (snL kd) (pnL kd) (vnL kd) (n + 1) els mt q (T.drop pp) = _ from by rw [accL, if_pos (hmo rfl)]] at hres
        rw [← hres]
        rw [if_pos c48]
        exact ⟨rfl, s4, rfl, hg4⟩
    · skip
      have hmo9 : mo = true := by cases mo with
        | true => rfl
        | false => exact absurd c13 (by decide)
      subst hmo9
      refine mo_call hC (c_Mo_element l D tys tc hty h ar now s4 ai al 0 T pp hM4) wm_Mo_element wl_Mo_203 wi_Mo_element ws_Mo_Mo_element ⟨by decide, by decide⟩ rfl rfl (Nat.le_of_ble_eq_true rfl) ⟨Nat.zero_le _, Nat.zero_le _⟩ (fun r' w1 hp => ?_)
      obtain ⟨rfl, rfl⟩ := hp
      refine And.intro (fun c16 => ?_) (fun c16 => ?_)
      · skip
        have c16 : gc (T.drop pp) = [] := by rw [gc_at]; exact drop_end (Nat.le_of_not_lt (of_decide_eq_false (bI_eq c16)))
        refine vx_go hC hFt hini (vx_ends hC hr hlk) jc_Mo_accepted 47 (by decide) rfl ?_
        refine And.intro (fun c48 => ?_) (fun c48 => ?_)
        · skip
          have c48 : ¬ els = 0 := fun z => c48 (by rw [z]; rfl)
          refine vx_go hC hFt hini (vx_ends hC hr hlk) jc_Mo_accepted 51 (by decide) rfl ?_
          refine And.intro (trivial) (And.intro ?_ (And.intro (Nat.le_refl _) (Nat.le_refl _)))
          rw [show accL (mnL kd) (snL kd) (pnL kd) (vnL kd) (n + 1) els mt q (T.drop pp) = _ from by rw [accL, if_pos (c16)]] at hres
          rw [← hres]
          rw [if_neg (by omega)]
          exact ⟨rfl, upd s4 12 (nI (pz T pp isGc)), rfl, hg4.upd (by decide)⟩
        · skip
          have c48 : els = 0 := (nI_eq (b := 0) (by omega) (by omega)).mp c48
          refine vx_go hC hFt hini (vx_ends hC hr hlk) jc_Mo_accepted 52 (by decide) rfl ?_
          refine And.intro (trivial) (And.intro ?_ (And.intro (Nat.le_refl _) (Nat.le_refl _)))
          rw [show accL (mnL kd) (snL kd) (pnL kd) (vnL kd) (n + 1) els mt q (T.drop pp) = _ from by rw [accL, if_pos (c16)]] at hres
          rw [← hres]
          rw [if_pos c48]
          exact ⟨rfl, upd s4 12 (nI (pz T pp isGc)), rfl, hg4.upd (by decide)⟩
      · skip
        have c16b : (pz T pp isGc) < T.length := of_decide_eq_true (bI_ne c16)
        have c16 : ¬ gc (T.drop pp) = [] := by rw [gc_at, drop_get c16b]; exact List.cons_ne_nil _ _
        have hQ9 := pz_ge (T := T) (a := pp) (q := isGc)
        refine mo_call hC (c_Mo_mediaRange l D tys tc hty h ar now (upd s4 12 (nI (pz T pp isGc))) ai al 0 T (pz T pp isGc) (hM4.at (by omega)) (by omega) kd hkd hWd) wm_Mo_mediaRange wl_Mo_206 wi_Mo_mediaRange ws_Mo_Mo_mediaRange ⟨by decide, by decide⟩ rfl rfl (Nat.le_of_ble_eq_true rfl) ⟨Nat.zero_le _, Nat.zero_le _⟩ (fun r' w1 hp => ?_)
        obtain ⟨g, s5, rfl, rfl, hg5, h511, hgn, hgs⟩ := mrP.get hp
        refine And.intro (fun c22 => ?_) (fun c22 => ?_)
        · skip
          obtain ⟨u9, hv⟩ : ∃ u9, (mrg (mnL kd) (snL kd) (pnL kd) (vnL kd) (T.drop (pz T pp isGc))) = some u9 := by
            cases hv : (mrg (mnL kd) (snL kd) (pnL kd) (vnL kd) (T.drop (pz T pp isGc))) with
            | none => exact absurd c22 (by rw [hgn hv]; decide)
            | some u9 => exact ⟨u9, rfl⟩
          obtain ⟨rfl, ht9, hw9, p2, hp2l, hrest, h512, hval, hlt⟩ := hgs u9 hv
          have hM5 : mdS s5 ai 0 T p2 := hM4.gq (h511.trans (pk_un (by decide))) h512 (by omega)
          have hP2 := pz_lt (T := T) (a := p2) (q := isGp) hp2l
          have hP3 := pz_ge (T := T) (a := p2) (q := isGp)
          refine vx_go hC hFt hini (vx_ends hC hr hlk) jc_Mo_accepted 25 (by decide) rfl ?_
          refine And.intro (by decide) ?_
          refine And.intro (fun c30 => ?_) (fun c30 => ?_)
          · skip
            have c30 : u9.1 = false := by
              cases hu : u9.1 with
              | false => rfl
              | true =>
                refine absurd ?_ c30
                show nI _ - nI _ / nI 2 * nI 2 = nI 1
                rw [pk_rem (by split <;> omega) (by decide) (by decide), hu, if_pos rfl]
                exact congrArg nI (by omega)
            refine vx_go hC hFt hini (vx_ends hC hr hlk) jc_Mo_accepted 39 (by decide) rfl ?_
            refine mo_call hC (c_Mo_separator l D tys tc hty h ar now s5 ai al 0 T p2 hM5) wm_Mo_separator wl_Mo_209 wi_Mo_separator ws_Mo_Mo_separator ⟨by decide, by decide⟩ rfl rfl (Nat.le_of_ble_eq_true rfl) ⟨Nat.zero_le _, Nat.zero_le _⟩ (fun r' w1 hp => ?_)
            obtain ⟨rfl, rfl⟩ := hp
            refine And.intro (fun c43 => ?_) (fun c43 => ?_)
            · skip
              refine vx_go hC hFt hini (vx_ends hC hr hlk) jc_Mo_accepted 46 (by decide) rfl ?_
              refine Vx.subL (lv' := [(0, .ref h), (1, .int (nI kd)), (2, .int (bq mt)), (3, .int (nI q)), (4, .int (nI els + 1)), (5, .int (sepv T (pz T p2 isGp)))]) [3, 4, 5, 6, 1, 0] rfl ?_
              obtain ⟨hee, mo2, hm1, hm2, hm3, hm4, hm5⟩ := sep_yes c43
              refine Vx.eqs rfl (lv2 := [(0, .ref h), (1, .int (nI kd)), (2, .int (bq mt)), (3, .int (nI q)), (4, .int (nI (els + 1))), (5, .int (bI mo2))]) (by rw [nI_1, hm1]) rfl rfl ?_
              exact ih mt q (els + 1) mo2 (upd s5 12 (nI (if T.getD (pz T p2 isGp) 0 = 44 then pz T p2 isGp + 1 else pz T p2 isGp))) (if T.getD (pz T p2 isGp) 0 = 44 then pz T p2 isGp + 1 else pz T p2 isGp) (((hg4.upd (by decide)).trans hg5).upd (by decide)) (((pk_un (by decide)).trans h511).trans (((pk_un (by decide)).trans h411))) pk_us (hm4 hP2) (by omega) (by rw [accL_gc hm3, ← hres, accL, if_neg c16, gc_at, hv]; show _ = if ee u9.2.2.2 = true then _ else none; rw [if_pos (by rw [← hrest, gp_at]; exact hee), if_neg (fun z : u9.1 = true ∧ mt < u9.2.1 + 1 => by rw [c30] at z; cases z.1), if_neg (fun z : u9.1 = true ∧ mt < u9.2.1 + 1 => by rw [c30] at z; cases z.1), ← hrest, gp_at]) (by omega) (fun z => by rw [hm3]; exact hm2 z) (by omega) (by omega)
            · skip
              refine And.intro (trivial) (And.intro ?_ (And.intro (Nat.le_refl _) (Nat.le_refl _)))
              rw [accL, if_neg c16, gc_at, hv] at hres
              rw [← hres]
              show (_ : Option Value) = some (Value.int (iI (if ee u9.2.2.2 = true then _ else none))) ∧ _
              rw [if_neg (by rw [← hrest, gp_at, sep_no c43]; decide)]
              exact ⟨rfl, upd s5 12 (nI (if T.getD (pz T p2 isGp) 0 = 44 then pz T p2 isGp + 1 else pz T p2 isGp)), rfl, ((hg4.upd (by decide)).trans hg5).upd (by decide)⟩
          · skip
            have c30 : u9.1 = true := by
              cases hu : u9.1 with
              | true => rfl
              | false =>
                have c30 : nI _ - nI _ / nI 2 * nI 2 = nI 1 := c30
                rw [pk_rem (by split <;> omega) (by decide) (by decide), hu, if_neg (by decide)] at c30
                exact absurd ((nI_eq (by omega) (by omega)).mp c30) (by omega)
            refine And.intro (fun c33 => ?_) (fun c33 => ?_)
            · skip
              have c33 : u9.2.1 + 1 ≤ mt := (bq_le ht9 hmt).mp (by rw [c30, if_pos rfl] at c33; exact c33)
              refine vx_go hC hFt hini (vx_ends hC hr hlk) jc_Mo_accepted 39 (by decide) rfl ?_
              refine mo_call hC (c_Mo_separator l D tys tc hty h ar now s5 ai al 0 T p2 hM5) wm_Mo_separator wl_Mo_209 wi_Mo_separator ws_Mo_Mo_separator ⟨by decide, by decide⟩ rfl rfl (Nat.le_of_ble_eq_true rfl) ⟨Nat.zero_le _, Nat.zero_le _⟩ (fun r' w1 hp => ?_)
              obtain ⟨rfl, rfl⟩ := hp
              refine And.intro (fun c43 => ?_) (fun c43 => ?_)
              · skip
                refine vx_go hC hFt hini (vx_ends hC hr hlk) jc_Mo_accepted 46 (by decide) rfl ?_
                refine Vx.subL (lv' := [(0, .ref h), (1, .int (nI kd)), (2, .int (bq mt)), (3, .int (nI q)), (4, .int (nI els + 1)), (5, .int (sepv T (pz T p2 isGp)))]) [3, 4, 5, 6, 1, 0] rfl ?_
                obtain ⟨hee, mo2, hm1, hm2, hm3, hm4, hm5⟩ := sep_yes c43
                refine Vx.eqs rfl (lv2 := [(0, .ref h), (1, .int (nI kd)), (2, .int (bq mt)), (3, .int (nI q)), (4, .int (nI (els + 1))), (5, .int (bI mo2))]) (by rw [nI_1, hm1]) rfl rfl ?_
                exact ih mt q (els + 1) mo2 (upd s5 12 (nI (if T.getD (pz T p2 isGp) 0 = 44 then pz T p2 isGp + 1 else pz T p2 isGp))) (if T.getD (pz T p2 isGp) 0 = 44 then pz T p2 isGp + 1 else pz T p2 isGp) (((hg4.upd (by decide)).trans hg5).upd (by decide)) (((pk_un (by decide)).trans h511).trans (((pk_un (by decide)).trans h411))) pk_us (hm4 hP2) (by omega) (by rw [accL_gc hm3, ← hres, accL, if_neg c16, gc_at, hv]; show _ = if ee u9.2.2.2 = true then _ else none; rw [if_pos (by rw [← hrest, gp_at]; exact hee), if_neg (fun z : u9.1 = true ∧ mt < u9.2.1 + 1 => by have := z.2; omega), if_neg (fun z : u9.1 = true ∧ mt < u9.2.1 + 1 => by have := z.2; omega), ← hrest, gp_at]) (by omega) (fun z => by rw [hm3]; exact hm2 z) (by omega) (by omega)
              · skip
                refine And.intro (trivial) (And.intro ?_ (And.intro (Nat.le_refl _) (Nat.le_refl _)))
                rw [accL, if_neg c16, gc_at, hv] at hres
                rw [← hres]
                show (_ : Option Value) = some (Value.int (iI (if ee u9.2.2.2 = true then _ else none))) ∧ _
                rw [if_neg (by rw [← hrest, gp_at, sep_no c43]; decide)]
                exact ⟨rfl, upd s5 12 (nI (if T.getD (pz T p2 isGp) 0 = 44 then pz T p2 isGp + 1 else pz T p2 isGp)), rfl, ((hg4.upd (by decide)).trans hg5).upd (by decide)⟩
            · skip
              have c33 : ¬ (u9.2.1 + 1 ≤ mt) := fun z => c33 (by rw [c30, if_pos rfl]; exact (bq_le ht9 hmt).mpr z)
              refine And.intro rfl ?_
              refine mo_call hC (c_Mo_separator l D tys tc hty h ar now s5 ai al 0 T p2 hM5) wm_Mo_separator wl_Mo_209 wi_Mo_separator ws_Mo_Mo_separator ⟨by decide, by decide⟩ rfl rfl (Nat.le_of_ble_eq_true rfl) ⟨Nat.zero_le _, Nat.zero_le _⟩ (fun r' w1 hp => ?_)
              obtain ⟨rfl, rfl⟩ := hp
              refine And.intro (fun c43 => ?_) (fun c43 => ?_)
              · skip
                refine vx_go hC hFt hini (vx_ends hC hr hlk) jc_Mo_accepted 46 (by decide) rfl ?_
                refine Vx.subL (lv' := [(0, .ref h), (1, .int (nI kd)), (2, .int (nI (8 * u9.2.1 + (if u9.1 = true then 1 else 0)))), (3, .int (s5 16)), (4, .int (nI els + 1)), (5, .int (sepv T (pz T p2 isGp)))]) [5, 6, 2, 1, 3, 0] rfl ?_
                obtain ⟨hee, mo2, hm1, hm2, hm3, hm4, hm5⟩ := sep_yes c43
                refine Vx.eqs rfl (lv2 := [(0, .ref h), (1, .int (nI kd)), (2, .int (bq (u9.2.1 + 1))), (3, .int (nI u9.2.2.1)), (4, .int (nI (els + 1))), (5, .int (bI mo2))]) (by rw [nI_1, hm1, hval, show bq (u9.2.1 + 1) = nI (8 * u9.2.1 + (if u9.1 = true then 1 else 0)) by rw [bq, if_neg (by omega), c30, Nat.add_sub_cancel, if_pos rfl]]) rfl rfl ?_
                exact ih (u9.2.1 + 1) u9.2.2.1 (els + 1) mo2 (upd s5 12 (nI (if T.getD (pz T p2 isGp) 0 = 44 then pz T p2 isGp + 1 else pz T p2 isGp))) (if T.getD (pz T p2 isGp) 0 = 44 then pz T p2 isGp + 1 else pz T p2 isGp) (((hg4.upd (by decide)).trans hg5).upd (by decide)) (((pk_un (by decide)).trans h511).trans (((pk_un (by decide)).trans h411))) pk_us (hm4 hP2) (by omega) (by rw [accL_gc hm3, ← hres, accL, if_neg c16, gc_at, hv]; show _ = if ee u9.2.2.2 = true then _ else none; rw [if_pos (by rw [← hrest, gp_at]; exact hee), if_pos (⟨c30, by omega⟩ : u9.1 = true ∧ mt < u9.2.1 + 1), if_pos (⟨c30, by omega⟩ : u9.1 = true ∧ mt < u9.2.1 + 1), ← hrest, gp_at]) (by omega) (fun z => by rw [hm3]; exact hm2 z) (by omega) (by omega)
              · skip
                refine And.intro (trivial) (And.intro ?_ (And.intro (Nat.le_refl _) (Nat.le_refl _)))
                rw [accL, if_neg c16, gc_at, hv] at hres
                rw [← hres]
                show (_ : Option Value) = some (Value.int (iI (if ee u9.2.2.2 = true then _ else none))) ∧ _
                rw [if_neg (by rw [← hrest, gp_at, sep_no c43]; decide)]
                exact ⟨rfl, upd s5 12 (nI (if T.getD (pz T p2 isGp) 0 = 44 then pz T p2 isGp + 1 else pz T p2 isGp)), rfl, ((hg4.upd (by decide)).trans hg5).upd (by decide)⟩
        · skip
          refine And.intro (trivial) (And.intro ?_ (And.intro (Nat.le_refl _) (Nat.le_refl _)))
          rw [accL, if_neg c16, gc_at] at hres
          cases hv : (mrg (mnL kd) (snL kd) (pnL kd) (vnL kd) (T.drop (pz T pp isGc))) with
          | none =>
            rw [hv] at hres
            rw [← hres]
            exact ⟨rfl, s5, rfl, (hg4.upd (by decide)).trans hg5⟩
          | some u9 => exact absurd (by rw [(hgs u9 hv).1]; exact nI_pos' (by have := (hgs u9 hv).2.1; split <;> omega)) c22
