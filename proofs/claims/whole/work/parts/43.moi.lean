/-! THE REFERENCE: lists of tags, by program (wip/whole/gen/p43.py) -/
/-- a number's digits -/
def dcl : Nat → Nat → List Nat
  | 0, n => [48 + n % 10]
  | k + 1, n => if n < 10 then [48 + n] else dcl k (n / 10) ++ [48 + n % 10]
def dec (n : Nat) : List Nat := dcl 10 n
def ndg (n : Nat) : Nat := if n < 10 then 1 else if n < 100 then 2 else if n < 1000 then 3 else 4
def tagL (n : Nat) : List Nat := 118 :: dec n
/-- the digits, from the last one on -/
def mtc (T : List Nat) (a : Nat) : Nat → Nat → Bool
  | 0, _ => true
  | k + 1, re => decide (T.getD (a + (k + 1)) 0 = 48 + re % 10) && mtc T a k (re / 10)
theorem tag_dec {T : List Nat} {a b tg : Nat} (ht : tg ≤ 9999) (hb : b ≤ T.length) : ((decide (b - a = ndg tg + 1) && decide (T.getD a 0 = 118)) && mtc T a (ndg tg) tg) = decide (sl T a b = tagL tg) := by
  apply Bool.eq_iff_iff.mpr
  simp only [Bool.and_eq_true, decide_eq_true_eq]
  by_cases h1 : tg < 10
  · rw [show ndg tg = 1 by unfold ndg; rw [if_pos h1], show tagL tg = [118, 48 + tg] by simp [tagL, dec, dcl, h1]]
    constructor
    · rintro ⟨⟨e1, e2⟩, e3⟩
      rw [sl_cons (by omega) hb, sl_cons (by omega) hb, show b = a + 1 + 1 by omega, sl_nil, e2]
      simp only [mtc, Bool.and_true, decide_eq_true_eq] at e3
      rw [e3, Nat.mod_eq_of_lt h1]
    · intro e
      have hl := congrArg List.length e
      rw [sl_len hb] at hl
      simp only [List.length_cons, List.length_nil] at hl
      rw [sl_cons (by omega) hb, sl_cons (by omega) hb, show b = a + 1 + 1 by omega, sl_nil] at e
      simp only [List.cons.injEq, and_true, Nat.add_assoc, Nat.reduceAdd] at e
      simp only [mtc, Bool.and_true, decide_eq_true_eq, Nat.add_assoc, Nat.reduceAdd]
      omega
  · by_cases h2 : tg < 100
    · rw [show ndg tg = 2 by unfold ndg; rw [if_neg h1, if_pos h2], show tagL tg = [118, 48 + tg / 10, 48 + tg % 10] by simp [tagL, dec, dcl, h1, show tg / 10 < 10 by omega]]
      constructor
      · rintro ⟨⟨e1, e2⟩, e3⟩
        rw [sl_cons (by omega) hb, sl_cons (by omega) hb, sl_cons (by omega) hb, show b = a + 1 + 1 + 1 by omega, sl_nil, e2]
        simp only [mtc, Bool.and_true, Bool.and_eq_true, decide_eq_true_eq] at e3
        rw [show a + 1 + 1 = a + 2 by omega, e3.1, e3.2, Nat.mod_eq_of_lt (show tg / 10 < 10 by omega)]
      · intro e
        have hl := congrArg List.length e
        rw [sl_len hb] at hl
        simp only [List.length_cons, List.length_nil] at hl
        rw [sl_cons (by omega) hb, sl_cons (by omega) hb, sl_cons (by omega) hb, show b = a + 1 + 1 + 1 by omega, sl_nil] at e
        simp only [List.cons.injEq, and_true, Nat.add_assoc, Nat.reduceAdd] at e
        simp only [mtc, Bool.and_true, Bool.and_eq_true, decide_eq_true_eq, Nat.add_assoc, Nat.reduceAdd]
        omega
    · by_cases h3 : tg < 1000
      · rw [show ndg tg = 3 by unfold ndg; rw [if_neg h1, if_neg h2, if_pos h3], show tagL tg = [118, 48 + tg / 10 / 10, 48 + tg / 10 % 10, 48 + tg % 10] by simp [tagL, dec, dcl, h1, show ¬ tg / 10 < 10 by omega, show tg / 10 / 10 < 10 by omega]]
        constructor
        · rintro ⟨⟨e1, e2⟩, e3⟩
          rw [sl_cons (by omega) hb, sl_cons (by omega) hb, sl_cons (by omega) hb, sl_cons (by omega) hb, show b = a + 1 + 1 + 1 + 1 by omega, sl_nil, e2]
          simp only [mtc, Bool.and_true, Bool.and_eq_true, decide_eq_true_eq] at e3
          rw [show a + 1 + 1 + 1 = a + 3 by omega, show a + 1 + 1 = a + 2 by omega, e3.1, e3.2.1, e3.2.2, Nat.mod_eq_of_lt (show tg / 10 / 10 < 10 by omega)]
        · intro e
          have hl := congrArg List.length e
          rw [sl_len hb] at hl
          simp only [List.length_cons, List.length_nil] at hl
          rw [sl_cons (by omega) hb, sl_cons (by omega) hb, sl_cons (by omega) hb, sl_cons (by omega) hb, show b = a + 1 + 1 + 1 + 1 by omega, sl_nil] at e
          simp only [List.cons.injEq, and_true, Nat.add_assoc, Nat.reduceAdd] at e
          simp only [mtc, Bool.and_true, Bool.and_eq_true, decide_eq_true_eq, Nat.add_assoc, Nat.reduceAdd]
          omega
      · rw [show ndg tg = 4 by unfold ndg; rw [if_neg h1, if_neg h2, if_neg h3], show tagL tg = [118, 48 + tg / 10 / 10 / 10, 48 + tg / 10 / 10 % 10, 48 + tg / 10 % 10, 48 + tg % 10] by simp [tagL, dec, dcl, h1, show ¬ tg / 10 < 10 by omega, show ¬ tg / 10 / 10 < 10 by omega, show tg / 10 / 10 / 10 < 10 by omega]]
        constructor
        · rintro ⟨⟨e1, e2⟩, e3⟩
          rw [sl_cons (by omega) hb, sl_cons (by omega) hb, sl_cons (by omega) hb, sl_cons (by omega) hb, sl_cons (by omega) hb, show b = a + 1 + 1 + 1 + 1 + 1 by omega, sl_nil, e2]
          simp only [mtc, Bool.and_true, Bool.and_eq_true, decide_eq_true_eq] at e3
          rw [show a + 1 + 1 + 1 + 1 = a + 4 by omega, show a + 1 + 1 + 1 = a + 3 by omega, show a + 1 + 1 = a + 2 by omega, e3.1, e3.2.1, e3.2.2.1, e3.2.2.2, Nat.mod_eq_of_lt (show tg / 10 / 10 / 10 < 10 by omega)]
        · intro e
          have hl := congrArg List.length e
          rw [sl_len hb] at hl
          simp only [List.length_cons, List.length_nil] at hl
          rw [sl_cons (by omega) hb, sl_cons (by omega) hb, sl_cons (by omega) hb, sl_cons (by omega) hb, sl_cons (by omega) hb, show b = a + 1 + 1 + 1 + 1 + 1 by omega, sl_nil] at e
          simp only [List.cons.injEq, and_true, Nat.add_assoc, Nat.reduceAdd] at e
          simp only [mtc, Bool.and_true, Bool.and_eq_true, decide_eq_true_eq, Nat.add_assoc, Nat.reduceAdd]
          omega
theorem nI_dec (n : Nat) : nI (n + 1) + (-1) = nI n := by rw [← nI_pred n, Int32.sub_eq_add_neg]
theorem mod10 {a : Nat} (h : a < 2 ^ 31) : nI a - nI a / (10 : Int32) * (10 : Int32) = nI (a % 10) := pk_rem h (by decide) (by decide)
set_option maxRecDepth 100000 in
set_option maxHeartbeats 4000000 in
theorem c_Mo_isTagOf (l : Launch) (D : va_G) (tys : List (ClassId × FieldType)) (tc : Nat → ClassId) (hty : ∀ i : Nat, i < 4 → tys[i]? = some (tc i, vx_ty i)) (h : Nat) (ar : Nat → Nat) (now : Int64) (sc : Nat → Int32) (ai : Nat → Nat → Int32) (al : Nat → Nat → Int64) (F : Nat) (T : List Nat) (ps : Nat) (hM : mdS sc ai F T ps) (a b : Nat) (hab : a ≤ b) (hb : b ≤ T.length) (h13 : sc 13 = nI a) (h14 : sc 14 = nI b) (i tg : Nat) (hi4 : i < 4) (htg : ai 4 i = nI tg) (htl : tg ≤ 9999) : Kt l y_Mo_isTagOf (yw y_Mo_isTagOf b_Mo_isTagOf 6 (some .boolean)) 1 21 0 0 D cls tys (fun _ _ _ => True) [.ref h, .int (nI i)] (mdW tc h ar now sc ai al) (fun r w => r = some (.int (bI (decide (sl T a b = tagL tg)))) ∧ w = (mdW tc h ar now sc ai al)) := by
  refine Kt.of ro_true (by decide) rfl hty (Nat.le_of_ble_eq_true rfl) ?_
  intro p e s m args below meth c0 A hC hr hlk hnm hF
  have hFt : vx_Ft y_Mo_isTagOf.cls (yw y_Mo_isTagOf b_Mo_isTagOf 6 (some .boolean)) cls cty ft_Mo := ft_of (fun w h => List.mem_cons_of_mem _ h) fl_Mo_in ft_Mo_b
  have hini : false = true → meth.name = "<init>" := fun h => by cases h
  obtain ⟨hF8, h11, hlenT, htx, hT, h12, hps⟩ := id hM
  have hTl := hT.1
  refine vx_cut (α := Nat) 48 (fun u => u = ndg tg) (fun u => [(0, .ref h), (1, .int (nI i)), (2, .int (nI u))]) (fun u => []) (fun u => (mdW tc h ar now sc ai al)) (fun hJ26 => ?_) ?_
  · skip
    refine vx_gon hC hFt hini (vx_ends hC hr hlk) jc_Mo_isTagOf 0 26 (by decide) rfl ?_
    refine And.intro rfl ?_
    refine And.intro rfl (And.intro rfl (And.intro (vp_in_nI hi4 (by decide)) ?_))
    rw [nI_clamp (by omega), htg]
    refine And.intro (fun c5 => ?_) (fun c5 => ?_)
    · skip
      have c5 := (nI_leI (a := 10) (b := tg) (by omega) (by omega)).mp c5
      refine vx_gon hC hFt hini (vx_ends hC hr hlk) jc_Mo_isTagOf 8 18 (by decide) rfl ?_
      refine And.intro rfl ?_
      refine And.intro rfl (And.intro rfl (And.intro (vp_in_nI hi4 (by decide)) ?_))
      rw [nI_clamp (by omega), htg]
      refine And.intro (fun c13 => ?_) (fun c13 => ?_)
      · skip
        have c13 := (nI_leI (a := 100) (b := tg) (by omega) (by omega)).mp c13
        refine vx_gon hC hFt hini (vx_ends hC hr hlk) jc_Mo_isTagOf 16 10 (by decide) rfl ?_
        refine And.intro rfl ?_
        refine And.intro rfl (And.intro rfl (And.intro (vp_in_nI hi4 (by decide)) ?_))
        rw [nI_clamp (by omega), htg]
        refine And.intro (fun c21 => ?_) (fun c21 => ?_)
        · skip
          have c21 := (nI_leI (a := 1000) (b := tg) (by omega) (by omega)).mp c21
          refine vx_gon hC hFt hini (vx_ends hC hr hlk) jc_Mo_isTagOf 24 2 (by decide) rfl ?_
          refine Vx.subL (lv' := [(0, .ref h), (1, .int (nI i)), (2, .int (nI 4))]) [1, 2, 0] rfl ?_
          exact hJ26 4 (by rw [ndg, if_neg (by omega), if_neg (by omega), if_neg (by omega)])
        · skip
          have c21 : ¬ (1000 ≤ tg) := fun z => c21 ((nI_leI (a := 1000) (b := tg) (by omega) (by omega)).mpr z)
          refine vx_gon hC hFt hini (vx_ends hC hr hlk) jc_Mo_isTagOf 25 1 (by decide) rfl ?_
          refine Vx.subL (lv' := [(0, .ref h), (1, .int (nI i)), (2, .int (nI 3))]) [1, 2, 0] rfl ?_
          exact hJ26 3 (by rw [ndg, if_neg (by omega), if_neg (by omega), if_pos (by omega)])
      · skip
        have c13 : ¬ (100 ≤ tg) := fun z => c13 ((nI_leI (a := 100) (b := tg) (by omega) (by omega)).mpr z)
        refine vx_gon hC hFt hini (vx_ends hC hr hlk) jc_Mo_isTagOf 25 1 (by decide) rfl ?_
        refine Vx.subL (lv' := [(0, .ref h), (1, .int (nI i)), (2, .int (nI 2))]) [1, 2, 0] rfl ?_
        exact hJ26 2 (by rw [ndg, if_neg (by omega), if_pos (by omega)])
    · skip
      have c5 : ¬ (10 ≤ tg) := fun z => c5 ((nI_leI (a := 10) (b := tg) (by omega) (by omega)).mpr z)
      refine vx_gon hC hFt hini (vx_ends hC hr hlk) jc_Mo_isTagOf 25 1 (by decide) rfl ?_
      refine Vx.subL (lv' := [(0, .ref h), (1, .int (nI i)), (2, .int (nI 1))]) [1, 2, 0] rfl ?_
      exact hJ26 1 (by rw [ndg, if_pos (by omega)])
  · intro nd hnd
    have hnd4 : 1 ≤ nd ∧ nd ≤ 4 := by rw [hnd]; unfold ndg; split <;> (try split) <;> (try split) <;> omega
    refine vx_cut (α := Bool) 82 (fun u => u = (decide (b - a = nd + 1) && decide (T.getD a 0 = 118))) (fun u => [(0, .ref h), (1, .int (nI i)), (2, .int (nI nd)), (3, .int (bI u))]) (fun u => []) (fun u => (mdW tc h ar now sc ai al)) (fun hJ45 => ?_) ?_
    · skip
      refine vx_gon hC hFt hini (vx_ends hC hr hlk) jc_Mo_isTagOf 26 19 (by decide) rfl ?_
      refine And.intro rfl ?_
      refine And.intro rfl ?_
      refine And.intro (fun c34 => ?_) (fun c34 => ?_)
      · skip
        have c34 : ¬ (b - a = nd + 1) := fun z => c34 (by rw [h14, h13, pk_sub hab, z]; exact (nI_1 nd).symm)
        refine vx_gon hC hFt hini (vx_ends hC hr hlk) jc_Mo_isTagOf 43 2 (by decide) rfl ?_
        refine Vx.subL (lv' := [(0, .ref h), (1, .int (nI i)), (2, .int (nI nd)), (3, .int (bI false))]) [1, 2, 3, 0] rfl ?_
        exact hJ45 false (by rw [decide_eq_false c34]; rfl)
      · skip
        have c34 : b - a = nd + 1 := by
          rw [h14, h13, pk_sub hab] at c34
          exact (nI_eq (by omega) (by omega)).mp (by rw [← nI_1 nd]; exact c34)
        refine And.intro rfl ?_
        refine mo_call hC (c_Mo_charAt l D tys tc hty h ar now sc ai al F T ps hM a (by omega)) wm_Mo_charAt wl_Mo_111 wi_Mo_charAt ws_Mo_Mo_charAt ⟨by decide, by decide⟩ rfl (by rw [h13]; rfl) (Nat.le_of_ble_eq_true rfl) ⟨Nat.zero_le _, Nat.zero_le _⟩ (fun r' w1 hp => ?_)
        obtain ⟨rfl, rfl⟩ := hp
        refine And.intro (fun c40 => ?_) (fun c40 => ?_)
        · skip
          have c40 : ¬ (T.getD a 0 = 118) := fun z => c40 (by rw [z]; rfl)
          refine vx_gon hC hFt hini (vx_ends hC hr hlk) jc_Mo_isTagOf 43 2 (by decide) rfl ?_
          refine Vx.subL (lv' := [(0, .ref h), (1, .int (nI i)), (2, .int (nI nd)), (3, .int (bI false))]) [1, 2, 3, 0] rfl ?_
          exact hJ45 false (by rw [decide_eq_false c40, Bool.and_false])
        · skip
          have c40 : T.getD a 0 = 118 := (nI_eq (by have := T_lt hT (a); omega) (by omega)).mp c40
          refine vx_gon hC hFt hini (vx_ends hC hr hlk) jc_Mo_isTagOf 44 1 (by decide) rfl ?_
          refine Vx.subL (lv' := [(0, .ref h), (1, .int (nI i)), (2, .int (nI nd)), (3, .int (bI true))]) [1, 2, 3, 0] rfl ?_
          exact hJ45 true (by rw [decide_eq_true c34, decide_eq_true c40]; rfl)
    · intro c0 hc0
      refine vx_cut (α := Unit) 93 (fun u => True) (fun u => [(0, .ref h), (1, .int (nI i)), (2, .int (nI nd)), (3, .int (bI c0)), (4, .int (nI tg)), (5, .int (nI nd))]) (fun u => []) (fun u => (mdW tc h ar now sc ai al)) (fun hJ52 => ?_) ?_
      · skip
        refine vx_gon hC hFt hini (vx_ends hC hr hlk) jc_Mo_isTagOf 45 7 (by decide) rfl ?_
        refine And.intro rfl ?_
        refine And.intro rfl (And.intro rfl (And.intro (vp_in_nI hi4 (by decide)) ?_))
        rw [nI_clamp (by omega), htg]
        refine Vx.subL (lv' := [(0, .ref h), (1, .int (nI i)), (2, .int (nI nd)), (3, .int (bI c0)), (4, .int (nI tg)), (5, .int (nI nd))]) [2, 3, 4, 5, 1, 0] rfl ?_
        exact hJ52 () trivial
      · intro u9 _
        clear u9
        have hspec := tag_dec (a := a) htl hb
        rw [← hnd, ← hc0] at hspec
        generalize hRES : (c0 && mtc T a nd tg) = RES at hspec
        obtain ⟨k, hk⟩ : ∃ k, k = nd := ⟨_, rfl⟩
        obtain ⟨re, hre⟩ : ∃ re, re = tg := ⟨_, rfl⟩
        obtain ⟨sm, hsm⟩ : ∃ sm, sm = c0 := ⟨_, rfl⟩
        refine Vx.eqs rfl (lv2 := [(0, .ref h), (1, .int (nI i)), (2, .int (nI nd)), (3, .int (bI sm)), (4, .int (nI re)), (5, .int (nI k))]) (by rw [hk, hre, hsm]) rfl rfl ?_
        have hres : (sm && mtc T a k re) = RES := by rw [hk, hre, hsm]; exact hRES
        have hkn : k ≤ nd := by omega
        have hrl : re ≤ 9999 := by omega
        clear hk hre hsm hRES
        induction k generalizing sm re with
        | zero =>
          refine vx_go hC hFt hini (vx_ends hC hr hlk) jc_Mo_isTagOf 52 (by decide) rfl ?_
          refine And.intro (fun c53 => ?_) (fun c53 => ?_)
          · skip
            refine vx_go hC hFt hini (vx_ends hC hr hlk) jc_Mo_isTagOf 78 (by decide) rfl ?_
            refine And.intro ((bI_narrow _)) (And.intro ?_ (And.intro (Nat.le_refl _) (Nat.le_refl _)))
            rw [← hspec, ← hres, show mtc T a 0 re = true from rfl, Bool.and_true]
            exact And.intro rfl rfl
          · skip
            exact absurd (by decide) c53
        | succ k2 ih =>
          refine vx_go hC hFt hini (vx_ends hC hr hlk) jc_Mo_isTagOf 52 (by decide) rfl ?_
          refine And.intro (fun c53 => ?_) (fun c53 => ?_)
          · skip
            exact absurd c53 (nI_nle (Nat.succ_pos k2) (by omega))
          · skip
            refine And.intro (fun c55 => ?_) (fun c55 => ?_)
            · skip
              obtain rfl : sm = false := bI_eq c55
              refine vx_go hC hFt hini (vx_ends hC hr hlk) jc_Mo_isTagOf 70 (by decide) rfl ?_
              refine And.intro (by decide) ?_
              refine Vx.subL (lv' := [(0, .ref h), (1, .int (nI i)), (2, .int (nI nd)), (3, .int (bI false)), (4, .int (nI re / (10 : Int32))), (5, .int (nI (k2 + 1) + (-1)))]) [3, 4, 5, 2, 1, 0] rfl ?_
              rw [nI_dec, div10 (by omega)]
              exact ih (re / 10) false (by rw [← hres]; rfl) (by omega) (by omega)
            · skip
              obtain rfl : sm = true := bI_ne c55
              refine And.intro rfl ?_
              refine mo_call hC (c_Mo_charAt l D tys tc hty h ar now sc ai al F T ps hM (a + (k2 + 1)) (by omega)) wm_Mo_charAt wl_Mo_111 wi_Mo_charAt ws_Mo_Mo_charAt ⟨by decide, by decide⟩ rfl (show [Value.int (sc 13 + nI (k2 + 1)), Value.ref h] = [Value.int (nI (a + (k2 + 1))), Value.ref h] by rw [h13, nI_add]) (Nat.le_of_ble_eq_true rfl) ⟨Nat.zero_le _, Nat.zero_le _⟩ (fun r' w1 hp => ?_)
              obtain ⟨rfl, rfl⟩ := hp
              refine And.intro (by decide) ?_
              refine And.intro (fun c67 => ?_) (fun c67 => ?_)
              · skip
                have c67 : ¬ (T.getD (a + (k2 + 1)) 0 = 48 + re % 10) := fun z => c67 (by rw [z]; show _ = (48 : Int32) + (nI re - nI re / (10 : Int32) * (10 : Int32)); rw [mod10 (by omega), show (48 : Int32) = nI 48 from rfl, nI_add])
                refine vx_go hC hFt hini (vx_ends hC hr hlk) jc_Mo_isTagOf 70 (by decide) rfl ?_
                refine And.intro (by decide) ?_
                refine Vx.subL (lv' := [(0, .ref h), (1, .int (nI i)), (2, .int (nI nd)), (3, .int (bI false)), (4, .int (nI re / (10 : Int32))), (5, .int (nI (k2 + 1) + (-1)))]) [3, 4, 5, 2, 1, 0] rfl ?_
                rw [nI_dec, div10 (by omega)]
                exact ih (re / 10) false (by rw [← hres, mtc, decide_eq_false c67]; rfl) (by omega) (by omega)
              · skip
                have c67 : T.getD (a + (k2 + 1)) 0 = 48 + re % 10 := by
                  have c67 : _ = (48 : Int32) + (nI re - nI re / (10 : Int32) * (10 : Int32)) := c67
                  rw [mod10 (by omega), show (48 : Int32) = nI 48 from rfl, nI_add] at c67
                  exact (nI_eq (by have := T_lt hT (a + (k2 + 1)); omega) (by omega)).mp c67
                refine vx_go hC hFt hini (vx_ends hC hr hlk) jc_Mo_isTagOf 71 (by decide) rfl ?_
                refine And.intro (by decide) ?_
                refine Vx.subL (lv' := [(0, .ref h), (1, .int (nI i)), (2, .int (nI nd)), (3, .int (bI true)), (4, .int (nI re / (10 : Int32))), (5, .int (nI (k2 + 1) + (-1)))]) [3, 4, 5, 2, 1, 0] rfl ?_
                rw [nI_dec, div10 (by omega)]
                exact ih (re / 10) true (by rw [← hres, mtc, decide_eq_true c67]; rfl) (by omega) (by omega)
        skip
set_option maxRecDepth 100000 in
set_option maxHeartbeats 4000000 in
theorem c_Mo_loneTag (l : Launch) (D : va_G) (tys : List (ClassId × FieldType)) (tc : Nat → ClassId) (hty : ∀ i : Nat, i < 4 → tys[i]? = some (tc i, vx_ty i)) (h : Nat) (ar : Nat → Nat) (now : Int64) (sc : Nat → Int32) (ai : Nat → Nat → Int32) (al : Nat → Nat → Int64) (T : List Nat) (hT : mdT ai 6 T) : Kt l y_Mo_loneTag (yw y_Mo_loneTag b_Mo_loneTag 2 (some .boolean)) 4 83 0 0 D cls tys (fun _ _ _ => True) [.ref h] (mdW tc h ar now sc ai al) (fun r w => r = some (.int (bI ((tgt (gp T)).1 && (gp (tgt (gp T)).2.2.1).isEmpty))) ∧ ∃ s2, w = mdW tc h ar now s2 ai al ∧ gq sc s2) := by
  refine Kt.of ro_true (by decide) rfl hty (Nat.le_of_ble_eq_true rfl) ?_
  intro p e s m args below meth c0 A hC hr hlk hnm hF
  have hFt : vx_Ft y_Mo_loneTag.cls (yw y_Mo_loneTag b_Mo_loneTag 2 (some .boolean)) cls cty ft_Mo := ft_of (fun w h => List.mem_cons_of_mem _ h) fl_Mo_in ft_Mo_b
  have hini : false = true → meth.name = "<init>" := fun h => by cases h
  have hTl := hT.2.2.2.1
  have hPl := pz_lt (T := T) (a := 0) (q := isGp) (Nat.zero_le _)
  have hP : pz T 0 isGp ≤ 400 := by omega
  refine vx_go hC hFt hini (vx_ends hC hr hlk) jc_Mo_loneTag 0 (by decide) rfl ?_
  refine mo_call hC (c_Mo_open l D tys tc hty h ar now sc ai al 6) wm_Mo_open wl_Mo_199 wi_Mo_open ws_Mo_Mo_open ⟨by decide, by decide⟩ rfl rfl (Nat.le_of_ble_eq_true rfl) ⟨Nat.zero_le _, Nat.zero_le _⟩ (fun r' w1 hp => ?_)
  obtain ⟨rfl, rfl⟩ := hp
  refine mo_call hC (c_Mo_gap l D tys tc hty h ar now (upd (upd sc 11 (nI 6)) 12 (nI 0)) ai al 6 T 0 hT.opn) wm_Mo_gap wl_Mo_156 wi_Mo_gap ws_Mo_Mo_gap ⟨by decide, by decide⟩ rfl rfl (Nat.le_of_ble_eq_true rfl) ⟨Nat.zero_le _, Nat.zero_le _⟩ (fun r' w1 hp => ?_)
  obtain ⟨rfl, rfl⟩ := hp
  refine mo_call hC (c_Mo_tagText l D tys tc hty h ar now (upd (upd (upd sc 11 (nI 6)) 12 (nI 0)) 12 (nI (pz T 0 isGp))) ai al 6 T (pz T 0 isGp) (hT.opn.at hP) hPl) wm_Mo_tagText wl_Mo_235 wi_Mo_tagText ws_Mo_Mo_tagText ⟨by decide, by decide⟩ rfl rfl (Nat.le_of_ble_eq_true rfl) ⟨Nat.zero_le _, Nat.zero_le _⟩ (fun r' w1 hp => ?_)
  rw [show tgt (T.drop (pz T 0 isGp)) = tgt (gp T) from congrArg tgt gp_at.symm] at hp
  obtain ⟨rfl, s3, p3, rfl, hg3, h311, h312, hp3l, hx⟩ := hp
  have hgl : gq sc s3 := (((gq.refl.upd (by decide)).upd (by decide)).upd (by decide)).trans hg3
  have hM3 : mdS s3 ai 6 T p3 := (hT.opn (sc := sc)).gq h311 h312 (by omega)
  refine mo_call hC (c_Mo_gap l D tys tc hty h ar now s3 ai al 6 T p3 hM3) wm_Mo_gap wl_Mo_156 wi_Mo_gap ws_Mo_Mo_gap ⟨by decide, by decide⟩ rfl rfl (Nat.le_of_ble_eq_true rfl) ⟨Nat.zero_le _, Nat.zero_le _⟩ (fun r' w1 hp => ?_)
  obtain ⟨rfl, rfl⟩ := hp
  refine And.intro (fun c11 => ?_) (fun c11 => ?_)
  · skip
    have c11 := bI_eq c11
    refine vx_go hC hFt hini (vx_ends hC hr hlk) jc_Mo_loneTag 17 (by decide) rfl ?_
    refine And.intro (rfl) (And.intro ?_ (And.intro (Nat.le_refl _) (Nat.le_refl _)))
    rw [show (tgt (gp T)).1 = false from c11]
    exact ⟨rfl, _, rfl, hgl.upd (by decide)⟩
  · skip
    have c11 := bI_ne c11
    refine mo_call hC (c_Mo_ended l D tys tc hty h ar now (upd s3 12 (nI (pz T p3 isGp))) ai al 6 T (pz T p3 isGp) (hM3.at (pz_le (by omega) (by omega)))) wm_Mo_ended wl_Mo_166 wi_Mo_ended ws_Mo_Mo_ended ⟨by decide, by decide⟩ rfl rfl (Nat.le_of_ble_eq_true rfl) ⟨Nat.zero_le _, Nat.zero_le _⟩ (fun r' w1 hp => ?_)
    obtain ⟨rfl, rfl⟩ := hp
    refine And.intro (fun c14 => ?_) (fun c14 => ?_)
    · skip
      have c14 : ¬ T.length ≤ pz T p3 isGp := of_decide_eq_false (bI_eq c14)
      refine vx_go hC hFt hini (vx_ends hC hr hlk) jc_Mo_loneTag 17 (by decide) rfl ?_
      refine And.intro (rfl) (And.intro ?_ (And.intro (Nat.le_refl _) (Nat.le_refl _)))
      rw [show (tgt (gp T)).1 = true from c11, ← (hx c11).1, gp_at, drop_get (Nat.lt_of_not_le c14)]
      exact ⟨rfl, _, rfl, hgl.upd (by decide)⟩
    · skip
      have c14 : T.length ≤ pz T p3 isGp := of_decide_eq_true (bI_ne c14)
      refine vx_go hC hFt hini (vx_ends hC hr hlk) jc_Mo_loneTag 18 (by decide) rfl ?_
      refine And.intro (rfl) (And.intro ?_ (And.intro (Nat.le_refl _) (Nat.le_refl _)))
      rw [show (tgt (gp T)).1 = true from c11, ← (hx c11).1, gp_at, drop_end c14]
      exact ⟨rfl, _, rfl, hgl.upd (by decide)⟩
