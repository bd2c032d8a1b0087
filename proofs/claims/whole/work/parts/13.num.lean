/-! THE READER: numbers, by program (wip/whole/gen/p13.py) -/
/-- a number that may be wanting -/
def iI (v : Option Nat) : Int32 := match v with
  | none => -1
  | some a => nI a
/-- k digits behind a -/
def dgs : Nat → Nat → List Nat → Option Nat × List Nat
  | 0, a, rs => (some a, rs)
  | _ + 1, _, [] => (none, [])
  | k + 1, a, x :: r => if isDg x then dgs k (10 * a + x - 48) r else (none, x :: r)
theorem dg_in {x : Nat} (h : isDg x = true) : 48 ≤ x ∧ x ≤ 57 := by simpa [isDg] using h
theorem dg_no {x : Nat} (h : ¬ (48 ≤ x ∧ x ≤ 57)) : isDg x = false := by simpa [isDg] using h
theorem dg_yes {x : Nat} (h : 48 ≤ x ∧ x ≤ 57) : isDg x = true := by simpa [isDg] using h
theorem ten_add {a x : Nat} (h : 48 ≤ x) : (10 : Int32) * nI a + nI x - 48 = nI (10 * a + x - 48) := by
  rw [show (10 : Int32) = nI 10 from rfl, show (48 : Int32) = nI 48 from rfl, pk_mul, nI_add, pk_sub (by omega)]
set_option maxRecDepth 100000 in
set_option maxHeartbeats 4000000 in
theorem c_Rd_takeDigits (l : Launch) (D : va_G) (tys : List (ClassId × FieldType)) (tc : Nat → ClassId) (hty : ∀ i : Nat, i < 4 → tys[i]? = some (tc i, vx_ty i)) (ci : Nat) (hci : ci < 5) (h ra sa : Nat) (ex : List Value) (T rs : List Nat) (sd : Nat → Int32) (ss : Nat) (hT : isT T) (hs : rs <:+ T) (mn : Nat) (hmn : mn < 100) : Kt l y_Rd_takeDigits (yw y_Rd_takeDigits b_Rd_takeDigits 4 (some .int)) 0 0 0 0 D cls tys (rdF ra T) [.ref h, .int (nI mn)] (rdW tc ci h ra sa ex T rs sd ss) (fun r w => r = some (.int (iI (dgs mn 0 rs).1)) ∧ w = rdW tc ci h ra sa ex T (dgs mn 0 rs).2 sd ss) := by
  refine Kt.of (rdF_ro _ _) (by decide) rfl hty (Nat.le_of_ble_eq_true rfl) ?_
  intro p e s m args below meth c0 A hC hr hlk hnm hF
  have hFt : vx_Ft y_Rd_takeDigits.cls (yw y_Rd_takeDigits b_Rd_takeDigits 4 (some .int)) cls cty ft_Rd := ft_of (fun w h => List.mem_cons_of_mem _ h) fl_Rd_in ft_Rd_b
  have hini : false = true → meth.name = "<init>" := fun h => by cases h
  have hF0 := hF
  obtain ⟨N, f, hrow, hN, hf⟩ := hF
  have hTl := hT.1
  rcases (show ci = 0 ∨ ci = 1 ∨ ci = 2 ∨ ci = 3 ∨ ci = 4 by omega) with rfl | rfl | rfl | rfl | rfl
  all_goals
    refine vx_gon hC hFt hini (vx_ends hC hr hlk) jc_Rd_takeDigits 0 4 (by decide) rfl ?_
    generalize hres : dgs mn 0 rs = RES
    refine Vx.subL (lv' := [(0, .ref h), (1, .int (nI mn)), (2, .int (nI 0)), (3, .int (nI 0))]) [2, 3, 1, 0] rfl ?_
    obtain ⟨a, ha⟩ : ∃ a : Nat, a = 0 := ⟨_, rfl⟩
    obtain ⟨i, hi⟩ : ∃ i : Nat, i = 0 := ⟨_, rfl⟩
    obtain ⟨k, hk⟩ : ∃ k : Nat, k = mn := ⟨_, rfl⟩
    have hik : i + k = mn := by omega
    refine Vx.eqs rfl (lv2 := [(0, .ref h), (1, .int (nI mn)), (2, .int (nI a)), (3, .int (nI i))]) (by rw [ha, hi]) rfl rfl ?_
    replace hres : dgs k a rs = RES := by rw [hk, ha]; exact hres
    clear ha hi hk
    induction k using Nat.strongRecOn generalizing rs a i with
    | _ k ih =>
      refine vx_go hC hFt hini (vx_ends hC hr hlk) jc_Rd_takeDigits 4 (by decide) rfl ?_
      refine And.intro (fun c6 => ?_) (fun c6 => ?_)
      · skip
        have c6 := (nI_leI (a := mn) (b := i) (by omega) (by omega)).mp c6
        obtain rfl : k = 0 := by omega
        refine vx_go hC hFt hini (vx_ends hC hr hlk) jc_Rd_takeDigits 48 (by decide) rfl ?_
        refine And.intro (trivial) (And.intro ?_ (And.intro (Nat.le_refl _) (Nat.le_refl _)))
        rw [← hres]
        exact And.intro rfl rfl
      · skip
        have c6 : ¬ (mn ≤ i) := fun z => c6 ((nI_leI (a := mn) (b := i) (by omega) (by omega)).mpr z)
        obtain ⟨k2, rfl⟩ : ∃ k2, k = k2 + 1 := ⟨k - 1, by omega⟩
        refine And.intro rfl ?_
        refine And.intro rfl ?_
        refine And.intro (fun c11 => ?_) (fun c11 => ?_)
        · skip
          have hle := sfx_le hs
          have hnil : rs = [] := by
            have h2 := (nI_leI (a := T.length) (b := T.length - rs.length) (by omega) (by omega)).mp c11
            exact List.eq_nil_of_length_eq_zero (by omega)
          subst hnil
          refine vx_go hC hFt hini (vx_ends hC hr hlk) jc_Rd_takeDigits 26 (by decide) rfl ?_
          refine And.intro (trivial) (And.intro ?_ (And.intro (Nat.le_refl _) (Nat.le_refl _)))
          rw [← hres]
          exact And.intro rfl rfl
        · skip
          have hle := sfx_le hs
          obtain ⟨x, r, hrs⟩ : ∃ x r, rs = x :: r := by
            cases hrs : rs with
            | nil => subst hrs; exact absurd ((nI_leI (a := T.length) (b := T.length - 0) (by omega) (by omega)).mpr (by omega)) c11
            | cons x r => exact ⟨x, r, rfl⟩
          obtain ⟨g1, g2, g3, g4, g5⟩ := sfx_at hs hrs
          have g6 := hT.2 x g5
          subst hrs
          refine And.intro rfl ?_
          refine And.intro rfl ?_
          refine ⟨N, f, hrow, vp_in_nI (by omega) hN.2, ?_⟩
          rw [nI_clamp (by omega), hf _ g1, g2]
          refine And.intro (fun c18 => ?_) (fun c18 => ?_)
          · skip
            have c18 := (nI_ltI (a := x) (b := 48) (by omega) (by omega)).mp c18
            refine vx_go hC hFt hini (vx_ends hC hr hlk) jc_Rd_takeDigits 26 (by decide) rfl ?_
            refine And.intro (trivial) (And.intro ?_ (And.intro (Nat.le_refl _) (Nat.le_refl _)))
            rw [← hres]
            simp only [dgs, dg_no (x := x) (by omega)]
            exact And.intro rfl rfl
          · skip
            have c18 : ¬ (x < 48) := fun z => c18 ((nI_ltI (a := x) (b := 48) (by omega) (by omega)).mpr z)
            refine And.intro rfl ?_
            refine And.intro rfl ?_
            refine ⟨N, f, hrow, vp_in_nI (by omega) hN.2, ?_⟩
            rw [nI_clamp (by omega), hf _ g1, g2]
            refine And.intro (fun c25 => ?_) (fun c25 => ?_)
            · skip
              have c25 := (nI_leI (a := x) (b := 57) (by omega) (by omega)).mp c25
              refine vx_go hC hFt hini (vx_ends hC hr hlk) jc_Rd_takeDigits 28 (by decide) rfl ?_
              refine And.intro rfl ?_
              refine And.intro rfl ?_
              refine ⟨N, f, hrow, vp_in_nI (by omega) hN.2, ?_⟩
              rw [nI_clamp (by omega), hf _ g1, g2]
              refine And.intro rfl ?_
              refine And.intro rfl ?_
              refine And.intro rfl (And.intro (And.intro rfl rfl) ?_)
              refine Vx.subL (lv' := [(0, .ref h), (1, .int (nI mn)), (2, .int ((10 : Int32) * nI a + nI x - 48)), (3, .int (nI i + 1))]) [2, 3, 1, 0] rfl ?_
              refine Vx.eqs rfl (by rw [ten_add (by omega), nI_1]) rfl (rd_step g4) (ih k2 (by omega) r g3 (10 * a + x - 48) (i + 1) (by omega) ?_)
              rw [← hres]
              simp only [dgs, dg_yes (x := x) (by omega), if_true]
            · skip
              have c25 : ¬ (x ≤ 57) := fun z => c25 ((nI_leI (a := x) (b := 57) (by omega) (by omega)).mpr z)
              refine And.intro (trivial) (And.intro ?_ (And.intro (Nat.le_refl _) (Nat.le_refl _)))
              rw [← hres]
              simp only [dgs, dg_no (x := x) (by omega)]
              exact And.intro rfl rfl
/-- of a row of digits: the number; more than nine: 999999999 -/
def f9 (ds : List Nat) : Nat := (ds.take 9).foldl (fun a x => 10 * a + x - 48) 0
def nmv (ds : List Nat) : Option Nat := if ds = [] then none else if 9 < ds.length then some 999999999 else some (f9 ds)
theorem f9_lo {ds : List Nat} {x : Nat} (h : ds.length < 9) : f9 (ds ++ [x]) = 10 * f9 ds + x - 48 := by
  unfold f9
  rw [List.take_of_length_le (by simp; omega), List.take_of_length_le (by omega), List.foldl_append]
  rfl
theorem f9_hi {ds : List Nat} {x : Nat} (h : 9 ≤ ds.length) : f9 (ds ++ [x]) = f9 ds := by
  unfold f9
  rw [List.take_append_of_le_length h]
set_option maxRecDepth 100000 in
set_option maxHeartbeats 4000000 in
theorem c_Rd_takeNumber (l : Launch) (D : va_G) (tys : List (ClassId × FieldType)) (tc : Nat → ClassId) (hty : ∀ i : Nat, i < 4 → tys[i]? = some (tc i, vx_ty i)) (ci : Nat) (hci : ci < 5) (h ra sa : Nat) (ex : List Value) (T rs : List Nat) (sd : Nat → Int32) (ss : Nat) (hT : isT T) (hs : rs <:+ T) : Kt l y_Rd_takeNumber (yw y_Rd_takeNumber b_Rd_takeNumber 3 (some .int)) 1 20 0 0 D cls tys (rdF ra T) [.ref h] (rdW tc ci h ra sa ex T rs sd ss) (fun r w => r = some (.int (iI (nmv (rs.takeWhile isDg)))) ∧ w = rdW tc ci h ra sa ex T (rs.dropWhile isDg) sd ss) := by
  refine Kt.of (rdF_ro _ _) (by decide) rfl hty (Nat.le_of_ble_eq_true rfl) ?_
  intro p e s m args below meth c0 A hC hr hlk hnm hF
  have hFt : vx_Ft y_Rd_takeNumber.cls (yw y_Rd_takeNumber b_Rd_takeNumber 3 (some .int)) cls cty ft_Rd := ft_of (fun w h => List.mem_cons_of_mem _ h) fl_Rd_in ft_Rd_b
  have hini : false = true → meth.name = "<init>" := fun h => by cases h
  have hF0 := hF
  obtain ⟨N, f, hrow, hN, hf⟩ := hF
  have hTl := hT.1
  rcases (show ci = 0 ∨ ci = 1 ∨ ci = 2 ∨ ci = 3 ∨ ci = 4 by omega) with rfl | rfl | rfl | rfl | rfl
  all_goals
    refine vx_gon hC hFt hini (vx_ends hC hr hlk) jc_Rd_takeNumber 0 4 (by decide) rfl ?_
    generalize hRF : rs.dropWhile isDg = RF
    generalize hDF : rs.takeWhile isDg = DF
    refine Vx.subL (lv' := [(0, .ref h), (1, .int (nI 0)), (2, .int (nI 0))]) [2, 1, 0] rfl ?_
    obtain ⟨Dg, hD0⟩ : ∃ Dg : List Nat, Dg = [] := ⟨_, rfl⟩
    have hDl : Dg.length + rs.length ≤ 96 := by have := sfx_le hs; rw [hD0]; simp; omega
    refine Vx.eqs rfl (lv2 := [(0, .ref h), (1, .int (nI Dg.length)), (2, .int (nI (f9 Dg)))]) (by rw [hD0]; rfl) rfl rfl ?_
    replace hDF : Dg ++ rs.takeWhile isDg = DF := by rw [hD0]; exact hDF
    clear hD0
    induction hlen : rs.length using Nat.strongRecOn generalizing rs Dg with
    | _ n ih =>
      refine vx_go hC hFt hini (vx_ends hC hr hlk) jc_Rd_takeNumber 4 (by decide) rfl ?_
      refine And.intro rfl ?_
      refine And.intro rfl ?_
      refine And.intro (fun c8 => ?_) (fun c8 => ?_)
      · skip
        have hle := sfx_le hs
        have hnil : rs = [] := by
          have h2 := (nI_leI (a := T.length) (b := T.length - rs.length) (by omega) (by omega)).mp c8
          exact List.eq_nil_of_length_eq_zero (by omega)
        subst hnil
        have tw_e : ([] : List Nat).takeWhile isDg = [] := rfl
        have dw_e : [] = RF := hRF
        refine vx_go hC hFt hini (vx_ends hC hr hlk) jc_Rd_takeNumber 41 (by decide) rfl ?_
        refine And.intro (fun c42 => ?_) (fun c42 => ?_)
        · skip
          have c42 : ¬ Dg.length = 0 := fun z => c42 (by rw [z]; rfl)
          refine vx_go hC hFt hini (vx_ends hC hr hlk) jc_Rd_takeNumber 45 (by decide) rfl ?_
          refine And.intro (fun c47 => ?_) (fun c47 => ?_)
          · skip
            have c47 := (nI_leI (a := Dg.length) (b := 9) (by omega) (by omega)).mp c47
            refine vx_go hC hFt hini (vx_ends hC hr hlk) jc_Rd_takeNumber 50 (by decide) rfl ?_
            refine And.intro (trivial) (And.intro ?_ (And.intro (Nat.le_refl _) (Nat.le_refl _)))
            have e1 : DF = Dg := by rw [← hDF, tw_e, List.append_nil]
            rw [e1]
            refine And.intro ?_ (by rw [dw_e])
            rw [show nmv Dg = some (f9 Dg) by rw [nmv, if_neg (fun z => by rw [z] at c42; simp at c42), if_neg (by omega)]]
            rfl
          · skip
            have c47 : ¬ (Dg.length ≤ 9) := fun z => c47 ((nI_leI (a := Dg.length) (b := 9) (by omega) (by omega)).mpr z)
            refine And.intro (Or.inl ⟨_, rfl, hC.2.2.2.2.1 _ (List.mem_cons_of_mem _ wc_Rd_80)⟩) ?_
            refine vx_go hC hFt hini (vx_ends hC hr hlk) jc_Rd_takeNumber 51 (by decide) rfl ?_
            refine And.intro (trivial) (And.intro ?_ (And.intro (Nat.le_refl _) (Nat.le_refl _)))
            have e1 : DF = Dg := by rw [← hDF, tw_e, List.append_nil]
            rw [e1]
            refine And.intro ?_ (by rw [dw_e])
            rw [show nmv Dg = some 999999999 by rw [nmv, if_neg (fun z => by rw [z] at c42; simp at c42), if_pos (by omega)]]
            rfl
        · skip
          have c42 : Dg.length = 0 := (nI_eq (a := Dg.length) (b := 0) (by omega) (by omega)).mp c42
          refine And.intro (trivial) (And.intro ?_ (And.intro (Nat.le_refl _) (Nat.le_refl _)))
          rw [show DF = [] by rw [← hDF, tw_e, List.append_nil]; exact List.eq_nil_of_length_eq_zero (by omega)]
          exact And.intro rfl (by rw [dw_e])
      · skip
        have hle := sfx_le hs
        obtain ⟨x, r, hrs⟩ : ∃ x r, rs = x :: r := by
          cases hrs : rs with
          | nil => subst hrs; exact absurd ((nI_leI (a := T.length) (b := T.length - 0) (by omega) (by omega)).mpr (by omega)) c8
          | cons x r => exact ⟨x, r, rfl⟩
        obtain ⟨g1, g2, g3, g4, g5⟩ := sfx_at hs hrs
        have g6 := hT.2 x g5
        subst hrs
        refine And.intro rfl ?_
        refine And.intro rfl ?_
        refine ⟨N, f, hrow, vp_in_nI (by omega) hN.2, ?_⟩
        rw [nI_clamp (by omega), hf _ g1, g2]
        refine rd_calls hC (c_Rd_isDigit l D tys tc hty x (by omega)) wm_Rd_isDigit wl_Rd_77 wt_Rd_isDigit ⟨by decide, by decide⟩ rfl rfl (by decide) ⟨Nat.zero_le _, Nat.zero_le _⟩ (fun r' hp => ?_)
        subst hp
        refine And.intro (fun c15 => ?_) (fun c15 => ?_)
        · skip
          have c15 := bI_eq c15
          have tw_e := tw_f (r := r) c15
          have dw_e := (dw_f (r := r) c15).symm.trans hRF
          refine vx_go hC hFt hini (vx_ends hC hr hlk) jc_Rd_takeNumber 41 (by decide) rfl ?_
          refine And.intro (fun c42 => ?_) (fun c42 => ?_)
          · skip
            have c42 : ¬ Dg.length = 0 := fun z => c42 (by rw [z]; rfl)
            refine vx_go hC hFt hini (vx_ends hC hr hlk) jc_Rd_takeNumber 45 (by decide) rfl ?_
            refine And.intro (fun c47 => ?_) (fun c47 => ?_)
            · skip
              have c47 := (nI_leI (a := Dg.length) (b := 9) (by omega) (by omega)).mp c47
              refine vx_go hC hFt hini (vx_ends hC hr hlk) jc_Rd_takeNumber 50 (by decide) rfl ?_
              refine And.intro (trivial) (And.intro ?_ (And.intro (Nat.le_refl _) (Nat.le_refl _)))
              have e1 : DF = Dg := by rw [← hDF, tw_e, List.append_nil]
              rw [e1]
              refine And.intro ?_ (by rw [dw_e])
              rw [show nmv Dg = some (f9 Dg) by rw [nmv, if_neg (fun z => by rw [z] at c42; simp at c42), if_neg (by omega)]]
              rfl
            · skip
              have c47 : ¬ (Dg.length ≤ 9) := fun z => c47 ((nI_leI (a := Dg.length) (b := 9) (by omega) (by omega)).mpr z)
              refine And.intro (Or.inl ⟨_, rfl, hC.2.2.2.2.1 _ (List.mem_cons_of_mem _ wc_Rd_80)⟩) ?_
              refine vx_go hC hFt hini (vx_ends hC hr hlk) jc_Rd_takeNumber 51 (by decide) rfl ?_
              refine And.intro (trivial) (And.intro ?_ (And.intro (Nat.le_refl _) (Nat.le_refl _)))
              have e1 : DF = Dg := by rw [← hDF, tw_e, List.append_nil]
              rw [e1]
              refine And.intro ?_ (by rw [dw_e])
              rw [show nmv Dg = some 999999999 by rw [nmv, if_neg (fun z => by rw [z] at c42; simp at c42), if_pos (by omega)]]
              rfl
          · skip
            have c42 : Dg.length = 0 := (nI_eq (a := Dg.length) (b := 0) (by omega) (by omega)).mp c42
            refine And.intro (trivial) (And.intro ?_ (And.intro (Nat.le_refl _) (Nat.le_refl _)))
            rw [show DF = [] by rw [← hDF, tw_e, List.append_nil]; exact List.eq_nil_of_length_eq_zero (by omega)]
            exact And.intro rfl (by rw [dw_e])
        · skip
          have c15 : isDg x = true := bI_ne c15
          have hdg := dg_in c15
          refine And.intro (fun c18 => ?_) (fun c18 => ?_)
          · skip
            have c18 := (nI_leI (a := 9) (b := Dg.length) (by omega) (by omega)).mp c18
            refine vx_go hC hFt hini (vx_ends hC hr hlk) jc_Rd_takeNumber 31 (by decide) rfl ?_
            refine And.intro rfl ?_
            refine And.intro rfl ?_
            refine And.intro rfl (And.intro (And.intro rfl rfl) ?_)
            refine Vx.subL (lv' := [(0, .ref h), (1, .int (nI Dg.length + 1)), (2, .int (nI (f9 Dg)))]) [2, 0, 1] rfl ?_
            refine Vx.eqs rfl ?_ rfl (rd_step g4) (ih r.length (by simp at hlen; omega) r g3 (by rw [← hRF, dw_t c15]) (Dg ++ [x]) (by simp at hDl ⊢; omega) (by rw [← hDF, tw_t c15]; simp) rfl)
            rw [show (Dg ++ [x]).length = Dg.length + 1 by simp]
            rw [f9_hi (by omega), nI_1]
          · skip
            have c18 : ¬ (9 ≤ Dg.length) := fun z => c18 ((nI_leI (a := 9) (b := Dg.length) (by omega) (by omega)).mpr z)
            refine And.intro rfl ?_
            refine And.intro rfl ?_
            refine ⟨N, f, hrow, vp_in_nI (by omega) hN.2, ?_⟩
            rw [nI_clamp (by omega), hf _ g1, g2]
            refine vx_go hC hFt hini (vx_ends hC hr hlk) jc_Rd_takeNumber 32 (by decide) rfl ?_
            refine And.intro rfl ?_
            refine And.intro rfl ?_
            refine And.intro rfl (And.intro (And.intro rfl rfl) ?_)
            refine Vx.subL (lv' := [(0, .ref h), (1, .int (nI Dg.length + 1)), (2, .int ((10 : Int32) * nI (f9 Dg) + nI x - 48))]) [2, 0, 1] rfl ?_
            refine Vx.eqs rfl ?_ rfl (rd_step g4) (ih r.length (by simp at hlen; omega) r g3 (by rw [← hRF, dw_t c15]) (Dg ++ [x]) (by simp at hDl ⊢; omega) (by rw [← hDF, tw_t c15]; simp) rfl)
            rw [show (Dg ++ [x]).length = Dg.length + 1 by simp]
            rw [f9_lo (by omega), nI_1, ten_add (by omega)]
