/-! THE READER AND STRINGS, by program (wip/whole/gen/p17.py) -/
/-- the characters W come next -/
def tt : List Nat → List Nat → Bool × List Nat
  | [], rs => (true, rs)
  | c :: W, rs => match pk c rs with
    | (true, r) => tt W r
    | (false, r) => (false, r)
/-- they come next, letters alike -/
def ta : List Nat → List Nat → Bool × List Nat
  | [], rs => (true, rs)
  | _ :: _, [] => (false, [])
  | c :: W, x :: r => if lwr x = lwr c then ta W r else (false, x :: r)
theorem drop_get {W : List Nat} {i : Nat} (h : i < W.length) : W.drop i = W.getD i 0 :: W.drop (i + 1) := by
  rw [List.drop_eq_getElem_cons h, List.getD_eq_getElem?_getD, List.getElem?_eq_getElem h]; rfl
theorem drop_end {W : List Nat} {i : Nat} (h : W.length ≤ i) : W.drop i = [] := List.drop_eq_nil_iff.mpr h
theorem lwr_lt {x : Nat} (h : x < 256) : lwr x < 512 := by unfold lwr; split <;> omega
def sameL (S W : List Nat) : Bool := decide (S = W)
def alikeL (S W : List Nat) : Bool := decide (S.map lwr = W.map lwr)
theorem ext_get {S W : List Nat} (h : S.length = W.length) (h2 : ∀ i, i < S.length → S.getD i 0 = W.getD i 0) : S = W := by
  apply List.ext_getElem h
  intro i h3 h4
  have := h2 i h3
  rwa [List.getD_eq_getElem?_getD, List.getElem?_eq_getElem h3, List.getD_eq_getElem?_getD, List.getElem?_eq_getElem h4] at this
theorem get_map {S : List Nat} {i : Nat} (h : i < S.length) : (S.map lwr).getD i 0 = lwr (S.getD i 0) := by
  rw [List.getD_eq_getElem?_getD, List.getElem?_map, List.getElem?_eq_getElem h, List.getD_eq_getElem?_getD, List.getElem?_eq_getElem h]; rfl
set_option maxRecDepth 100000 in
set_option maxHeartbeats 4000000 in
theorem c_Rd_takeText (l : Launch) (D : va_G) (tys : List (ClassId × FieldType)) (tc : Nat → ClassId) (hty : ∀ i : Nat, i < 4 → tys[i]? = some (tc i, vx_ty i)) (ci : Nat) (hci : ci < 5) (h ra sa : Nat) (ex : List Value) (T rs : List Nat) (sd : Nat → Int32) (ss : Nat) (hT : isT T) (hs : rs <:+ T) (a : Nat) (W : List Nat) (hWW : isW W) : Kt l y_Rd_takeText (yw y_Rd_takeText b_Rd_takeText 3 (some .boolean)) 4 85 0 0 D cls tys (fun A U H => rdF ra T A U H ∧ tF a W A U H) [.ref h, .ref a] (rdW tc ci h ra sa ex T rs sd ss) (fun r w => r = some (.int (bI (tt W rs).1)) ∧ w = rdW tc ci h ra sa ex T (tt W rs).2 sd ss) := by
  refine Kt.of (ro_and (rdF_ro ra T) (tF_ro a W)) (by decide) rfl hty (Nat.le_of_ble_eq_true rfl) ?_
  intro p e s m args below meth c0 A hC hr hlk hnm hF
  have hFt : vx_Ft y_Rd_takeText.cls (yw y_Rd_takeText b_Rd_takeText 3 (some .boolean)) cls cty ft_Rd := ft_of (fun w h => List.mem_cons_of_mem _ h) fl_Rd_in ft_Rd_b
  have hini : false = true → meth.name = "<init>" := fun h => by cases h
  have hF0 := hF.1
  have hFt0 := hF.2
  have hO := hF.2.2.1
  obtain ⟨N, f, hrow, hN, hf⟩ := hF.1
  have hTl := hT.1
  have hWl := hWW.1
  rcases (show ci = 0 ∨ ci = 1 ∨ ci = 2 ∨ ci = 3 ∨ ci = 4 by omega) with rfl | rfl | rfl | rfl | rfl
  all_goals
    refine vx_gon hC hFt hini (vx_ends hC hr hlk) jc_Rd_takeText 0 2 (by decide) rfl ?_
    generalize hres : tt W rs = RES
    refine Vx.subL (lv' := [(0, .ref h), (1, .ref a), (2, .int (nI 0))]) [1, 2, 0] rfl ?_
    obtain ⟨i, hi⟩ : ∃ i : Nat, i = 0 := ⟨_, rfl⟩
    refine Vx.eqs rfl (lv2 := [(0, .ref h), (1, .ref a), (2, .int (nI i))]) (by rw [hi]) rfl rfl ?_
    replace hres : tt (W.drop i) rs = RES := by rw [hi, List.drop_zero]; exact hres
    have hil : i ≤ W.length := by omega
    clear hi
    induction hlen : W.length - i using Nat.strongRecOn generalizing rs i with
    | _ n ih =>
      refine vx_go hC hFt hini (vx_ends hC hr hlk) jc_Rd_takeText 2 (by decide) rfl ?_
      refine callv0 hC (c_St_length54 l D tys tc hty a W hWW) hFt0 hO wm_St_length54 wl_Rd_45 wi_St_length54 ws_St_St_length54 ⟨by decide, by decide⟩ rfl rfl (Nat.le_of_ble_eq_true rfl) ⟨Nat.zero_le _, Nat.zero_le _⟩ (fun r' hp => ?_)
      subst hp
      refine And.intro (fun c5 => ?_) (fun c5 => ?_)
      · skip
        have c5 := (nI_leI (a := W.length) (b := i) (by omega) (by omega)).mp c5
        refine vx_go hC hFt hini (vx_ends hC hr hlk) jc_Rd_takeText 16 (by decide) rfl ?_
        refine And.intro (rfl) (And.intro ?_ (And.intro (Nat.le_refl _) (Nat.le_refl _)))
        rw [← hres, drop_end c5]
        exact And.intro rfl rfl
      · skip
        have c5 : ¬ (W.length ≤ i) := fun z => c5 ((nI_leI (a := W.length) (b := i) (by omega) (by omega)).mpr z)
        refine callv0 hC (c_St_charAt56 l D tys tc hty a W hWW i (by omega)) hFt0 hO wm_St_charAt56 wl_Rd_51 wi_St_charAt56 ws_St_St_charAt56 ⟨by decide, by decide⟩ rfl rfl (Nat.le_of_ble_eq_true rfl) ⟨Nat.zero_le _, Nat.zero_le _⟩ (fun r' hp => ?_)
        subst hp
        refine rd_call hC hF0 (c_Rd_take l D tys tc hty _ hci h ra sa ex T rs sd ss (W.getD i 0) hT hs (gd_lt hWW i)) wm_Rd_take wl_Rd_41 wi_Rd_take (hC.2.2.2.2.1 _ (List.mem_cons_of_mem _ (sel_take _ hci))) hci ⟨by decide, by decide⟩ rfl rfl (Nat.le_of_ble_eq_true rfl) ⟨Nat.zero_le _, Nat.zero_le _⟩ (fun r w1 hp => ?_)
        obtain ⟨rfl, rfl⟩ := hp
        have hs2 := pk_sfx (c := W.getD i 0) hs
        generalize hpk : pk (W.getD i 0) rs = q at hs2 ⊢
        obtain ⟨b1, t1⟩ := q
        dsimp only at hs2 ⊢
        refine And.intro (fun c11 => ?_) (fun c11 => ?_)
        · skip
          obtain rfl : b1 = true := bI_ne c11
          refine vx_go hC hFt hini (vx_ends hC hr hlk) jc_Rd_takeText 14 (by decide) rfl ?_
          refine Vx.subL (lv' := [(0, .ref h), (1, .ref a), (2, .int (nI i + 1))]) [1, 2, 0] rfl ?_
          refine Vx.eqs rfl (by rw [nI_1]) rfl rfl (ih (W.length - (i + 1)) (by omega) t1 hs2 (i + 1) ?_ (by omega) rfl)
          rw [← hres, drop_get (W := W) (i := i) (by omega)]
          simp only [tt, hpk]
        · skip
          obtain rfl : b1 = false := bI_eq c11
          refine And.intro (rfl) (And.intro ?_ (And.intro (Nat.le_refl _) (Nat.le_refl _)))
          rw [← hres, drop_get (by omega)]
          simp only [tt, hpk]
          first | exact And.intro rfl rfl | exact And.intro rfl trivial
set_option maxRecDepth 100000 in
set_option maxHeartbeats 4000000 in
theorem c_Rd_takeAlike (l : Launch) (D : va_G) (tys : List (ClassId × FieldType)) (tc : Nat → ClassId) (hty : ∀ i : Nat, i < 4 → tys[i]? = some (tc i, vx_ty i)) (ci : Nat) (hci : ci < 5) (h ra sa : Nat) (ex : List Value) (T rs : List Nat) (sd : Nat → Int32) (ss : Nat) (hT : isT T) (hs : rs <:+ T) (a : Nat) (W : List Nat) (hWW : isW W) : Kt l y_Rd_takeAlike (yw y_Rd_takeAlike b_Rd_takeAlike 3 (some .boolean)) 4 85 0 0 D cls tys (fun A U H => rdF ra T A U H ∧ tF a W A U H) [.ref h, .ref a] (rdW tc ci h ra sa ex T rs sd ss) (fun r w => r = some (.int (bI (ta W rs).1)) ∧ w = rdW tc ci h ra sa ex T (ta W rs).2 sd ss) := by
  refine Kt.of (ro_and (rdF_ro ra T) (tF_ro a W)) (by decide) rfl hty (Nat.le_of_ble_eq_true rfl) ?_
  intro p e s m args below meth c0 A hC hr hlk hnm hF
  have hFt : vx_Ft y_Rd_takeAlike.cls (yw y_Rd_takeAlike b_Rd_takeAlike 3 (some .boolean)) cls cty ft_Rd := ft_of (fun w h => List.mem_cons_of_mem _ h) fl_Rd_in ft_Rd_b
  have hini : false = true → meth.name = "<init>" := fun h => by cases h
  have hF0 := hF.1
  have hFt0 := hF.2
  have hO := hF.2.2.1
  obtain ⟨N, f, hrow, hN, hf⟩ := hF.1
  have hTl := hT.1
  have hWl := hWW.1
  rcases (show ci = 0 ∨ ci = 1 ∨ ci = 2 ∨ ci = 3 ∨ ci = 4 by omega) with rfl | rfl | rfl | rfl | rfl
  all_goals
    refine vx_gon hC hFt hini (vx_ends hC hr hlk) jc_Rd_takeAlike 0 2 (by decide) rfl ?_
    generalize hres : ta W rs = RES
    refine Vx.subL (lv' := [(0, .ref h), (1, .ref a), (2, .int (nI 0))]) [1, 2, 0] rfl ?_
    obtain ⟨i, hi⟩ : ∃ i : Nat, i = 0 := ⟨_, rfl⟩
    refine Vx.eqs rfl (lv2 := [(0, .ref h), (1, .ref a), (2, .int (nI i))]) (by rw [hi]) rfl rfl ?_
    replace hres : ta (W.drop i) rs = RES := by rw [hi, List.drop_zero]; exact hres
    have hil : i ≤ W.length := by omega
    clear hi
    induction hlen : W.length - i using Nat.strongRecOn generalizing rs i with
    | _ n ih =>
      refine vx_go hC hFt hini (vx_ends hC hr hlk) jc_Rd_takeAlike 2 (by decide) rfl ?_
      refine callv0 hC (c_St_length54 l D tys tc hty a W hWW) hFt0 hO wm_St_length54 wl_Rd_45 wi_St_length54 ws_St_St_length54 ⟨by decide, by decide⟩ rfl rfl (Nat.le_of_ble_eq_true rfl) ⟨Nat.zero_le _, Nat.zero_le _⟩ (fun r' hp => ?_)
      subst hp
      refine And.intro (fun c5 => ?_) (fun c5 => ?_)
      · skip
        have c5 := (nI_leI (a := W.length) (b := i) (by omega) (by omega)).mp c5
        refine vx_go hC hFt hini (vx_ends hC hr hlk) jc_Rd_takeAlike 32 (by decide) rfl ?_
        refine And.intro (rfl) (And.intro ?_ (And.intro (Nat.le_refl _) (Nat.le_refl _)))
        rw [← hres, drop_end c5]
        exact And.intro rfl rfl
      · skip
        have c5 : ¬ (W.length ≤ i) := fun z => c5 ((nI_leI (a := W.length) (b := i) (by omega) (by omega)).mpr z)
        refine And.intro rfl ?_
        refine And.intro rfl ?_
        refine And.intro (fun c10 => ?_) (fun c10 => ?_)
        · skip
          have hle := sfx_le hs
          have hnil : rs = [] := by
            have h2 := (nI_leI (a := T.length) (b := T.length - rs.length) (by omega) (by omega)).mp c10
            exact List.eq_nil_of_length_eq_zero (by omega)
          subst hnil
          refine vx_go hC hFt hini (vx_ends hC hr hlk) jc_Rd_takeAlike 22 (by decide) rfl ?_
          refine And.intro (rfl) (And.intro ?_ (And.intro (Nat.le_refl _) (Nat.le_refl _)))
          rw [← hres, drop_get (by omega)]
          exact And.intro rfl rfl
        · skip
          have hle := sfx_le hs
          obtain ⟨x, r, hrs⟩ : ∃ x r, rs = x :: r := by
            cases hrs : rs with
            | nil => subst hrs; exact absurd ((nI_leI (a := T.length) (b := T.length - 0) (by omega) (by omega)).mpr (by omega)) c10
            | cons x r => exact ⟨x, r, rfl⟩
          obtain ⟨g1, g2, g3, g4, g5⟩ := sfx_at hs hrs
          have g6 := hT.2 x g5
          subst hrs
          refine And.intro rfl ?_
          refine And.intro rfl ?_
          refine ⟨N, f, hrow, vp_in_nI (by omega) hN.2, ?_⟩
          rw [nI_clamp (by omega), hf _ g1, g2]
          refine rd_calls hC (c_Rd_lower l D tys tc hty x (by omega)) wm_Rd_lower wl_Rd_55 wt_Rd_lower ⟨by decide, by decide⟩ rfl rfl (Nat.le_of_ble_eq_true rfl) ⟨Nat.zero_le _, Nat.zero_le _⟩ (fun r' hp => ?_)
          subst hp
          refine callv0 hC (c_St_charAt56 l D tys tc hty a W hWW i (by omega)) hFt0 hO wm_St_charAt56 wl_Rd_51 wi_St_charAt56 ws_St_St_charAt56 ⟨by decide, by decide⟩ rfl rfl (Nat.le_of_ble_eq_true rfl) ⟨Nat.zero_le _, Nat.zero_le _⟩ (fun r' hp => ?_)
          subst hp
          refine rd_calls hC (c_Rd_lower l D tys tc hty (W.getD i 0) (gd_lt hWW i)) wm_Rd_lower wl_Rd_55 wt_Rd_lower ⟨by decide, by decide⟩ rfl rfl (Nat.le_of_ble_eq_true rfl) ⟨Nat.zero_le _, Nat.zero_le _⟩ (fun r' hp => ?_)
          subst hp
          refine And.intro (fun c21 => ?_) (fun c21 => ?_)
          · skip
            have c21 : lwr x = lwr (W.getD i 0) := (nI_eq (by have := lwr_lt (x := x) (by omega); omega) (by have := lwr_lt (gd_lt hWW i); omega)).mp c21
            refine vx_go hC hFt hini (vx_ends hC hr hlk) jc_Rd_takeAlike 24 (by decide) rfl ?_
            refine And.intro rfl ?_
            refine And.intro rfl ?_
            refine And.intro rfl (And.intro (And.intro rfl rfl) ?_)
            refine Vx.subL (lv' := [(0, .ref h), (1, .ref a), (2, .int (nI i + 1))]) [1, 2, 0] rfl ?_
            refine Vx.eqs rfl (by rw [nI_1]) rfl (rd_step g4) (ih (W.length - (i + 1)) (by omega) r g3 (i + 1) ?_ (by omega) rfl)
            rw [← hres, drop_get (W := W) (i := i) (by omega), ta, if_pos c21]
          · skip
            have c21 : ¬ (lwr x = lwr (W.getD i 0)) := fun z => c21 (by rw [z])
            refine And.intro (rfl) (And.intro ?_ (And.intro (Nat.le_refl _) (Nat.le_refl _)))
            rw [← hres, drop_get (W := W) (i := i) (by omega), ta, if_neg c21]
            exact And.intro rfl rfl
set_option maxRecDepth 100000 in
set_option maxHeartbeats 4000000 in
theorem c_Rd_isSaid (l : Launch) (D : va_G) (tys : List (ClassId × FieldType)) (tc : Nat → ClassId) (hty : ∀ i : Nat, i < 4 → tys[i]? = some (tc i, vx_ty i)) (ci : Nat) (hci : ci < 5) (h ra sa : Nat) (ex : List Value) (T rs : List Nat) (sd : Nat → Int32) (ss : Nat) (hT : isT T) (hs : rs <:+ T) (a : Nat) (W : List Nat) (hWW : isW W) (S : List Nat) (hsd : sdIs sd S) (hss : ss = S.length) (hS : S.length ≤ 96) (hS2 : ∀ i, i < S.length → S.getD i 0 < 256) : Kt l y_Rd_isSaid (yw y_Rd_isSaid b_Rd_isSaid 3 (some .boolean)) 4 85 0 0 D cls tys (tF a W) [.ref h, .ref a] (rdW tc ci h ra sa ex T rs sd ss) (fun r w => r = some (.int (bI (sameL S W))) ∧ w = (rdW tc ci h ra sa ex T rs sd ss)) := by
  refine Kt.of (tF_ro a W) (by decide) rfl hty (Nat.le_of_ble_eq_true rfl) ?_
  intro p e s m args below meth c0 A hC hr hlk hnm hF
  have hFt : vx_Ft y_Rd_isSaid.cls (yw y_Rd_isSaid b_Rd_isSaid 3 (some .boolean)) cls cty ft_Rd := ft_of (fun w h => List.mem_cons_of_mem _ h) fl_Rd_in ft_Rd_b
  have hini : false = true → meth.name = "<init>" := fun h => by cases h
  have hFt0 := hF
  have hO := hF.2.1
  have hTl := hT.1
  have hWl := hWW.1
  rcases (show ci = 0 ∨ ci = 1 ∨ ci = 2 ∨ ci = 3 ∨ ci = 4 by omega) with rfl | rfl | rfl | rfl | rfl
  all_goals
    refine vx_gon hC hFt hini (vx_ends hC hr hlk) jc_Rd_isSaid 0 9 (by decide) rfl ?_
    refine And.intro rfl ?_
    refine callv0 hC (c_St_length54 l D tys tc hty a W hWW) hFt0 hO wm_St_length54 wl_Rd_45 wi_St_length54 ws_St_St_length54 ⟨by decide, by decide⟩ rfl rfl (Nat.le_of_ble_eq_true rfl) ⟨Nat.zero_le _, Nat.zero_le _⟩ (fun r' hp => ?_)
    subst hp
    refine And.intro (fun c4 => ?_) (fun c4 => ?_)
    · skip
      subst hss
      have c4 : S.length = W.length := (nI_eq (by omega) (by omega)).mp c4
      refine vx_gon hC hFt hini (vx_ends hC hr hlk) jc_Rd_isSaid 7 2 (by decide) rfl ?_
      refine Vx.subL (lv' := [(0, .ref h), (1, .ref a), (2, .int (nI 0))]) [1, 2, 0] rfl ?_
      obtain ⟨i, hi⟩ : ∃ i : Nat, i = 0 := ⟨_, rfl⟩
      refine Vx.eqs rfl (lv2 := [(0, .ref h), (1, .ref a), (2, .int (nI i))]) (by rw [hi]) rfl rfl ?_
      have hall : ∀ j, j < i → S.getD j 0 = W.getD j 0 := fun j hj => by omega
      have hile : i ≤ S.length := by omega
      clear hi
      induction hlen : S.length - i using Nat.strongRecOn generalizing i with
      | _ n ih =>
        refine vx_go hC hFt hini (vx_ends hC hr hlk) jc_Rd_isSaid 9 (by decide) rfl ?_
        refine And.intro rfl ?_
        refine And.intro (fun c12 => ?_) (fun c12 => ?_)
        · skip
          have c12 := (nI_leI (a := S.length) (b := i) (by omega) (by omega)).mp c12
          refine vx_go hC hFt hini (vx_ends hC hr hlk) jc_Rd_isSaid 25 (by decide) rfl ?_
          refine And.intro (rfl) (And.intro ?_ (And.intro (Nat.le_refl _) (Nat.le_refl _)))
          rw [show sameL S W = true by unfold sameL; rw [decide_eq_true_eq]; exact ext_get c4 (fun j hj => hall j (by omega))]
          exact And.intro rfl rfl
        · skip
          have c12 : ¬ (S.length ≤ i) := fun z => c12 ((nI_leI (a := S.length) (b := i) (by omega) (by omega)).mpr z)
          refine And.intro rfl ?_
          refine And.intro rfl (And.intro rfl (And.intro (vp_in_nI (by omega) (by decide)) ?_))
          rw [nI_clamp (by omega), hsd i (by omega)]
          refine callv0 hC (c_St_charAt56 l D tys tc hty a W hWW i (by omega)) hFt0 hO wm_St_charAt56 wl_Rd_51 wi_St_charAt56 ws_St_St_charAt56 ⟨by decide, by decide⟩ rfl rfl (Nat.le_of_ble_eq_true rfl) ⟨Nat.zero_le _, Nat.zero_le _⟩ (fun r' hp => ?_)
          subst hp
          refine And.intro (fun c20 => ?_) (fun c20 => ?_)
          · skip
            have c20 : S.getD i 0 = W.getD i 0 := (nI_eq (by have := hS2 i (by omega); omega) (by have := gd_lt hWW i; omega)).mp c20
            refine vx_go hC hFt hini (vx_ends hC hr hlk) jc_Rd_isSaid 23 (by decide) rfl ?_
            refine Vx.subL (lv' := [(0, .ref h), (1, .ref a), (2, .int (nI i + 1))]) [1, 2, 0] rfl ?_
            refine Vx.eqs rfl (by rw [nI_1]) rfl rfl (ih (S.length - (i + 1)) (by omega) (i + 1) (fun j hj => ?_) (by omega) rfl)
            by_cases e : j = i
            · rw [e]; exact c20
            · exact hall j (by omega)
          · skip
            have c20 : ¬ (S.getD i 0 = W.getD i 0) := fun z => c20 (by rw [z])
            refine And.intro (rfl) (And.intro ?_ (And.intro (Nat.le_refl _) (Nat.le_refl _)))
            rw [show sameL S W = false by unfold sameL; rw [decide_eq_false_iff_not]; exact fun z => c20 (by rw [z])]
            exact And.intro rfl rfl
    · skip
      subst hss
      have c4 : ¬ S.length = W.length := fun z => c4 (by rw [z])
      refine And.intro (rfl) (And.intro ?_ (And.intro (Nat.le_refl _) (Nat.le_refl _)))
      rw [show sameL S W = false by unfold sameL; rw [decide_eq_false_iff_not]; exact fun z => c4 (by rw [z])]
      exact And.intro rfl rfl
set_option maxRecDepth 100000 in
set_option maxHeartbeats 4000000 in
theorem c_Rd_isSaidAlike (l : Launch) (D : va_G) (tys : List (ClassId × FieldType)) (tc : Nat → ClassId) (hty : ∀ i : Nat, i < 4 → tys[i]? = some (tc i, vx_ty i)) (ci : Nat) (hci : ci < 5) (h ra sa : Nat) (ex : List Value) (T rs : List Nat) (sd : Nat → Int32) (ss : Nat) (hT : isT T) (hs : rs <:+ T) (a : Nat) (W : List Nat) (hWW : isW W) (S : List Nat) (hsd : sdIs sd S) (hss : ss = S.length) (hS : S.length ≤ 96) (hS2 : ∀ i, i < S.length → S.getD i 0 < 256) : Kt l y_Rd_isSaidAlike (yw y_Rd_isSaidAlike b_Rd_isSaidAlike 3 (some .boolean)) 4 85 0 0 D cls tys (tF a W) [.ref h, .ref a] (rdW tc ci h ra sa ex T rs sd ss) (fun r w => r = some (.int (bI (alikeL S W))) ∧ w = (rdW tc ci h ra sa ex T rs sd ss)) := by
  refine Kt.of (tF_ro a W) (by decide) rfl hty (Nat.le_of_ble_eq_true rfl) ?_
  intro p e s m args below meth c0 A hC hr hlk hnm hF
  have hFt : vx_Ft y_Rd_isSaidAlike.cls (yw y_Rd_isSaidAlike b_Rd_isSaidAlike 3 (some .boolean)) cls cty ft_Rd := ft_of (fun w h => List.mem_cons_of_mem _ h) fl_Rd_in ft_Rd_b
  have hini : false = true → meth.name = "<init>" := fun h => by cases h
  have hFt0 := hF
  have hO := hF.2.1
  have hTl := hT.1
  have hWl := hWW.1
  rcases (show ci = 0 ∨ ci = 1 ∨ ci = 2 ∨ ci = 3 ∨ ci = 4 by omega) with rfl | rfl | rfl | rfl | rfl
  all_goals
    refine vx_gon hC hFt hini (vx_ends hC hr hlk) jc_Rd_isSaidAlike 0 9 (by decide) rfl ?_
    refine And.intro rfl ?_
    refine callv0 hC (c_St_length54 l D tys tc hty a W hWW) hFt0 hO wm_St_length54 wl_Rd_45 wi_St_length54 ws_St_St_length54 ⟨by decide, by decide⟩ rfl rfl (Nat.le_of_ble_eq_true rfl) ⟨Nat.zero_le _, Nat.zero_le _⟩ (fun r' hp => ?_)
    subst hp
    refine And.intro (fun c4 => ?_) (fun c4 => ?_)
    · skip
      subst hss
      have c4 : S.length = W.length := (nI_eq (by omega) (by omega)).mp c4
      refine vx_gon hC hFt hini (vx_ends hC hr hlk) jc_Rd_isSaidAlike 7 2 (by decide) rfl ?_
      refine Vx.subL (lv' := [(0, .ref h), (1, .ref a), (2, .int (nI 0))]) [1, 2, 0] rfl ?_
      obtain ⟨i, hi⟩ : ∃ i : Nat, i = 0 := ⟨_, rfl⟩
      refine Vx.eqs rfl (lv2 := [(0, .ref h), (1, .ref a), (2, .int (nI i))]) (by rw [hi]) rfl rfl ?_
      have hall : ∀ j, j < i → lwr (S.getD j 0) = lwr (W.getD j 0) := fun j hj => by omega
      have hile : i ≤ S.length := by omega
      clear hi
      induction hlen : S.length - i using Nat.strongRecOn generalizing i with
      | _ n ih =>
        refine vx_go hC hFt hini (vx_ends hC hr hlk) jc_Rd_isSaidAlike 9 (by decide) rfl ?_
        refine And.intro rfl ?_
        refine And.intro (fun c12 => ?_) (fun c12 => ?_)
        · skip
          have c12 := (nI_leI (a := S.length) (b := i) (by omega) (by omega)).mp c12
          refine vx_go hC hFt hini (vx_ends hC hr hlk) jc_Rd_isSaidAlike 27 (by decide) rfl ?_
          refine And.intro (rfl) (And.intro ?_ (And.intro (Nat.le_refl _) (Nat.le_refl _)))
          rw [show alikeL S W = true by unfold alikeL; rw [decide_eq_true_eq]; exact ext_get (by simpa using c4) (fun j hj => by simp only [List.length_map] at hj; rw [get_map (by omega), get_map (by omega)]; exact hall j (by omega))]
          exact And.intro rfl rfl
        · skip
          have c12 : ¬ (S.length ≤ i) := fun z => c12 ((nI_leI (a := S.length) (b := i) (by omega) (by omega)).mpr z)
          refine And.intro rfl ?_
          refine And.intro rfl (And.intro rfl (And.intro (vp_in_nI (by omega) (by decide)) ?_))
          rw [nI_clamp (by omega), hsd i (by omega)]
          refine rd_calls hC (c_Rd_lower l D tys tc hty (S.getD i 0) (hS2 i (by omega))) wm_Rd_lower wl_Rd_55 wt_Rd_lower ⟨by decide, by decide⟩ rfl rfl (Nat.le_of_ble_eq_true rfl) ⟨Nat.zero_le _, Nat.zero_le _⟩ (fun r' hp => ?_)
          subst hp
          refine callv0 hC (c_St_charAt56 l D tys tc hty a W hWW i (by omega)) hFt0 hO wm_St_charAt56 wl_Rd_51 wi_St_charAt56 ws_St_St_charAt56 ⟨by decide, by decide⟩ rfl rfl (Nat.le_of_ble_eq_true rfl) ⟨Nat.zero_le _, Nat.zero_le _⟩ (fun r' hp => ?_)
          subst hp
          refine rd_calls hC (c_Rd_lower l D tys tc hty (W.getD i 0) (gd_lt hWW i)) wm_Rd_lower wl_Rd_55 wt_Rd_lower ⟨by decide, by decide⟩ rfl rfl (Nat.le_of_ble_eq_true rfl) ⟨Nat.zero_le _, Nat.zero_le _⟩ (fun r' hp => ?_)
          subst hp
          refine And.intro (fun c22 => ?_) (fun c22 => ?_)
          · skip
            have c22 : lwr (S.getD i 0) = lwr (W.getD i 0) := (nI_eq (by have := lwr_lt (hS2 i (by omega)); omega) (by have := lwr_lt (gd_lt hWW i); omega)).mp c22
            refine vx_go hC hFt hini (vx_ends hC hr hlk) jc_Rd_isSaidAlike 25 (by decide) rfl ?_
            refine Vx.subL (lv' := [(0, .ref h), (1, .ref a), (2, .int (nI i + 1))]) [1, 2, 0] rfl ?_
            refine Vx.eqs rfl (by rw [nI_1]) rfl rfl (ih (S.length - (i + 1)) (by omega) (i + 1) (fun j hj => ?_) (by omega) rfl)
            by_cases e : j = i
            · rw [e]; exact c22
            · exact hall j (by omega)
          · skip
            have c22 : ¬ (lwr (S.getD i 0) = lwr (W.getD i 0)) := fun z => c22 (by rw [z])
            refine And.intro (rfl) (And.intro ?_ (And.intro (Nat.le_refl _) (Nat.le_refl _)))
            rw [show alikeL S W = false by unfold alikeL; rw [decide_eq_false_iff_not]; exact fun z => c22 (by rw [← get_map (by omega), z, get_map (by omega)])]
            exact And.intro rfl rfl
    · skip
      subst hss
      have c4 : ¬ S.length = W.length := fun z => c4 (by rw [z])
      refine And.intro (rfl) (And.intro ?_ (And.intro (Nat.le_refl _) (Nat.le_refl _)))
      rw [show alikeL S W = false by unfold alikeL; rw [decide_eq_false_iff_not]; exact fun z => c4 (by have := congrArg List.length z; simpa using this)]
      exact And.intro rfl rfl
