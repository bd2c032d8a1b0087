/-! THE READER: what is said, by program (wip/whole/gen/p12.py) -/
def sdIs (sd : Nat → Int32) (S : List Nat) : Prop := ∀ i, i < S.length → sd i = nI (S.getD i 0)
theorem sd_nil (sd : Nat → Int32) : sdIs sd [] := fun i h => by simp at h
theorem sd_add {sd : Nat → Int32} {S : List Nat} {x : Nat} (h : sdIs sd S) : sdIs (upd sd S.length (nI x)) (S ++ [x]) := by
  intro i hi
  by_cases e : i = S.length
  · subst e
    rw [pk_us]; simp
  · rw [pk_un e]
    have : i < S.length := by simp at hi; omega
    rw [h i this]
    simp [List.getD_eq_getElem?_getD, List.getElem?_append_left this]
set_option maxRecDepth 100000 in
set_option maxHeartbeats 4000000 in
theorem c_Rd_say (l : Launch) (D : va_G) (tys : List (ClassId × FieldType)) (tc : Nat → ClassId) (hty : ∀ i : Nat, i < 4 → tys[i]? = some (tc i, vx_ty i)) (ci : Nat) (hci : ci < 5) (h ra sa : Nat) (ex : List Value) (T rs : List Nat) (sd : Nat → Int32) (ss : Nat) (hT : isT T) (hs : rs <:+ T) (S : List Nat) (hsd : sdIs sd S) (hss : ss = S.length) (hS : S.length < 96) (x : Nat) (hx : x < 256) : Kt l y_Rd_say (yw y_Rd_say b_Rd_say 2 none) 0 0 0 0 D cls tys (rdF ra T) [.ref h, .int (nI x)] (rdW tc ci h ra sa ex T rs sd ss) (fun r w => r = none ∧ ∃ sd2, sdIs sd2 (S ++ [x]) ∧ w = rdW tc ci h ra sa ex T rs sd2 (S.length + 1)) := by
  refine Kt.of (rdF_ro _ _) (by decide) rfl hty (Nat.le_of_ble_eq_true rfl) ?_
  intro p e s m args below meth c0 A hC hr hlk hnm hF
  have hFt : vx_Ft y_Rd_say.cls (yw y_Rd_say b_Rd_say 2 none) cls cty ft_Rd := ft_of (fun w h => List.mem_cons_of_mem _ h) fl_Rd_in ft_Rd_b
  have hini : false = true → meth.name = "<init>" := fun h => by cases h
  have hF0 := hF
  obtain ⟨N, f, hrow, hN, hf⟩ := hF
  have hTl := hT.1
  rcases (show ci = 0 ∨ ci = 1 ∨ ci = 2 ∨ ci = 3 ∨ ci = 4 by omega) with rfl | rfl | rfl | rfl | rfl
  all_goals
    refine vx_go hC hFt hini (vx_ends hC hr hlk) jc_Rd_say 0 (by decide) rfl ?_
    refine And.intro rfl ?_
    refine And.intro (fun c3 => ?_) (fun c3 => ?_)
    · skip
      exact absurd c3 (nI_ge (a := ss) (b := 96) (by omega) (by omega))
    · skip
      refine And.intro rfl ?_
      refine And.intro rfl ?_
      refine And.intro rfl (And.intro rfl (And.intro (vp_in_nI (by omega) (by decide)) ?_))
      refine And.intro rfl ?_
      refine And.intro rfl ?_
      refine And.intro rfl (And.intro (And.intro rfl rfl) ?_)
      refine And.intro (trivial) (And.intro ?_ (And.intro (Nat.le_refl _) (Nat.le_refl _)))
      refine And.intro rfl ⟨_, sd_add hsd, ?_⟩
      subst hss
      rw [nI_clamp (by omega)]
      simp [rdW, nI_1]
/-- a star among the said -/
def ss_star (S : List Nat) : Bool := S.any (fun x => decide (x = 42))
theorem star_t {S : List Nat} {i : Nat} (h : i < S.length) (e : S.getD i 0 = 42) : ss_star S = true := by
  unfold ss_star
  rw [List.any_eq_true]
  refine ⟨S.getD i 0, ?_, by simpa using e⟩
  rw [List.getD_eq_getElem?_getD, List.getElem?_eq_getElem h]
  exact List.getElem_mem h
theorem star_f {S : List Nat} (h : ∀ i, i < S.length → ¬ S.getD i 0 = 42) : ss_star S = false := by
  unfold ss_star
  rw [List.any_eq_false]
  intro x hx
  obtain ⟨i, hi, rfl⟩ := List.getElem_of_mem hx
  have := h i hi
  rw [List.getD_eq_getElem?_getD, List.getElem?_eq_getElem hi] at this
  simpa using this
/-- what stands between a tag's marks -/
def isOp (x : Nat) : Bool := decide (32 < x ∧ x ≠ 34 ∧ x ≠ 127)
def opq (rs : List Nat) : Bool × List Nat × List Nat := match pk 34 rs with
  | (false, r) => (false, r, [])
  | (true, r) => ((pk 34 (r.dropWhile isOp)).1, (pk 34 (r.dropWhile isOp)).2, r.takeWhile isOp)
theorem tw_t {q : Nat → Bool} {x : Nat} {r : List Nat} (h : q x = true) : (x :: r).takeWhile q = x :: r.takeWhile q := by simp [List.takeWhile, h]
theorem tw_f {q : Nat → Bool} {x : Nat} {r : List Nat} (h : q x = false) : (x :: r).takeWhile q = [] := by simp [List.takeWhile, h]
theorem rd_stepS {tc : Nat → ClassId} {ci h ra sa : Nat} {ex : List Value} {T r S : List Nat} {x y : Nat} {sd : Nat → Int32} (g4 : T.length - (x :: r).length + 1 = T.length - r.length) : [((h, .inr (ci, .ref ra :: .int (nI T.length) :: .int (nI (T.length - (x :: r).length) + 1) :: .ref sa :: .int (nI (S.length + 1)) :: ex)) : Nat × va_E), (sa, .inl (tc 0, 96, .inl sd))] = rdW tc ci h ra sa ex T r sd (S ++ [y]).length := by
  rw [nI_1, g4, List.length_append]; rfl
set_option maxRecDepth 100000 in
set_option maxHeartbeats 4000000 in
theorem c_Rd_takeOpaque (l : Launch) (D : va_G) (tys : List (ClassId × FieldType)) (tc : Nat → ClassId) (hty : ∀ i : Nat, i < 4 → tys[i]? = some (tc i, vx_ty i)) (ci : Nat) (hci : ci < 5) (h ra sa : Nat) (ex : List Value) (T rs : List Nat) (sd : Nat → Int32) (ss : Nat) (hT : isT T) (hs : rs <:+ T) : Kt l y_Rd_takeOpaque (yw y_Rd_takeOpaque b_Rd_takeOpaque 1 (some .boolean)) 1 21 0 0 D cls tys (rdF ra T) [.ref h] (rdW tc ci h ra sa ex T rs sd ss) (fun r w => r = some (.int (bI (opq rs).1)) ∧ ∃ sd2, sdIs sd2 (opq rs).2.2 ∧ w = rdW tc ci h ra sa ex T (opq rs).2.1 sd2 (opq rs).2.2.length) := by
  refine Kt.of (rdF_ro _ _) (by decide) rfl hty (Nat.le_of_ble_eq_true rfl) ?_
  intro p e s m args below meth c0 A hC hr hlk hnm hF
  have hFt : vx_Ft y_Rd_takeOpaque.cls (yw y_Rd_takeOpaque b_Rd_takeOpaque 1 (some .boolean)) cls cty ft_Rd := ft_of (fun w h => List.mem_cons_of_mem _ h) fl_Rd_in ft_Rd_b
  have hini : false = true → meth.name = "<init>" := fun h => by cases h
  have hF0 := hF
  obtain ⟨N, f, hrow, hN, hf⟩ := hF
  have hTl := hT.1
  rcases (show ci = 0 ∨ ci = 1 ∨ ci = 2 ∨ ci = 3 ∨ ci = 4 by omega) with rfl | rfl | rfl | rfl | rfl
  all_goals
    refine vx_gon hC hFt hini (vx_ends hC hr hlk) jc_Rd_takeOpaque 0 9 (by decide) rfl ?_
    refine And.intro rfl (And.intro (And.intro rfl rfl) ?_)
    refine rd_call hC hF0 (c_Rd_take l D tys tc hty _ hci h ra sa ex T rs sd 0 34 hT hs (by decide)) wm_Rd_take wl_Rd_41 wi_Rd_take (hC.2.2.2.2.1 _ (List.mem_cons_of_mem _ (sel_take _ hci))) hci ⟨by decide, by decide⟩ rfl rfl (by decide) ⟨Nat.zero_le _, Nat.zero_le _⟩ (fun r w1 hp => ?_)
    obtain ⟨rfl, rfl⟩ := hp
    have hs2 := pk_sfx (c := 34) hs
    generalize hpk : pk 34 rs = q at hs2 ⊢
    obtain ⟨q1, q2⟩ := q
    dsimp only at hs2
    refine And.intro (fun c6 => ?_) (fun c6 => ?_)
    · skip
      obtain rfl : q1 = true := bI_ne c6
      have hsp : opq rs = ((pk 34 (q2.dropWhile isOp)).1, (pk 34 (q2.dropWhile isOp)).2, q2.takeWhile isOp) := by simp only [opq, hpk]
      rw [hsp]
      have hq2 := sfx_le hs2
      have hsd := sd_nil sd
      obtain ⟨S, hS0⟩ : ∃ S : List Nat, S = [] := ⟨_, rfl⟩
      rw [← hS0] at hsd
      have hSl : S.length + q2.length ≤ 96 := by rw [hS0]; simp; omega
      refine Vx.eqs rfl rfl rfl (w2 := rdW tc _ h ra sa ex T q2 sd S.length) (by rw [hS0]; rfl) ?_
      generalize hRF : q2.dropWhile isOp = RF
      generalize hSF : q2.takeWhile isOp = SF
      replace hSF : S ++ q2.takeWhile isOp = SF := by rw [hS0]; exact hSF
      clear hpk hS0 hsp hq2 c6
      induction hlen : q2.length using Nat.strongRecOn generalizing q2 S sd with
      | _ n ih =>
        refine vx_go hC hFt hini (vx_ends hC hr hlk) jc_Rd_takeOpaque 9 (by decide) rfl ?_
        refine And.intro rfl ?_
        refine And.intro rfl ?_
        refine And.intro (fun c13 => ?_) (fun c13 => ?_)
        · skip
          have hle := sfx_le hs2
          have hnil : q2 = [] := by
            have h2 := (nI_leI (a := T.length) (b := T.length - q2.length) (by omega) (by omega)).mp c13
            exact List.eq_nil_of_length_eq_zero (by omega)
          subst hnil
          have tw_e : ([] : List Nat).takeWhile isOp = [] := rfl
          have dw_e : [] = RF := hRF
          refine vx_go hC hFt hini (vx_ends hC hr hlk) jc_Rd_takeOpaque 49 (by decide) rfl ?_
          rw [← dw_e] at hRF ⊢
          refine rd_call hC hF0 (c_Rd_take l D tys tc hty _ hci h ra sa ex T [] sd S.length 34 hT hs2 (by decide)) wm_Rd_take wl_Rd_41 wi_Rd_take (hC.2.2.2.2.1 _ (List.mem_cons_of_mem _ (sel_take _ hci))) hci ⟨by decide, by decide⟩ rfl rfl (by decide) ⟨Nat.zero_le _, Nat.zero_le _⟩ (fun r w1 hp => ?_)
          obtain ⟨rfl, rfl⟩ := hp
          refine And.intro ((bI_narrow _)) (And.intro ?_ (And.intro (Nat.le_refl _) (Nat.le_refl _)))
          refine And.intro rfl ⟨sd, ?_, ?_⟩
          · rw [← hSF, tw_e, List.append_nil]; exact hsd
          · rw [← hSF, tw_e, List.append_nil]
        · skip
          have hle := sfx_le hs2
          obtain ⟨x, r, hrs⟩ : ∃ x r, q2 = x :: r := by
            cases hrs : q2 with
            | nil => subst hrs; exact absurd ((nI_leI (a := T.length) (b := T.length - 0) (by omega) (by omega)).mpr (by omega)) c13
            | cons x r => exact ⟨x, r, rfl⟩
          obtain ⟨g1, g2, g3, g4, g5⟩ := sfx_at hs2 hrs
          have g6 := hT.2 x g5
          subst hrs
          refine And.intro rfl ?_
          refine And.intro rfl ?_
          refine ⟨N, f, hrow, vp_in_nI (by omega) hN.2, ?_⟩
          rw [nI_clamp (by omega), hf _ g1, g2]
          refine And.intro (fun c20 => ?_) (fun c20 => ?_)
          · skip
            have c20 := (nI_leI (a := x) (b := 32) (by omega) (by omega)).mp c20
            have tw_e := tw_f (r := r) (show isOp x = false by simp only [isOp, decide_eq_false_iff_not]; omega)
            have dw_e := (dw_f (r := r) (show isOp x = false by simp only [isOp, decide_eq_false_iff_not]; omega)).symm.trans hRF
            refine vx_go hC hFt hini (vx_ends hC hr hlk) jc_Rd_takeOpaque 49 (by decide) rfl ?_
            rw [← dw_e] at hRF ⊢
            refine rd_call hC hF0 (c_Rd_take l D tys tc hty _ hci h ra sa ex T (x :: r) sd S.length 34 hT hs2 (by decide)) wm_Rd_take wl_Rd_41 wi_Rd_take (hC.2.2.2.2.1 _ (List.mem_cons_of_mem _ (sel_take _ hci))) hci ⟨by decide, by decide⟩ rfl rfl (by decide) ⟨Nat.zero_le _, Nat.zero_le _⟩ (fun r w1 hp => ?_)
            obtain ⟨rfl, rfl⟩ := hp
            refine And.intro ((bI_narrow _)) (And.intro ?_ (And.intro (Nat.le_refl _) (Nat.le_refl _)))
            refine And.intro rfl ⟨sd, ?_, ?_⟩
            · rw [← hSF, tw_e, List.append_nil]; exact hsd
            · rw [← hSF, tw_e, List.append_nil]
          · skip
            have c20 : ¬ (x ≤ 32) := fun z => c20 ((nI_leI (a := x) (b := 32) (by omega) (by omega)).mpr z)
            refine And.intro rfl ?_
            refine And.intro rfl ?_
            refine ⟨N, f, hrow, vp_in_nI (by omega) hN.2, ?_⟩
            rw [nI_clamp (by omega), hf _ g1, g2]
            refine And.intro (fun c27 => ?_) (fun c27 => ?_)
            · skip
              have c27 := (nI_eq (a := x) (b := 34) (by omega) (by omega)).mp c27
              have tw_e := tw_f (r := r) (show isOp x = false by simp only [isOp, decide_eq_false_iff_not]; omega)
              have dw_e := (dw_f (r := r) (show isOp x = false by simp only [isOp, decide_eq_false_iff_not]; omega)).symm.trans hRF
              refine vx_go hC hFt hini (vx_ends hC hr hlk) jc_Rd_takeOpaque 49 (by decide) rfl ?_
              rw [← dw_e] at hRF ⊢
              refine rd_call hC hF0 (c_Rd_take l D tys tc hty _ hci h ra sa ex T (x :: r) sd S.length 34 hT hs2 (by decide)) wm_Rd_take wl_Rd_41 wi_Rd_take (hC.2.2.2.2.1 _ (List.mem_cons_of_mem _ (sel_take _ hci))) hci ⟨by decide, by decide⟩ rfl rfl (by decide) ⟨Nat.zero_le _, Nat.zero_le _⟩ (fun r w1 hp => ?_)
              obtain ⟨rfl, rfl⟩ := hp
              refine And.intro ((bI_narrow _)) (And.intro ?_ (And.intro (Nat.le_refl _) (Nat.le_refl _)))
              refine And.intro rfl ⟨sd, ?_, ?_⟩
              · rw [← hSF, tw_e, List.append_nil]; exact hsd
              · rw [← hSF, tw_e, List.append_nil]
            · skip
              have c27 : ¬ (x = 34) := fun z => c27 ((nI_eq (a := x) (b := 34) (by omega) (by omega)).mpr z)
              refine And.intro rfl ?_
              refine And.intro rfl ?_
              refine ⟨N, f, hrow, vp_in_nI (by omega) hN.2, ?_⟩
              rw [nI_clamp (by omega), hf _ g1, g2]
              refine And.intro (fun c34 => ?_) (fun c34 => ?_)
              · skip
                have c34 := (nI_eq (a := x) (b := 127) (by omega) (by omega)).mp c34
                have tw_e := tw_f (r := r) (show isOp x = false by simp only [isOp, decide_eq_false_iff_not]; omega)
                have dw_e := (dw_f (r := r) (show isOp x = false by simp only [isOp, decide_eq_false_iff_not]; omega)).symm.trans hRF
                refine vx_go hC hFt hini (vx_ends hC hr hlk) jc_Rd_takeOpaque 49 (by decide) rfl ?_
                rw [← dw_e] at hRF ⊢
                refine rd_call hC hF0 (c_Rd_take l D tys tc hty _ hci h ra sa ex T (x :: r) sd S.length 34 hT hs2 (by decide)) wm_Rd_take wl_Rd_41 wi_Rd_take (hC.2.2.2.2.1 _ (List.mem_cons_of_mem _ (sel_take _ hci))) hci ⟨by decide, by decide⟩ rfl rfl (by decide) ⟨Nat.zero_le _, Nat.zero_le _⟩ (fun r w1 hp => ?_)
                obtain ⟨rfl, rfl⟩ := hp
                refine And.intro ((bI_narrow _)) (And.intro ?_ (And.intro (Nat.le_refl _) (Nat.le_refl _)))
                refine And.intro rfl ⟨sd, ?_, ?_⟩
                · rw [← hSF, tw_e, List.append_nil]; exact hsd
                · rw [← hSF, tw_e, List.append_nil]
              · skip
                have c34 : ¬ (x = 127) := fun z => c34 ((nI_eq (a := x) (b := 127) (by omega) (by omega)).mpr z)
                have hop : isOp x = true := by simp only [isOp, decide_eq_true_eq]; omega
                refine And.intro rfl ?_
                refine And.intro rfl ?_
                refine ⟨N, f, hrow, vp_in_nI (by omega) hN.2, ?_⟩
                rw [nI_clamp (by omega), hf _ g1, g2]
                refine rd_call hC hF0 (c_Rd_say l D tys tc hty _ hci h ra sa ex T (x :: r) sd S.length hT hs2 S hsd rfl (by simp at hle; omega) x (by omega)) wm_Rd_say wl_Rd_67 wi_Rd_say (hC.2.2.2.2.1 _ (List.mem_cons_of_mem _ (sel_say _ hci))) hci ⟨by decide, by decide⟩ rfl rfl (by decide) ⟨Nat.zero_le _, Nat.zero_le _⟩ (fun r' w1 hp => ?_)
                obtain ⟨rfl, sd2, hsd2, rfl⟩ := hp
                refine And.intro rfl ?_
                refine And.intro rfl ?_
                refine And.intro rfl (And.intro (And.intro rfl rfl) ?_)
                refine Vx.eqs rfl rfl rfl (rd_stepS g4) (ih r.length (by simp at hlen; omega) sd2 r g3 (S ++ [x]) hsd2 (by simp at hSl ⊢; omega) (by rw [← hRF, dw_t hop]) (by rw [← hSF, tw_t hop]; simp) rfl)
    · skip
      obtain rfl : q1 = false := bI_eq c6
      refine And.intro (rfl) (And.intro ?_ (And.intro (Nat.le_refl _) (Nat.le_refl _)))
      simp only [opq, hpk]
      exact And.intro rfl ⟨sd, sd_nil sd, rfl⟩
