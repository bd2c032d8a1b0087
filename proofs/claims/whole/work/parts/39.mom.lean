/-! THE REFERENCE: a media range, by program (wip/whole/gen/p39.py) -/
theorem mrg_at {T M S P V : List Nat} {ps P1 P2 : Nat} (h1 : pz T ps isTk = P1) (h2 : pz T (P1 + 1) isTk = P2) (hps : ps ≤ T.length) : mrg M S P V (T.drop ps) = if ¬ ps < P1 ∨ ¬ T.getD P1 0 = 47 ∨ ¬ P1 + 1 < P2 ∨ (¬ sl T ps P1 = [42] ∧ ss_star (sl T ps P1) = true) ∨ (¬ sl T (P1 + 1) P2 = [42] ∧ (sl T ps P1 = [42] ∨ ss_star (sl T (P1 + 1) P2) = true)) then none else prm P V 97 ((decide (sl T ps P1 = [42]) || alikeL (sl T ps P1) M) && (decide (sl T (P1 + 1) P2 = [42]) || alikeL (sl T (P1 + 1) P2) S)) ((if sl T ps P1 = [42] then 0 else 1) + (if sl T (P1 + 1) P2 = [42] then 0 else 1)) (T.drop P2) := by
  have hP1 : P1 ≤ T.length := by rw [← h1]; exact pz_lt hps
  unfold mrg
  rw [sl_tw, h1, ← pz_dw, h1, pk_at (by decide)]
  by_cases h47 : T.getD P1 0 = 47
  · have hin : P1 < T.length := T_in (by omega)
    have hP2 : P2 ≤ T.length := by rw [← h2]; exact pz_lt hin
    rw [if_pos h47]
    show (if sl T ps P1 = [] ∨ true = false ∨ (T.drop (P1 + 1)).takeWhile isTk = [] ∨ _ then _ else prm P V 97 _ _ ((T.drop (P1 + 1)).dropWhile isTk)) = _
    rw [sl_tw, h2, ← pz_dw, h2]
    congr 1
    apply propext
    rw [sl_ne hP1, sl_ne hP2]
    constructor
    · rintro (z | z | z | z | z)
      · exact Or.inl z
      · cases z
      · exact Or.inr (Or.inr (Or.inl z))
      · exact Or.inr (Or.inr (Or.inr (Or.inl z)))
      · exact Or.inr (Or.inr (Or.inr (Or.inr z)))
    · rintro (z | z | z | z | z)
      · exact Or.inl z
      · exact absurd h47 z
      · exact Or.inr (Or.inr (Or.inl z))
      · exact Or.inr (Or.inr (Or.inr (Or.inl z)))
      · exact Or.inr (Or.inr (Or.inr (Or.inr z)))
  · rw [if_neg h47, if_pos (Or.inr (Or.inl rfl)), if_pos (Or.inr (Or.inl h47))]
def pnL (k : Nat) : List Nat := if k = 4 then [108, 101, 118, 101, 108] else []
def vnL (k : Nat) : List Nat := if k = 4 then [49] else []
theorem mnL_l : ∀ k, k < 6 → (mnL k).map lwr = mnL k ∧ (snL k).map lwr = snL k := by decide
theorem alike_mn {S : List Nat} {k : Nat} (h : k < 6) : decide (S.map lwr = mnL k) = alikeL S (mnL k) := by rw [alikeL, (mnL_l k h).1]
theorem alike_sn {S : List Nat} {k : Nat} (h : k < 6) : decide (S.map lwr = snL k) = alikeL S (snL k) := by rw [alikeL, (mnL_l k h).2]
/-- the world behind a media range -/
def mrP (tc : Nat → ClassId) (h : Nat) (ar : Nat → Nat) (now : Int64) (sc : Nat → Int32) (ai : Nat → Nat → Int32) (al : Nat → Nat → Int64) (T : List Nat) (ps : Nat) (v : Option (Bool × Nat × Nat × List Nat)) (r : Option Value) (w : va_W) : Prop := ∃ s2, w = mdW tc h ar now s2 ai al ∧ gq sc s2 ∧ s2 11 = sc 11 ∧ match v with
  | none => r = some (.int (-1))
  | some u => r = some (.int (nI (8 * u.2.1 + (if u.1 = true then 1 else 0)))) ∧ u.2.1 ≤ 100 ∧ u.2.2.1 ≤ 1000 ∧ ∃ p2, p2 ≤ T.length ∧ gp (T.drop p2) = u.2.2.2 ∧ s2 12 = nI p2 ∧ s2 16 = nI u.2.2.1 ∧ ps < p2
theorem val8 {t : Nat} (b : Bool) : (8 : Int32) * nI t + bI b = nI (8 * t + (if b = true then 1 else 0)) := by
  rw [show (8 : Int32) = nI 8 from rfl, pk_mul, show bI b = nI (if b = true then 1 else 0) by cases b <;> rfl, nI_add]
theorem qtx_len {rs S : List Nat} : (qtx rs S).2.1.length ≤ rs.length := by
  fun_induction qtx rs S <;> simp_all <;> omega
theorem asg_prog {T : List Nat} {b p : Nat} (hb : b ≤ T.length) (hp : p ≤ T.length) (h : (asg (T.drop b)).1 = true) (he : T.drop p = (asg (T.drop b)).2.1) : b < p := by
  have h61 : T.getD b 0 = 61 := by
    rcases Decidable.em (T.getD b 0 = 61) with z | z
    · exact z
    · rw [asg_n z] at h; cases h
  have hin : b < T.length := T_in (by omega)
  by_cases h34 : T.getD (b + 1) 0 = 34
  · rw [asg_q h61 h34] at he
    have := congrArg List.length he
    have h2 := qtx_len (rs := T.drop (b + 2)) (S := [])
    rw [← he, List.length_drop, List.length_drop] at h2
    have hin2 : b + 1 < T.length := T_in (by omega)
    omega
  · rw [asg_t h61 h34] at he
    have := congrArg List.length he
    rw [List.length_drop, List.length_drop] at this
    have h2 := pz_ge (T := T) (a := b + 1) (q := isTk)
    have h3 := pz_lt (T := T) (a := b + 1) (q := isTk) hin
    omega
set_option maxRecDepth 100000 in
set_option maxHeartbeats 4000000 in
theorem c_Mo_mediaRange (l : Launch) (D : va_G) (tys : List (ClassId × FieldType)) (tc : Nat → ClassId) (hty : ∀ i : Nat, i < 4 → tys[i]? = some (tc i, vx_ty i)) (h : Nat) (ar : Nat → Nat) (now : Int64) (sc : Nat → Int32) (ai : Nat → Nat → Int32) (al : Nat → Nat → Int64) (F : Nat) (T : List Nat) (ps : Nat) (hM : mdS sc ai F T ps) (hpl0 : ps ≤ T.length) (kd : Nat) (hkd : kd < 6) (hWd : mdWd al) : Kt l y_Mo_mediaRange (yw y_Mo_mediaRange b_Mo_mediaRange 8 (some .int)) 5 106 0 0 D cls tys (fun _ _ _ => True) [.ref h, .int (nI kd)] (mdW tc h ar now sc ai al) (fun r w => mrP tc h ar now sc ai al T ps (mrg (mnL kd) (snL kd) (pnL kd) (vnL kd) (T.drop ps)) r w) := by
  refine Kt.of ro_true (by decide) rfl hty (Nat.le_of_ble_eq_true rfl) ?_
  intro p e s m args below meth c0 A hC hr hlk hnm hF
  have hFt : vx_Ft y_Mo_mediaRange.cls (yw y_Mo_mediaRange b_Mo_mediaRange 8 (some .int)) cls cty ft_Mo := ft_of (fun w h => List.mem_cons_of_mem _ h) fl_Mo_in ft_Mo_b
  have hini : false = true → meth.name = "<init>" := fun h => by cases h
  obtain ⟨hF8, h11, hlenT, htx, hT, h12, hps⟩ := id hM
  have hTl := hT.1
  obtain ⟨P1, hP1⟩ : ∃ P1, pz T ps isTk = P1 := ⟨_, rfl⟩
  obtain ⟨P2, hP2⟩ : ∃ P2, pz T (P1 + 1) isTk = P2 := ⟨_, rfl⟩
  have hP1l : P1 ≤ T.length := by rw [← hP1]; exact pz_lt hpl0
  obtain ⟨RES, hRES⟩ : ∃ RES, mrg (mnL kd) (snL kd) (pnL kd) (vnL kd) (T.drop ps) = RES := ⟨_, rfl⟩
  rw [hRES]
  rw [mrg_at hP1 hP2 hpl0] at hRES
  refine vx_cut (α := (Nat → Int32)) 37 (fun u => gq sc u ∧ u 11 = sc 11 ∧ u 12 = nI P2 ∧ u 13 = nI (P1 + 1) ∧ u 14 = nI P2 ∧ ps < P1 ∧ T.getD P1 0 = 47 ∧ P1 + 1 < P2 ∧ P2 ≤ T.length) (fun u => [(0, .ref h), (1, .int (nI kd)), (2, .int (nI ps)), (3, .int (nI P1))]) (fun u => []) (fun u => mdW tc h ar now u ai al) (fun hJ20 => ?_) ?_
  · skip
    refine vx_gon hC hFt hini (vx_ends hC hr hlk) jc_Mo_mediaRange 0 20 (by decide) rfl ?_
    refine mo_call hC (c_Mo_token l D tys tc hty h ar now sc ai al F T ps hM) wm_Mo_token wl_Mo_176 wi_Mo_token ws_Mo_Mo_token ⟨by decide, by decide⟩ rfl rfl (Nat.le_of_ble_eq_true rfl) ⟨Nat.zero_le _, Nat.zero_le _⟩ (fun r' w1 hp => ?_)
    obtain ⟨rfl, rfl⟩ := hp
    rw [hP1]
    refine And.intro (fun c2 => ?_) (fun c2 => ?_)
    · skip
      have c2 : ps < P1 := of_decide_eq_true (bI_ne c2)
      refine vx_gon hC hFt hini (vx_ends hC hr hlk) jc_Mo_mediaRange 5 15 (by decide) rfl ?_
      refine And.intro rfl ?_
      refine And.intro rfl ?_
      refine mo_call hC (c_Mo_take l D tys tc hty h ar now (upd (upd (upd sc 13 (nI ps)) 12 (nI P1)) 14 (nI P1)) ai al F T P1 (((hM.ot (by decide) (by decide)).at (by omega)).ot (by decide) (by decide)) 47 (by decide)) wm_Mo_take wl_Mo_153 wi_Mo_take ws_Mo_Mo_take ⟨by decide, by decide⟩ rfl rfl (Nat.le_of_ble_eq_true rfl) ⟨Nat.zero_le _, Nat.zero_le _⟩ (fun r' w1 hp => ?_)
      obtain ⟨rfl, rfl⟩ := hp
      refine And.intro (fun c14 => ?_) (fun c14 => ?_)
      · skip
        have c14 : ¬ T.getD P1 0 = 47 := of_decide_eq_false (bI_eq c14)
        refine vx_gon hC hFt hini (vx_ends hC hr hlk) jc_Mo_mediaRange 18 2 (by decide) rfl ?_
        refine And.intro (trivial) (And.intro ?_ (And.intro (Nat.le_refl _) (Nat.le_refl _)))
        rw [if_pos (Or.inr (Or.inl c14))] at hRES
        subst hRES
        exact ⟨upd (upd (upd (upd sc 13 (nI ps)) 12 (nI P1)) 14 (nI P1)) 12 (nI (if T.getD P1 0 = 47 then P1 + 1 else P1)), rfl, ((((gq.refl.upd (by decide)).upd (by decide)).upd (by decide)).upd (by decide)), rfl, rfl⟩
      · skip
        have c14 : T.getD P1 0 = 47 := of_decide_eq_true (bI_ne c14)
        rw [if_pos c14]
        have hin := T_in (T := T) (k := P1) (by omega)
        refine mo_call hC (c_Mo_token l D tys tc hty h ar now (upd (upd (upd (upd sc 13 (nI ps)) 12 (nI P1)) 14 (nI P1)) 12 (nI (P1 + 1))) ai al F T (P1 + 1) ((((hM.ot (by decide) (by decide)).at (by omega)).ot (by decide) (by decide)).at (by omega))) wm_Mo_token wl_Mo_176 wi_Mo_token ws_Mo_Mo_token ⟨by decide, by decide⟩ rfl rfl (Nat.le_of_ble_eq_true rfl) ⟨Nat.zero_le _, Nat.zero_le _⟩ (fun r' w1 hp => ?_)
        obtain ⟨rfl, rfl⟩ := hp
        rw [hP2]
        refine And.intro (fun c17 => ?_) (fun c17 => ?_)
        · skip
          have c17 : P1 + 1 < P2 := of_decide_eq_true (bI_ne c17)
          refine Vx.subL (lv' := [(0, .ref h), (1, .int (nI kd)), (2, .int (nI ps)), (3, .int (nI P1))]) [2, 3, 1, 0] rfl ?_
          exact hJ20 (upd (upd (upd (upd (upd (upd (upd sc 13 (nI ps)) 12 (nI P1)) 14 (nI P1)) 12 (nI (P1 + 1))) 13 (nI (P1 + 1))) 12 (nI P2)) 14 (nI P2)) ⟨(((((((gq.refl.upd (by decide)).upd (by decide)).upd (by decide)).upd (by decide)).upd (by decide)).upd (by decide)).upd (by decide)), rfl, rfl, rfl, rfl, c2, c14, c17, by rw [← hP2]; exact pz_lt hin⟩
        · skip
          have c17 : ¬ P1 + 1 < P2 := of_decide_eq_false (bI_eq c17)
          refine And.intro (trivial) (And.intro ?_ (And.intro (Nat.le_refl _) (Nat.le_refl _)))
          rw [if_pos (Or.inr (Or.inr (Or.inl c17)))] at hRES
          subst hRES
          exact ⟨(upd (upd (upd (upd (upd (upd (upd sc 13 (nI ps)) 12 (nI P1)) 14 (nI P1)) 12 (nI (P1 + 1))) 13 (nI (P1 + 1))) 12 (nI P2)) 14 (nI P2)), rfl, (((((((gq.refl.upd (by decide)).upd (by decide)).upd (by decide)).upd (by decide)).upd (by decide)).upd (by decide)).upd (by decide)), rfl, rfl⟩
    · skip
      have c2 : ¬ ps < P1 := of_decide_eq_false (bI_eq c2)
      refine And.intro (trivial) (And.intro ?_ (And.intro (Nat.le_refl _) (Nat.le_refl _)))
      rw [if_pos (Or.inl c2)] at hRES
      subst hRES
      exact ⟨(upd (upd (upd sc 13 (nI ps)) 12 (nI P1)) 14 (nI P1)), rfl, (((gq.refl.upd (by decide)).upd (by decide)).upd (by decide)), rfl, rfl⟩
  · rintro s3 ⟨hg3, h311, h312, h313, h314, c2, c14, c17, hP2l⟩
    have hM3 : mdS s3 ai F T P2 := hM.gq h311 h312 (by omega)
    refine vx_cut (α := Bool) 61 (fun u => u = decide (sl T ps P1 = [42])) (fun u => [(0, .ref h), (1, .int (nI kd)), (2, .int (nI ps)), (3, .int (nI P1)), (4, .int (bI u))]) (fun u => []) (fun u => mdW tc h ar now s3 ai al) (fun hJ34 => ?_) ?_
    · skip
      refine vx_gon hC hFt hini (vx_ends hC hr hlk) jc_Mo_mediaRange 20 14 (by decide) rfl ?_
      refine And.intro (fun c24 => ?_) (fun c24 => ?_)
      · skip
        have c24 : ¬ (P1 - ps = 1) := fun z => c24 (show nI P1 - nI ps = nI 1 by rw [pk_sub (by omega), z])
        refine vx_gon hC hFt hini (vx_ends hC hr hlk) jc_Mo_mediaRange 32 2 (by decide) rfl ?_
        refine Vx.subL (lv' := [(0, .ref h), (1, .int (nI kd)), (2, .int (nI ps)), (3, .int (nI P1)), (4, .int (bI false))]) [1, 2, 3, 4, 0] rfl ?_
        exact hJ34 false (decide_eq_false (fun z => c24 ((sl_one hP1l).mp z).1)).symm
      · skip
        have c24 : P1 - ps = 1 := by
          have c24 : nI P1 - nI ps = nI 1 := c24
          rw [pk_sub (by omega)] at c24
          exact (nI_eq (by omega) (by omega)).mp c24
        refine mo_call hC (c_Mo_charAt l D tys tc hty h ar now s3 ai al F T P2 hM3 ps (by omega)) wm_Mo_charAt wl_Mo_111 wi_Mo_charAt ws_Mo_Mo_charAt ⟨by decide, by decide⟩ rfl rfl (Nat.le_of_ble_eq_true rfl) ⟨Nat.zero_le _, Nat.zero_le _⟩ (fun r' w1 hp => ?_)
        obtain ⟨rfl, rfl⟩ := hp
        refine And.intro (fun c29 => ?_) (fun c29 => ?_)
        · skip
          have c29 : ¬ (T.getD ps 0 = 42) := fun z => c29 (by rw [z]; rfl)
          refine vx_gon hC hFt hini (vx_ends hC hr hlk) jc_Mo_mediaRange 32 2 (by decide) rfl ?_
          refine Vx.subL (lv' := [(0, .ref h), (1, .int (nI kd)), (2, .int (nI ps)), (3, .int (nI P1)), (4, .int (bI false))]) [1, 2, 3, 4, 0] rfl ?_
          exact hJ34 false (decide_eq_false (fun z => c29 ((sl_one hP1l).mp z).2)).symm
        · skip
          have c29 : T.getD ps 0 = 42 := (nI_eq (by have := T_lt hT (ps); omega) (by omega)).mp c29
          refine vx_gon hC hFt hini (vx_ends hC hr hlk) jc_Mo_mediaRange 33 1 (by decide) rfl ?_
          refine Vx.subL (lv' := [(0, .ref h), (1, .int (nI kd)), (2, .int (nI ps)), (3, .int (nI P1)), (4, .int (bI true))]) [1, 2, 3, 4, 0] rfl ?_
          exact hJ34 true (decide_eq_true ((sl_one hP1l).mpr ⟨c24, c29⟩)).symm
    · rintro any hany
      refine vx_cut (α := Bool) 94 (fun u => u = decide (sl T (P1 + 1) P2 = [42])) (fun u => [(0, .ref h), (1, .int (nI kd)), (2, .int (nI ps)), (3, .int (nI P1)), (4, .int (bI any)), (5, .int (bI u))]) (fun u => []) (fun u => mdW tc h ar now s3 ai al) (fun hJ51 => ?_) ?_
      · skip
        refine vx_gon hC hFt hini (vx_ends hC hr hlk) jc_Mo_mediaRange 34 17 (by decide) rfl ?_
        refine And.intro rfl ?_
        refine And.intro rfl ?_
        refine And.intro (fun c40 => ?_) (fun c40 => ?_)
        · skip
          rw [h314, h313] at c40
          have c40 : ¬ (P2 - (P1 + 1) = 1) := fun z => c40 (show nI P2 - nI (P1 + 1) = nI 1 by rw [pk_sub (by omega), z])
          refine vx_gon hC hFt hini (vx_ends hC hr hlk) jc_Mo_mediaRange 49 2 (by decide) rfl ?_
          refine Vx.subL (lv' := [(0, .ref h), (1, .int (nI kd)), (2, .int (nI ps)), (3, .int (nI P1)), (4, .int (bI any)), (5, .int (bI false))]) [1, 2, 3, 4, 5, 0] rfl ?_
          exact hJ51 false (decide_eq_false (fun z => c40 ((sl_one hP2l).mp z).1)).symm
        · skip
          rw [h314, h313] at c40
          have c40 : P2 - (P1 + 1) = 1 := by
            have c40 : nI P2 - nI (P1 + 1) = nI 1 := c40
            rw [pk_sub (by omega)] at c40
            exact (nI_eq (by omega) (by omega)).mp c40
          refine And.intro rfl ?_
          refine mo_call hC (c_Mo_charAt l D tys tc hty h ar now s3 ai al F T P2 hM3 (P1 + 1) (by omega)) wm_Mo_charAt wl_Mo_111 wi_Mo_charAt ws_Mo_Mo_charAt ⟨by decide, by decide⟩ rfl (by rw [h313]; rfl) (Nat.le_of_ble_eq_true rfl) ⟨Nat.zero_le _, Nat.zero_le _⟩ (fun r' w1 hp => ?_)
          obtain ⟨rfl, rfl⟩ := hp
          refine And.intro (fun c46 => ?_) (fun c46 => ?_)
          · skip
            have c46 : ¬ (T.getD (P1 + 1) 0 = 42) := fun z => c46 (by rw [z]; rfl)
            refine vx_gon hC hFt hini (vx_ends hC hr hlk) jc_Mo_mediaRange 49 2 (by decide) rfl ?_
            refine Vx.subL (lv' := [(0, .ref h), (1, .int (nI kd)), (2, .int (nI ps)), (3, .int (nI P1)), (4, .int (bI any)), (5, .int (bI false))]) [1, 2, 3, 4, 5, 0] rfl ?_
            exact hJ51 false (decide_eq_false (fun z => c46 ((sl_one hP2l).mp z).2)).symm
          · skip
            have c46 : T.getD (P1 + 1) 0 = 42 := (nI_eq (by have := T_lt hT ((P1 + 1)); omega) (by omega)).mp c46
            refine vx_gon hC hFt hini (vx_ends hC hr hlk) jc_Mo_mediaRange 50 1 (by decide) rfl ?_
            refine Vx.subL (lv' := [(0, .ref h), (1, .int (nI kd)), (2, .int (nI ps)), (3, .int (nI P1)), (4, .int (bI any)), (5, .int (bI true))]) [1, 2, 3, 4, 5, 0] rfl ?_
            exact hJ51 true (decide_eq_true ((sl_one hP2l).mpr ⟨c40, c46⟩)).symm
      · rintro all hall
        refine vx_cut (α := Unit) 140 (fun u => ¬ (¬ ps < P1 ∨ ¬ T.getD P1 0 = 47 ∨ ¬ P1 + 1 < P2 ∨ (¬ sl T ps P1 = [42] ∧ ss_star (sl T ps P1) = true) ∨ (¬ sl T (P1 + 1) P2 = [42] ∧ (sl T ps P1 = [42] ∨ ss_star (sl T (P1 + 1) P2) = true)))) (fun u => [(0, .ref h), (1, .int (nI kd)), (2, .int (nI ps)), (3, .int (nI P1)), (4, .int (bI any)), (5, .int (bI all))]) (fun u => []) (fun u => mdW tc h ar now s3 ai al) (fun hJ73 => ?_) ?_
        · skip
          refine vx_gon hC hFt hini (vx_ends hC hr hlk) jc_Mo_mediaRange 51 22 (by decide) rfl ?_
          refine And.intro (fun c52 => ?_) (fun c52 => ?_)
          · skip
            obtain rfl : any = false := bI_eq c52
            refine vx_gon hC hFt hini (vx_ends hC hr hlk) jc_Mo_mediaRange 55 18 (by decide) rfl ?_
            refine And.intro (fun c56 => ?_) (fun c56 => ?_)
            · skip
              exact absurd rfl c56
            · skip
              refine mo_call hC (c_Mo_starred l D tys tc hty h ar now s3 ai al F T P2 hM3 ps P1 (by omega) (by omega)) wm_Mo_starred wl_Mo_179 wi_Mo_starred ws_Mo_Mo_starred ⟨by decide, by decide⟩ rfl rfl (Nat.le_of_ble_eq_true rfl) ⟨Nat.zero_le _, Nat.zero_le _⟩ (fun r' w1 hp => ?_)
              obtain ⟨rfl, rfl⟩ := hp
              refine And.intro (fun c61 => ?_) (fun c61 => ?_)
              · skip
                have c61 : ss_star (sl T ps P1) = true := by rw [← stq_sl (by omega) (by omega)]; exact bI_ne c61
                refine vx_gon hC hFt hini (vx_ends hC hr hlk) jc_Mo_mediaRange 71 2 (by decide) rfl ?_
                refine And.intro (trivial) (And.intro ?_ (And.intro (Nat.le_refl _) (Nat.le_refl _)))
                rw [if_pos (Or.inr (Or.inr (Or.inr (Or.inl ⟨of_decide_eq_false hany.symm, c61⟩))))] at hRES
                subst hRES
                exact ⟨s3, rfl, hg3, h311, rfl⟩
              · skip
                have c61 : ss_star (sl T ps P1) = false := by rw [← stq_sl (by omega) (by omega)]; exact bI_eq c61
                refine And.intro (fun c63 => ?_) (fun c63 => ?_)
                · skip
                  obtain rfl : all = true := bI_ne c63
                  refine Vx.subL (lv' := [(0, .ref h), (1, .int (nI kd)), (2, .int (nI ps)), (3, .int (nI P1)), (4, .int (bI false)), (5, .int (bI true))]) [0, 1, 2, 3, 4, 5] rfl ?_
                  refine hJ73 () ?_
                  rintro (z | z | z | z | z)
                  · exact z c2
                  · exact z c14
                  · exact z c17
                  · exact (fun z => by rw [c61] at z; cases z.2) z
                  · exact (fun z => absurd (of_decide_eq_true hall.symm) z.1) z
                · skip
                  obtain rfl : all = false := bI_eq c63
                  refine And.intro rfl ?_
                  refine And.intro rfl ?_
                  refine mo_call hC (c_Mo_starred l D tys tc hty h ar now s3 ai al F T P2 hM3 (P1 + 1) P2 (by omega) (by omega)) wm_Mo_starred wl_Mo_179 wi_Mo_starred ws_Mo_Mo_starred ⟨by decide, by decide⟩ rfl (by rw [h313, h314]; rfl) (Nat.le_of_ble_eq_true rfl) ⟨Nat.zero_le _, Nat.zero_le _⟩ (fun r' w1 hp => ?_)
                  obtain ⟨rfl, rfl⟩ := hp
                  refine And.intro (fun c70 => ?_) (fun c70 => ?_)
                  · skip
                    have c70 : ss_star (sl T (P1 + 1) P2) = false := by rw [← stq_sl (by omega) (by omega)]; exact bI_eq c70
                    refine Vx.subL (lv' := [(0, .ref h), (1, .int (nI kd)), (2, .int (nI ps)), (3, .int (nI P1)), (4, .int (bI false)), (5, .int (bI false))]) [0, 1, 2, 3, 4, 5] rfl ?_
                    refine hJ73 () ?_
                    rintro (z | z | z | z | z)
                    · exact z c2
                    · exact z c14
                    · exact z c17
                    · exact (fun z => by rw [c61] at z; cases z.2) z
                    · exact (fun z => z.2.elim (fun y => absurd y (of_decide_eq_false hany.symm)) (fun y => by rw [c70] at y; cases y)) z
                  · skip
                    have c70 : ss_star (sl T (P1 + 1) P2) = true := by rw [← stq_sl (by omega) (by omega)]; exact bI_ne c70
                    refine And.intro (trivial) (And.intro ?_ (And.intro (Nat.le_refl _) (Nat.le_refl _)))
                    rw [if_pos (Or.inr (Or.inr (Or.inr (Or.inr ⟨of_decide_eq_false hall.symm, Or.inr c70⟩))))] at hRES
                    subst hRES
                    exact ⟨s3, rfl, hg3, h311, rfl⟩
          · skip
            obtain rfl : any = true := bI_ne c52
            refine And.intro (fun c54 => ?_) (fun c54 => ?_)
            · skip
              obtain rfl : all = false := bI_eq c54
              refine vx_gon hC hFt hini (vx_ends hC hr hlk) jc_Mo_mediaRange 71 2 (by decide) rfl ?_
              refine And.intro (trivial) (And.intro ?_ (And.intro (Nat.le_refl _) (Nat.le_refl _)))
              rw [if_pos (Or.inr (Or.inr (Or.inr (Or.inr ⟨of_decide_eq_false hall.symm, Or.inl (of_decide_eq_true hany.symm)⟩))))] at hRES
              subst hRES
              exact ⟨s3, rfl, hg3, h311, rfl⟩
            · skip
              obtain rfl : all = true := bI_ne c54
              refine And.intro (fun c56 => ?_) (fun c56 => ?_)
              · skip
                refine vx_gon hC hFt hini (vx_ends hC hr hlk) jc_Mo_mediaRange 62 11 (by decide) rfl ?_
                refine And.intro (fun c63 => ?_) (fun c63 => ?_)
                · skip
                  refine Vx.subL (lv' := [(0, .ref h), (1, .int (nI kd)), (2, .int (nI ps)), (3, .int (nI P1)), (4, .int (bI true)), (5, .int (bI true))]) [0, 1, 2, 3, 4, 5] rfl ?_
                  refine hJ73 () ?_
                  rintro (z | z | z | z | z)
                  · exact z c2
                  · exact z c14
                  · exact z c17
                  · exact (fun z => absurd (of_decide_eq_true hany.symm) z.1) z
                  · exact (fun z => absurd (of_decide_eq_true hall.symm) z.1) z
                · skip
                  exact absurd c63 (by decide)
              · skip
                exact absurd c56 (by decide)
        · rintro u hno
          clear u
          refine vx_cut (α := Bool) 183 (fun u => u = ((any || alikeL (sl T ps P1) (mnL kd)) && (all || alikeL (sl T (P1 + 1) P2) (snL kd)))) (fun u => [(0, .ref h), (1, .int (nI kd)), (2, .int (nI ps)), (3, .int (nI P1)), (4, .int (bI any)), (5, .int (bI all)), (6, .int (bI u))]) (fun u => []) (fun u => mdW tc h ar now s3 ai al) (fun hJ95 => ?_) ?_
          · skip
            refine vx_gon hC hFt hini (vx_ends hC hr hlk) jc_Mo_mediaRange 73 22 (by decide) rfl ?_
            refine And.intro (fun c74 => ?_) (fun c74 => ?_)
            · skip
              obtain rfl : any = true := bI_ne c74
              refine vx_gon hC hFt hini (vx_ends hC hr hlk) jc_Mo_mediaRange 81 14 (by decide) rfl ?_
              refine And.intro (fun c82 => ?_) (fun c82 => ?_)
              · skip
                obtain rfl : all = true := bI_ne c82
                refine vx_gon hC hFt hini (vx_ends hC hr hlk) jc_Mo_mediaRange 91 4 (by decide) rfl ?_
                refine vx_gon hC hFt hini (vx_ends hC hr hlk) jc_Mo_mediaRange 94 1 (by decide) rfl ?_
                refine Vx.subL (lv' := [(0, .ref h), (1, .int (nI kd)), (2, .int (nI ps)), (3, .int (nI P1)), (4, .int (bI true)), (5, .int (bI true)), (6, .int (bI true))]) [1, 2, 3, 4, 5, 6, 0] rfl ?_
                exact hJ95 true (by rfl)
              · skip
                obtain rfl : all = false := bI_eq c82
                refine And.intro rfl ?_
                refine And.intro rfl ?_
                refine mo_call hC (c_Mo_isSub l D tys tc hty h ar now s3 ai al F T P2 hM3 (P1 + 1) P2 (by omega) (by omega) kd hkd hWd) wm_Mo_isSub wl_Mo_187 wi_Mo_isSub ws_Mo_Mo_isSub ⟨by decide, by decide⟩ rfl (by rw [h313, h314]; rfl) (Nat.le_of_ble_eq_true rfl) ⟨Nat.zero_le _, Nat.zero_le _⟩ (fun r' w1 hp => ?_)
                obtain ⟨rfl, rfl⟩ := hp
                rw [alike_sn hkd]
                refine And.intro (fun c90 => ?_) (fun c90 => ?_)
                · skip
                  have c90 : alikeL (sl T (P1 + 1) P2) (snL kd) = false := bI_eq c90
                  refine vx_gon hC hFt hini (vx_ends hC hr hlk) jc_Mo_mediaRange 93 2 (by decide) rfl ?_
                  refine Vx.subL (lv' := [(0, .ref h), (1, .int (nI kd)), (2, .int (nI ps)), (3, .int (nI P1)), (4, .int (bI true)), (5, .int (bI false)), (6, .int (bI false))]) [1, 2, 3, 4, 5, 6, 0] rfl ?_
                  exact hJ95 false (by rw [c90]; rfl)
                · skip
                  have c90 : alikeL (sl T (P1 + 1) P2) (snL kd) = true := bI_ne c90
                  refine vx_gon hC hFt hini (vx_ends hC hr hlk) jc_Mo_mediaRange 94 1 (by decide) rfl ?_
                  refine Vx.subL (lv' := [(0, .ref h), (1, .int (nI kd)), (2, .int (nI ps)), (3, .int (nI P1)), (4, .int (bI true)), (5, .int (bI false)), (6, .int (bI true))]) [1, 2, 3, 4, 5, 6, 0] rfl ?_
                  exact hJ95 true (by rw [c90]; rfl)
            · skip
              obtain rfl : any = false := bI_eq c74
              refine mo_call hC (c_Mo_isMain l D tys tc hty h ar now s3 ai al F T P2 hM3 ps P1 (by omega) (by omega) kd hkd hWd) wm_Mo_isMain wl_Mo_183 wi_Mo_isMain ws_Mo_Mo_isMain ⟨by decide, by decide⟩ rfl rfl (Nat.le_of_ble_eq_true rfl) ⟨Nat.zero_le _, Nat.zero_le _⟩ (fun r' w1 hp => ?_)
              obtain ⟨rfl, rfl⟩ := hp
              rw [alike_mn hkd]
              refine And.intro (fun c80 => ?_) (fun c80 => ?_)
              · skip
                have c80 : alikeL (sl T ps P1) (mnL kd) = false := bI_eq c80
                refine vx_gon hC hFt hini (vx_ends hC hr hlk) jc_Mo_mediaRange 93 2 (by decide) rfl ?_
                refine Vx.subL (lv' := [(0, .ref h), (1, .int (nI kd)), (2, .int (nI ps)), (3, .int (nI P1)), (4, .int (bI false)), (5, .int (bI all)), (6, .int (bI false))]) [1, 2, 3, 4, 5, 6, 0] rfl ?_
                exact hJ95 false (by rw [c80]; rfl)
              · skip
                have c80 : alikeL (sl T ps P1) (mnL kd) = true := bI_ne c80
                refine And.intro (fun c82 => ?_) (fun c82 => ?_)
                · skip
                  obtain rfl : all = true := bI_ne c82
                  refine vx_gon hC hFt hini (vx_ends hC hr hlk) jc_Mo_mediaRange 91 4 (by decide) rfl ?_
                  refine vx_gon hC hFt hini (vx_ends hC hr hlk) jc_Mo_mediaRange 94 1 (by decide) rfl ?_
                  refine Vx.subL (lv' := [(0, .ref h), (1, .int (nI kd)), (2, .int (nI ps)), (3, .int (nI P1)), (4, .int (bI false)), (5, .int (bI true)), (6, .int (bI true))]) [1, 2, 3, 4, 5, 6, 0] rfl ?_
                  exact hJ95 true (by rw [c80]; rfl)
                · skip
                  obtain rfl : all = false := bI_eq c82
                  refine And.intro rfl ?_
                  refine And.intro rfl ?_
                  refine mo_call hC (c_Mo_isSub l D tys tc hty h ar now s3 ai al F T P2 hM3 (P1 + 1) P2 (by omega) (by omega) kd hkd hWd) wm_Mo_isSub wl_Mo_187 wi_Mo_isSub ws_Mo_Mo_isSub ⟨by decide, by decide⟩ rfl (by rw [h313, h314]; rfl) (Nat.le_of_ble_eq_true rfl) ⟨Nat.zero_le _, Nat.zero_le _⟩ (fun r' w1 hp => ?_)
                  obtain ⟨rfl, rfl⟩ := hp
                  rw [alike_sn hkd]
                  refine And.intro (fun c90 => ?_) (fun c90 => ?_)
                  · skip
                    have c90 : alikeL (sl T (P1 + 1) P2) (snL kd) = false := bI_eq c90
                    refine vx_gon hC hFt hini (vx_ends hC hr hlk) jc_Mo_mediaRange 93 2 (by decide) rfl ?_
                    refine Vx.subL (lv' := [(0, .ref h), (1, .int (nI kd)), (2, .int (nI ps)), (3, .int (nI P1)), (4, .int (bI false)), (5, .int (bI false)), (6, .int (bI false))]) [1, 2, 3, 4, 5, 6, 0] rfl ?_
                    exact hJ95 false (by rw [c80, c90]; rfl)
                  · skip
                    have c90 : alikeL (sl T (P1 + 1) P2) (snL kd) = true := bI_ne c90
                    refine vx_gon hC hFt hini (vx_ends hC hr hlk) jc_Mo_mediaRange 94 1 (by decide) rfl ?_
                    refine Vx.subL (lv' := [(0, .ref h), (1, .int (nI kd)), (2, .int (nI ps)), (3, .int (nI P1)), (4, .int (bI false)), (5, .int (bI false)), (6, .int (bI true))]) [1, 2, 3, 4, 5, 6, 0] rfl ?_
                    exact hJ95 true (by rw [c80, c90]; rfl)
          · rintro fits hfits
            refine vx_cut (α := Nat) 204 (fun u => u = (if any = true then 0 else if all = true then 1 else 2)) (fun u => [(0, .ref h), (1, .int (nI kd)), (6, .int (bI fits)), (7, .int (nI u))]) (fun u => []) (fun u => mdW tc h ar now s3 ai al) (fun hJ105 => ?_) ?_
            · skip
              refine vx_gon hC hFt hini (vx_ends hC hr hlk) jc_Mo_mediaRange 95 10 (by decide) rfl ?_
              refine And.intro (fun c96 => ?_) (fun c96 => ?_)
              · skip
                obtain rfl : any = false := bI_eq c96
                refine vx_gon hC hFt hini (vx_ends hC hr hlk) jc_Mo_mediaRange 99 6 (by decide) rfl ?_
                refine And.intro (fun c100 => ?_) (fun c100 => ?_)
                · skip
                  obtain rfl : all = false := bI_eq c100
                  refine vx_gon hC hFt hini (vx_ends hC hr hlk) jc_Mo_mediaRange 103 2 (by decide) rfl ?_
                  refine Vx.subL (lv' := [(0, .ref h), (1, .int (nI kd)), (6, .int (bI fits)), (7, .int (nI 2))]) [1, 2, 7, 0] rfl ?_
                  exact hJ105 2 (by rfl)
                · skip
                  obtain rfl : all = true := bI_ne c100
                  refine vx_gon hC hFt hini (vx_ends hC hr hlk) jc_Mo_mediaRange 104 1 (by decide) rfl ?_
                  refine Vx.subL (lv' := [(0, .ref h), (1, .int (nI kd)), (6, .int (bI fits)), (7, .int (nI 1))]) [1, 2, 7, 0] rfl ?_
                  exact hJ105 1 (by rfl)
              · skip
                obtain rfl : any = true := bI_ne c96
                refine vx_gon hC hFt hini (vx_ends hC hr hlk) jc_Mo_mediaRange 104 1 (by decide) rfl ?_
                refine Vx.subL (lv' := [(0, .ref h), (1, .int (nI kd)), (6, .int (bI fits)), (7, .int (nI 0))]) [1, 2, 7, 0] rfl ?_
                exact hJ105 0 (by rfl)
            · rintro told htold
              refine vx_cut (α := (Nat → Int32)) 211 (fun u => gq sc u ∧ u 11 = sc 11 ∧ u 12 = nI P2 ∧ u 16 = nI 1000) (fun u => [(0, .ref h), (1, .int (nI kd)), (6, .int (bI fits)), (7, .int (nI told))]) (fun u => []) (fun u => mdW tc h ar now u ai al) (fun hJ108 => ?_) ?_
              · skip
                refine vx_gon hC hFt hini (vx_ends hC hr hlk) jc_Mo_mediaRange 105 3 (by decide) rfl ?_
                refine And.intro rfl (And.intro (And.intro rfl rfl) ?_)
                refine Vx.eqs rfl rfl rfl (show _ = mdW tc h ar now (upd s3 16 (nI 1000)) ai al from rfl) ?_
                exact hJ108 (upd s3 16 (nI 1000)) ⟨hg3.upd (by decide), (pk_un (by decide)).trans h311, (pk_un (by decide)).trans h312, pk_us⟩
              · skip
                rintro s4 ⟨hg4, h411, h412, h416⟩
                obtain ⟨pp, hpp⟩ : ∃ pp, pp = P2 := ⟨_, rfl⟩
                obtain ⟨n, hn⟩ : ∃ n, n = 97 := ⟨_, rfl⟩
                rw [← hpp] at h412
                have hpl : pp ≤ T.length := by omega
                have hfu : T.length - pp < n := by omega
                have ht9 : told = (if sl T ps P1 = [42] then 0 else 1) + (if sl T (P1 + 1) P2 = [42] then 0 else 1) := by
                  rw [htold, hany, hall]
                  by_cases z1 : sl T ps P1 = [42] <;> by_cases z2 : sl T (P1 + 1) P2 = [42] <;> simp [z1, z2]
                  exact hno (Or.inr (Or.inr (Or.inr (Or.inr ⟨z2, Or.inl z1⟩))))
                have hres : prm (pnL kd) (vnL kd) n fits told (T.drop pp) = RES := by rw [← hRES, if_neg hno, hn, hpp, hfits, ht9, hany, hall]
                have hto : told + (T.length - pp) ≤ 100 := by have : told ≤ 2 := (by rw [htold]; cases any <;> cases all <;> decide); omega
                have hlt : ps < pp := by omega
                clear hpp hn hRES hno hfits htold hany hall ht9
                induction n generalizing s4 pp fits told with
                | zero => omega
                | succ n ih =>
                  have hM4 : mdS s4 ai F T pp := hM.gq h411 h412 (by omega)
                  obtain ⟨q, hq⟩ : ∃ q, pz T (pz T pp isGp + 1) isGp = q := ⟨_, rfl⟩
                  obtain ⟨b, hb⟩ : ∃ b, pz T q isTk = b := ⟨_, rfl⟩
                  have hqb : T.getD (pz T pp isGp) 0 = 59 → pp < q ∧ q ≤ T.length := fun z => by
                    have h1 := T_in (T := T) (k := pz T pp isGp) (by omega)
                    have h2 := pz_ge (T := T) (a := pp) (q := isGp)
                    have h3 := pz_ge (T := T) (a := pz T pp isGp + 1) (q := isGp)
                    have h4 := pz_lt (T := T) (a := pz T pp isGp + 1) (q := isGp) (by omega)
                    omega
                  have hbl : b ≤ T.length ∨ ¬ T.getD (pz T pp isGp) 0 = 59 := by
                    rcases Decidable.em (T.getD (pz T pp isGp) 0 = 59) with z | z
                    · exact Or.inl (by rw [← hb]; exact pz_lt (hqb z).2)
                    · exact Or.inr z
                  refine vx_cut (α := (Nat → Int32)) 309 (fun u => gq sc u ∧ u 11 = sc 11 ∧ u 12 = nI b ∧ u 17 = nI q ∧ u 18 = nI b ∧ u 16 = nI 1000 ∧ T.getD (pz T pp isGp) 0 = 59 ∧ q < b ∧ alikeL (sl T q b) [113] = false) (fun u => [(0, .ref h), (1, .int (nI kd)), (6, .int (bI fits)), (7, .int (nI told))]) (fun u => []) (fun u => mdW tc h ar now u ai al) (fun hJ157 => ?_) ?_
                  · skip
                    refine vx_gon hC hFt hini (vx_ends hC hr hlk) jc_Mo_mediaRange 108 49 (by decide) rfl ?_
                    refine mo_call hC (c_Mo_semicolon l D tys tc hty h ar now s4 ai al F T pp hM4) wm_Mo_semicolon wl_Mo_159 wi_Mo_semicolon ws_Mo_Mo_semicolon ⟨by decide, by decide⟩ rfl rfl (Nat.le_of_ble_eq_true rfl) ⟨Nat.zero_le _, Nat.zero_le _⟩ (fun r' w1 hp => ?_)
                    obtain ⟨rfl, rfl⟩ := hp
                    rw [hq]
                    refine And.intro (fun c110 => ?_) (fun c110 => ?_)
                    · skip
                      have c110 : ¬ T.getD (pz T pp isGp) 0 = 59 := of_decide_eq_false (bI_eq c110)
                      rw [if_neg c110, upd_same h412]
                      refine vx_go hC hFt hini (vx_ends hC hr hlk) jc_Mo_mediaRange 187 (by decide) rfl ?_
                      refine And.intro (fun c191 => ?_) (fun c191 => ?_)
                      · skip
                        obtain rfl : fits = false := bI_eq c191
                        refine vx_go hC hFt hini (vx_ends hC hr hlk) jc_Mo_mediaRange 194 (by decide) rfl ?_
                        refine And.intro (trivial) (And.intro ?_ (And.intro (Nat.le_refl _) (Nat.le_refl _)))
                        rw [prm_end c110] at hres
                        subst hres
                        refine ⟨s4, rfl, hg4, h411, by rw [← val8 false]; rfl, (by show told ≤ 100; omega), Nat.le_refl _, pp, hpl, rfl, h412, h416, hlt⟩
                      · skip
                        obtain rfl : fits = true := bI_ne c191
                        refine vx_go hC hFt hini (vx_ends hC hr hlk) jc_Mo_mediaRange 195 (by decide) rfl ?_
                        refine And.intro (trivial) (And.intro ?_ (And.intro (Nat.le_refl _) (Nat.le_refl _)))
                        rw [prm_end c110] at hres
                        subst hres
                        refine ⟨s4, rfl, hg4, h411, by rw [← val8 true]; rfl, (by show told ≤ 100; omega), Nat.le_refl _, pp, hpl, rfl, h412, h416, hlt⟩
                    · skip
                      have c110 : T.getD (pz T pp isGp) 0 = 59 := of_decide_eq_true (bI_ne c110)
                      rw [if_pos c110]
                      obtain ⟨hq1, hq2⟩ := hqb c110
                      have hbl : b ≤ T.length := hbl.resolve_right (fun z => z c110)
                      have hqb2 : q ≤ b := by rw [← hb]; exact pz_ge
                      refine mo_call hC (c_Mo_token l D tys tc hty h ar now (upd s4 12 (nI q)) ai al F T q (hM4.at (by omega))) wm_Mo_token wl_Mo_176 wi_Mo_token ws_Mo_Mo_token ⟨by decide, by decide⟩ rfl rfl (Nat.le_of_ble_eq_true rfl) ⟨Nat.zero_le _, Nat.zero_le _⟩ (fun r' w1 hp => ?_)
                      obtain ⟨rfl, rfl⟩ := hp
                      rw [hb]
                      refine And.intro (fun c113 => ?_) (fun c113 => ?_)
                      · skip
                        have c113 : q < b := of_decide_eq_true (bI_ne c113)
                        refine vx_gon hC hFt hini (vx_ends hC hr hlk) jc_Mo_mediaRange 116 41 (by decide) rfl ?_
                        refine And.intro rfl ?_
                        refine And.intro rfl (And.intro (And.intro rfl rfl) ?_)
                        refine And.intro rfl ?_
                        refine And.intro rfl (And.intro (And.intro rfl rfl) ?_)
                        refine wq_ws (ws2 := mdW tc h ar now (upd (upd (upd (upd (upd (upd s4 12 (nI q)) 13 (nI q)) 12 (nI b)) 14 (nI b)) 17 (nI q)) 18 (nI b)) ai al) rfl ?_
                        refine And.intro rfl ?_
                        refine And.intro rfl ?_
                        refine And.intro (fun c130 => ?_) (fun c130 => ?_)
                        · skip
                          have c130 : ¬ (b - q = 1) := fun z => c130 (show nI b - nI q = nI 1 by rw [pk_sub (by omega), z])
                          refine Vx.subL (lv' := [(0, .ref h), (1, .int (nI kd)), (6, .int (bI fits)), (7, .int (nI told))]) [0, 1, 2, 3] rfl ?_
                          exact hJ157 (upd (upd (upd (upd (upd (upd s4 12 (nI q)) 13 (nI q)) 12 (nI b)) 14 (nI b)) 17 (nI q)) 18 (nI b)) ⟨hg4.trans (((((((gq.refl.upd (by decide)).upd (by decide)).upd (by decide)).upd (by decide)).upd (by decide)).upd (by decide))), h411, rfl, rfl, rfl, h416, c110, c113, by rw [sl_oneL hbl (by decide)]; exact decide_eq_false (fun z => c130 z.1)⟩
                        · skip
                          have c130 : b - q = 1 := by
                            have c130 : nI b - nI q = nI 1 := c130
                            rw [pk_sub (by omega)] at c130
                            exact (nI_eq (by omega) (by omega)).mp c130
                          refine And.intro rfl ?_
                          refine mo_call hC (c_Mo_charAt l D tys tc hty h ar now (upd (upd (upd (upd (upd (upd s4 12 (nI q)) 13 (nI q)) 12 (nI b)) 14 (nI b)) 17 (nI q)) 18 (nI b)) ai al F T b ((((((hM4.at (p2 := q) (by omega)).ot (by decide) (by decide)).at (p2 := b) (by omega)).ot (by decide) (by decide)).ot (by decide) (by decide)).ot (by decide) (by decide)) q (by omega)) wm_Mo_charAt wl_Mo_111 wi_Mo_charAt ws_Mo_Mo_charAt ⟨by decide, by decide⟩ rfl rfl (Nat.le_of_ble_eq_true rfl) ⟨Nat.zero_le _, Nat.zero_le _⟩ (fun r' w1 hp => ?_)
                          obtain ⟨rfl, rfl⟩ := hp
                          refine mo_calls hC (c_Mo_lower l D tys tc hty (T.getD q 0) (T_lt hT _)) wm_Mo_lower wl_Mo_139 wt_Mo_lower ⟨by decide, by decide⟩ rfl rfl (Nat.le_of_ble_eq_true rfl) ⟨Nat.zero_le _, Nat.zero_le _⟩ (fun r' hp => ?_)
                          subst hp
                          refine And.intro (fun c137 => ?_) (fun c137 => ?_)
                          · skip
                            have c137 : ¬ (lwr (T.getD q 0) = 113) := fun z => c137 (by rw [z]; rfl)
                            refine Vx.subL (lv' := [(0, .ref h), (1, .int (nI kd)), (6, .int (bI fits)), (7, .int (nI told))]) [0, 1, 2, 3] rfl ?_
                            exact hJ157 (upd (upd (upd (upd (upd (upd s4 12 (nI q)) 13 (nI q)) 12 (nI b)) 14 (nI b)) 17 (nI q)) 18 (nI b)) ⟨hg4.trans (((((((gq.refl.upd (by decide)).upd (by decide)).upd (by decide)).upd (by decide)).upd (by decide)).upd (by decide))), h411, rfl, rfl, rfl, h416, c110, c113, by rw [sl_oneL hbl (by decide)]; exact decide_eq_false (fun z => c137 z.2)⟩
                          · skip
                            have c137 : lwr (T.getD q 0) = 113 := (nI_eq (by have := lwr_lt (T_lt hT q); omega) (by omega)).mp c137
                            have hal : alikeL (sl T q b) [113] = true := by rw [sl_oneL hbl (by decide)]; exact decide_eq_true ⟨c130, c137⟩
                            refine mo_call hC (c_Mo_take l D tys tc hty h ar now (upd (upd (upd (upd (upd (upd s4 12 (nI q)) 13 (nI q)) 12 (nI b)) 14 (nI b)) 17 (nI q)) 18 (nI b)) ai al F T b ((((((hM4.at (p2 := q) (by omega)).ot (by decide) (by decide)).at (p2 := b) (by omega)).ot (by decide) (by decide)).ot (by decide) (by decide)).ot (by decide) (by decide)) 61 (by decide)) wm_Mo_take wl_Mo_153 wi_Mo_take ws_Mo_Mo_take ⟨by decide, by decide⟩ rfl rfl (Nat.le_of_ble_eq_true rfl) ⟨Nat.zero_le _, Nat.zero_le _⟩ (fun r' w1 hp => ?_)
                            obtain ⟨rfl, rfl⟩ := hp
                            refine And.intro (fun c141 => ?_) (fun c141 => ?_)
                            · skip
                              have c141 : ¬ T.getD b 0 = 61 := of_decide_eq_false (bI_eq c141)
                              refine vx_gon hC hFt hini (vx_ends hC hr hlk) jc_Mo_mediaRange 155 2 (by decide) rfl ?_
                              refine And.intro (trivial) (And.intro ?_ (And.intro (Nat.le_refl _) (Nat.le_refl _)))
                              rw [prm_q c110 hq hb hbl c113 hal, wt_no c141] at hres
                              subst hres
                              exact ⟨upd (upd (upd (upd (upd (upd (upd s4 12 (nI q)) 13 (nI q)) 12 (nI b)) 14 (nI b)) 17 (nI q)) 18 (nI b)) 12 (nI (if T.getD b 0 = 61 then b + 1 else b)), rfl, hg4.trans ((((((((gq.refl.upd (by decide)).upd (by decide)).upd (by decide)).upd (by decide)).upd (by decide)).upd (by decide)).upd (by decide))), h411, rfl⟩
                            · skip
                              have c141 : T.getD b 0 = 61 := of_decide_eq_true (bI_ne c141)
                              rw [if_pos c141]
                              have hinb := T_in (T := T) (k := b) (by omega)
                              refine mo_call hC (c_Mo_weight l D tys tc hty h ar now (upd (upd (upd (upd (upd (upd (upd s4 12 (nI q)) 13 (nI q)) 12 (nI b)) 14 (nI b)) 17 (nI q)) 18 (nI b)) 12 (nI (b + 1))) ai al F T (b + 1) (((((((hM4.at (p2 := q) (by omega)).ot (by decide) (by decide)).at (p2 := b) (by omega)).ot (by decide) (by decide)).ot (by decide) (by decide)).ot (by decide) (by decide)).at (by omega))) wm_Mo_weight wl_Mo_163 wi_Mo_weight ws_Mo_Mo_weight ⟨by decide, by decide⟩ rfl rfl (Nat.le_of_ble_eq_true rfl) ⟨Nat.zero_le _, Nat.zero_le _⟩ (fun r' w1 hp => ?_)
                              obtain ⟨rfl, s9, rfl, hf9, hf11, hx9⟩ := wgP.fq hp
                              refine And.intro (fun c144 => ?_) (fun c144 => ?_)
                              · skip
                                have c144 := bI_eq c144
                                refine vx_gon hC hFt hini (vx_ends hC hr hlk) jc_Mo_mediaRange 155 2 (by decide) rfl ?_
                                refine And.intro (trivial) (And.intro ?_ (And.intro (Nat.le_refl _) (Nat.le_refl _)))
                                rw [prm_q c110 hq hb hbl c113 hal, wt_none c141 (Option.isNone_iff_eq_none.mp (by rw [← Option.not_isSome, c144]; rfl))] at hres
                                subst hres
                                exact ⟨s9, rfl, hg4.trans (((((((((gq.refl.upd (by decide)).upd (by decide)).upd (by decide)).upd (by decide)).upd (by decide)).upd (by decide)).upd (by decide))).trans hf9), hf11.trans h411, rfl⟩
                              · skip
                                have c144 := bI_ne c144
                                refine And.intro (fun c149 => ?_) (fun c149 => ?_)
                                · skip
                                  obtain rfl : fits = false := bI_eq c149
                                  refine vx_gon hC hFt hini (vx_ends hC hr hlk) jc_Mo_mediaRange 152 5 (by decide) rfl ?_
                                  refine vx_gon hC hFt hini (vx_ends hC hr hlk) jc_Mo_mediaRange 156 1 (by decide) rfl ?_
                                  refine And.intro (trivial) (And.intro ?_ (And.intro (Nat.le_refl _) (Nat.le_refl _)))
                                  obtain ⟨v, hv⟩ := Option.isSome_iff_exists.mp c144
                                  obtain ⟨hw1, hw2, hw3, hw4⟩ := wt_some c141 hv
                                  rw [prm_q c110 hq hb hbl c113 hal, hw1] at hres
                                  subst hres
                                  have hx := hx9 v hv
                                  exact ⟨s9, rfl, hg4.trans (((((((((gq.refl.upd (by decide)).upd (by decide)).upd (by decide)).upd (by decide)).upd (by decide)).upd (by decide)).upd (by decide))).trans hf9), hf11.trans h411, by rw [← val8 false]; rfl, by show told ≤ 100; omega, hw2, v.2, hw3, rfl, hx.1, hx.2, by omega⟩
                                · skip
                                  obtain rfl : fits = true := bI_ne c149
                                  refine vx_gon hC hFt hini (vx_ends hC hr hlk) jc_Mo_mediaRange 153 4 (by decide) rfl ?_
                                  refine vx_gon hC hFt hini (vx_ends hC hr hlk) jc_Mo_mediaRange 156 1 (by decide) rfl ?_
                                  refine And.intro (trivial) (And.intro ?_ (And.intro (Nat.le_refl _) (Nat.le_refl _)))
                                  obtain ⟨v, hv⟩ := Option.isSome_iff_exists.mp c144
                                  obtain ⟨hw1, hw2, hw3, hw4⟩ := wt_some c141 hv
                                  rw [prm_q c110 hq hb hbl c113 hal, hw1] at hres
                                  subst hres
                                  have hx := hx9 v hv
                                  exact ⟨s9, rfl, hg4.trans (((((((((gq.refl.upd (by decide)).upd (by decide)).upd (by decide)).upd (by decide)).upd (by decide)).upd (by decide)).upd (by decide))).trans hf9), hf11.trans h411, by rw [← val8 true]; rfl, by show told ≤ 100; omega, hw2, v.2, hw3, rfl, hx.1, hx.2, by omega⟩
                      · skip
                        have c113 : ¬ q < b := of_decide_eq_false (bI_eq c113)
                        refine And.intro (trivial) (And.intro ?_ (And.intro (Nat.le_refl _) (Nat.le_refl _)))
                        rw [prm_nil c110 hq hb hbl c113] at hres
                        subst hres
                        exact ⟨(upd (upd (upd (upd s4 12 (nI q)) 13 (nI q)) 12 (nI b)) 14 (nI b)), rfl, hg4.trans (((((gq.refl.upd (by decide)).upd (by decide)).upd (by decide)).upd (by decide))), h411, rfl⟩
                  · rintro s5 ⟨hg5, h511, h512, h517, h518, h516, c110, c113, hal⟩
                    have hbl : b ≤ T.length := hbl.resolve_right (fun z => z c110)
                    obtain ⟨hq1, hq2⟩ := hqb c110
                    have hM5 : mdS s5 ai F T b := hM.gq h511 h512 (by omega)
                    refine vx_cut (α := ((Nat → Int32) × Nat × Bool)) 364 (fun u => gq sc u.1 ∧ u.1 11 = sc 11 ∧ u.1 12 = nI u.2.1 ∧ u.1 16 = nI 1000 ∧ u.2.1 ≤ T.length ∧ T.drop u.2.1 = (asg (T.drop b)).2.1 ∧ (asg (T.drop b)).1 = true ∧ u.2.2 = (fits && (alikeL (sl T q b) (pnL kd) && sameL (asg (T.drop b)).2.2 (vnL kd)))) (fun u => [(0, .ref h), (1, .int (nI kd)), (6, .int (bI u.2.2)), (7, .int (nI told))]) (fun u => []) (fun u => mdW tc h ar now u.1 ai al) (fun hJ185 => ?_) ?_
                    · skip
                      refine vx_gon hC hFt hini (vx_ends hC hr hlk) jc_Mo_mediaRange 157 28 (by decide) rfl ?_
                      refine mo_call hC (c_Mo_assigned l D tys tc hty h ar now s5 ai al F T b hM5) wm_Mo_assigned wl_Mo_196 wi_Mo_assigned ws_Mo_Mo_assigned ⟨by decide, by decide⟩ rfl rfl (Nat.le_of_ble_eq_true rfl) ⟨Nat.zero_le _, Nat.zero_le _⟩ (fun r' w1 hp => ?_)
                      obtain ⟨rfl, s6, rfl, hf6, hx6⟩ := hp
                      refine And.intro (fun c159 => ?_) (fun c159 => ?_)
                      · skip
                        have c159 : (asg (T.drop b)).1 = true := bI_ne c159
                        obtain ⟨p6, hp6l, hp6, hx6, h619⟩ := hx6 c159
                        have hM6 := hM5.fq hf6 hx6 (by omega)
                        refine vx_gon hC hFt hini (vx_ends hC hr hlk) jc_Mo_mediaRange 162 23 (by decide) rfl ?_
                        refine And.intro (fun c163 => ?_) (fun c163 => ?_)
                        · skip
                          obtain rfl : fits = false := bI_eq c163
                          refine vx_gon hC hFt hini (vx_ends hC hr hlk) jc_Mo_mediaRange 183 2 (by decide) rfl ?_
                          refine Vx.subL (lv' := [(0, .ref h), (1, .int (nI kd)), (6, .int (bI false)), (7, .int (nI told))]) [1, 2, 0, 3] rfl ?_
                          exact hJ185 (s6, p6, false) ⟨hg5.trans hf6.gq, (hf6 11 (by decide) (by decide) (by decide) (by decide)).trans h511, hx6, (hf6 16 (by decide) (by decide) (by decide) (by decide)).trans h516, hp6l, hp6, c159, rfl⟩
                        · skip
                          obtain rfl : fits = true := bI_ne c163
                          refine And.intro (fun c166 => ?_) (fun c166 => ?_)
                          · skip
                            have c166 : ¬ (kd = 4) := fun z => c166 (by rw [z]; rfl)
                            refine vx_gon hC hFt hini (vx_ends hC hr hlk) jc_Mo_mediaRange 183 2 (by decide) rfl ?_
                            refine Vx.subL (lv' := [(0, .ref h), (1, .int (nI kd)), (6, .int (bI false)), (7, .int (nI told))]) [1, 2, 0, 3] rfl ?_
                            exact hJ185 (s6, p6, false) ⟨hg5.trans hf6.gq, (hf6 11 (by decide) (by decide) (by decide) (by decide)).trans h511, hx6, (hf6 16 (by decide) (by decide) (by decide) (by decide)).trans h516, hp6l, hp6, c159, by rw [show alikeL (sl T q b) (pnL kd) = false by rw [pnL, if_neg c166]; exact decide_eq_false (fun z => absurd ((sl_ne hbl).mp (List.map_eq_nil_iff.mp z)) (by omega))]; rfl⟩
                          · skip
                            have c166 : kd = 4 := (nI_eq (a := kd) (b := 4) (by omega) (by omega)).mp c166
                            refine And.intro rfl ?_
                            refine And.intro (fun c169 => ?_) (fun c169 => ?_)
                            · skip
                              rw [h619] at c169
                              have c169 : decide ((asg (T.drop b)).2.2 = [49]) = false := bI_eq c169
                              refine vx_gon hC hFt hini (vx_ends hC hr hlk) jc_Mo_mediaRange 183 2 (by decide) rfl ?_
                              refine Vx.subL (lv' := [(0, .ref h), (1, .int (nI kd)), (6, .int (bI false)), (7, .int (nI told))]) [1, 2, 0, 3] rfl ?_
                              exact hJ185 (s6, p6, false) ⟨hg5.trans hf6.gq, (hf6 11 (by decide) (by decide) (by decide) (by decide)).trans h511, hx6, (hf6 16 (by decide) (by decide) (by decide) (by decide)).trans h516, hp6l, hp6, c159, by rw [show sameL (asg (T.drop b)).2.2 (vnL kd) = false by rw [vnL, if_pos c166]; exact c169, Bool.and_false]; rfl⟩
                            · skip
                              rw [h619] at c169
                              have c169 : decide ((asg (T.drop b)).2.2 = [49]) = true := bI_ne c169
                              refine And.intro rfl ?_
                              refine And.intro rfl ?_
                              refine And.intro rfl ?_
                              refine And.intro rfl (And.intro rfl (And.intro (vp_in_nI (n := 7) (N := 15) (by decide) (by decide)) ?_))
                              refine mo_call hC (c_Mo_isWord l D tys tc hty h ar now s6 ai al F T p6 hM6 (al 13 7) (WDS.getD 7 []) (hWd 7 (by decide)) q b (by omega) (by omega)) wm_Mo_isWord wl_Mo_146 wi_Mo_isWord ws_Mo_Mo_isWord ⟨by decide, by decide⟩ rfl (show [Value.long (al 13 7), Value.int (s6 18), Value.int (s6 17), Value.ref h] = [Value.long (al 13 7), Value.int (nI b), Value.int (nI q), Value.ref h] by rw [hf6 17 (by decide) (by decide) (by decide) (by decide), hf6 18 (by decide) (by decide) (by decide) (by decide), h517, h518]) (Nat.le_of_ble_eq_true rfl) ⟨Nat.zero_le _, Nat.zero_le _⟩ (fun r' w1 hp => ?_)
                              obtain ⟨rfl, rfl⟩ := hp
                              rw [syq_sl (by omega) hbl]
                              refine And.intro (fun c180 => ?_) (fun c180 => ?_)
                              · skip
                                have c180 : alikeL (sl T q b) [108, 101, 118, 101, 108] = false := bI_eq c180
                                refine vx_gon hC hFt hini (vx_ends hC hr hlk) jc_Mo_mediaRange 183 2 (by decide) rfl ?_
                                refine Vx.subL (lv' := [(0, .ref h), (1, .int (nI kd)), (6, .int (bI false)), (7, .int (nI told))]) [1, 2, 0, 3] rfl ?_
                                exact hJ185 (s6, p6, false) ⟨hg5.trans hf6.gq, (hf6 11 (by decide) (by decide) (by decide) (by decide)).trans h511, hx6, (hf6 16 (by decide) (by decide) (by decide) (by decide)).trans h516, hp6l, hp6, c159, by rw [show sameL (asg (T.drop b)).2.2 (vnL kd) = true by rw [vnL, if_pos c166]; exact c169, Bool.and_true, show alikeL (sl T q b) (pnL kd) = false by rw [pnL, if_pos c166]; exact c180]; rfl⟩
                              · skip
                                have c180 : alikeL (sl T q b) [108, 101, 118, 101, 108] = true := bI_ne c180
                                refine vx_gon hC hFt hini (vx_ends hC hr hlk) jc_Mo_mediaRange 184 1 (by decide) rfl ?_
                                refine Vx.subL (lv' := [(0, .ref h), (1, .int (nI kd)), (6, .int (bI true)), (7, .int (nI told))]) [1, 2, 0, 3] rfl ?_
                                exact hJ185 (s6, p6, true) ⟨hg5.trans hf6.gq, (hf6 11 (by decide) (by decide) (by decide) (by decide)).trans h511, hx6, (hf6 16 (by decide) (by decide) (by decide) (by decide)).trans h516, hp6l, hp6, c159, by rw [show sameL (asg (T.drop b)).2.2 (vnL kd) = true by rw [vnL, if_pos c166]; exact c169, Bool.and_true, show alikeL (sl T q b) (pnL kd) = true by rw [pnL, if_pos c166]; exact c180]; rfl⟩
                      · skip
                        have c159 : (asg (T.drop b)).1 = false := bI_eq c159
                        refine And.intro (trivial) (And.intro ?_ (And.intro (Nat.le_refl _) (Nat.le_refl _)))
                        rw [prm_as c110 hq hb hbl c113 hal, if_neg (by rw [c159]; decide)] at hres
                        subst hres
                        exact ⟨s6, rfl, hg5.trans hf6.gq, (hf6 11 (by decide) (by decide) (by decide) (by decide)).trans h511, rfl⟩
                    · rintro ⟨s6, p6, f6⟩ ⟨hg6, h611, h612, h616, hp6l, hp6, c159, hf6⟩
                      have h612 : s6 12 = nI p6 := h612
                      have hp6l : p6 ≤ T.length := hp6l
                      have hp6 : T.drop p6 = (asg (T.drop b)).2.1 := hp6
                      have hf6 : f6 = _ := hf6
                      have hpr := asg_prog (T := T) (b := b) (p := p6) hbl hp6l c159 hp6
                      refine vx_go hC hFt hini (vx_ends hC hr hlk) jc_Mo_mediaRange 185 (by decide) rfl ?_
                      refine Vx.subL (lv' := [(0, .ref h), (1, .int (nI kd)), (6, .int (bI f6)), (7, .int (nI told + 1))]) [1, 2, 3, 0] rfl ?_
                      rw [nI_1]
                      exact ih f6 (told + 1) s6 hg6 h611 h616 p6 h612 hp6l (by omega) (by rw [← hres, prm_as c110 hq hb hbl c113 hal, if_pos c159, hf6, hp6]) (by omega) (by omega)
