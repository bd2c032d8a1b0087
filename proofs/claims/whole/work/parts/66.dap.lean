/-! THE CLASS: Dates, its pieces, by program (wip/whole/gen/p66.py) -/
theorem iI_m1 {v : Option Nat} (hv : ∀ a, v = some a → a < 2 ^ 31) : iI v = -1 ↔ v = none := by
  cases v with
  | none => exact ⟨fun _ => rfl, fun _ => rfl⟩
  | some a => exact ⟨fun z => absurd z (nI_nm1 (hv a rfl)), fun z => by cases z⟩
theorem dgs_l {k : Nat} {rs : List Nat} (hk : k ≤ 9) (a : Nat) (h : (dgs k 0 rs).1 = some a) : a < 2 ^ 31 := by
  have h1 := dgs_lt (show dgs k 0 rs = (some a, (dgs k 0 rs).2) by rw [← h])
  have h2 : 10 ^ k ≤ 10 ^ 9 := Nat.pow_le_pow_right (by decide) hk
  omega
theorem nm_l {W rs : List Nat} (hW : W.length ≤ 1000) (a : Nat) (h : (nmAt W rs).1 = some a) : a < 2 ^ 31 := by
  have h1 := nmO_lt (W := W) (rs := rs) (u := (a, (nmAt W rs).2)) 400 (by omega) (by unfold nmO; rw [h]; rfl)
  have h2 : a < 400 := h1
  omega
set_option maxRecDepth 100000 in
set_option maxHeartbeats 4000000 in
theorem c_Da_takeDay (l : Launch) (D : va_G) (tys : List (ClassId × FieldType)) (tc : Nat → ClassId) (hty : ∀ i : Nat, i < 4 → tys[i]? = some (tc i, vx_ty i)) (h ra sa : Nat) (T rs : List Nat) (sd : Nat → Int32) (ss : Nat) (hT : isT T) (hs : rs <:+ T) (K : Nat → Nat) (ly y0 mo0 d0 s0 : Int32) : Kt l y_Da_takeDay (yw y_Da_takeDay b_Da_takeDay 1 (some .boolean)) 1 23 0 0 D cls tys (fun A U H => rdF ra T A U H ∧ gF K A U H) [.ref h] (rdW tc 3 h ra sa [.int (ly), .int (y0), .int (mo0), .int (d0), .int (s0)] T rs sd ss) (fun r w => r = some (.int (bI (dgs 2 0 rs).1.isSome)) ∧ w = (rdW tc 3 h ra sa [.int (ly), .int (y0), .int (mo0), .int (iI (dgs 2 0 rs).1), .int (s0)] T (dgs 2 0 rs).2 sd ss)) := by
  refine Kt.of (ro_and (rdF_ro ra T) (gF_ro K)) (by decide) rfl hty (Nat.le_of_ble_eq_true rfl) ?_
  intro p e s m args below meth c0 A hC hr hlk hnm hF
  have hFt : vx_Ft y_Da_takeDay.cls (yw y_Da_takeDay b_Da_takeDay 1 (some .boolean)) cls cty ft_Da := ft_of (fun w h => List.mem_cons_of_mem _ h) fl_Da_in ft_Da_b
  have hini : false = true → meth.name = "<init>" := fun h => by cases h
  obtain ⟨hrd, hg⟩ := hF
  have hTl := hT.1
  refine vx_go hC hFt hini (vx_ends hC hr hlk) jc_Da_takeDay 0 (by decide) rfl ?_
  refine ux_call hC (c_Rd_takeDigits l D tys tc hty 3 (by decide) h ra sa [.int (ly), .int (y0), .int (mo0), .int (d0), .int (s0)] T rs sd ss hT hs 2 (by decide)) hrd (cw_U wm_Rd_takeDigits wl_Da_98 wsm_Da_takeDigits wi_Rd_takeDigits ws_Da_Da_takeDigits rfl hC.2.2.2.2.1 ⟨by decide, by decide⟩) rfl rfl rfl rfl (Nat.le_of_ble_eq_true rfl) ⟨Nat.zero_le _, Nat.zero_le _⟩ (fun r' w1 hp => ?_)
  obtain ⟨rfl, rfl⟩ := hp
  refine And.intro rfl (And.intro (And.intro rfl rfl) ?_)
  refine And.intro rfl ?_
  refine And.intro (fun c8 => ?_) (fun c8 => ?_)
  · skip
    have c8 : (dgs 2 0 rs).1 = none := (iI_m1 (dgs_l (by decide))).mp c8
    refine vx_go hC hFt hini (vx_ends hC hr hlk) jc_Da_takeDay 11 (by decide) rfl ?_
    refine And.intro (rfl) (And.intro ?_ (And.intro (Nat.le_refl _) (Nat.le_refl _)))
    rw [show (dgs 2 0 rs).1.isSome = false by rw [c8]; rfl]
    exact And.intro rfl rfl
  · skip
    have c8 : ∃ a, (dgs 2 0 rs).1 = some a := by
      cases h9 : (dgs 2 0 rs).1 with
      | none => rw [h9] at c8; exact absurd rfl c8
      | some a => exact ⟨a, rfl⟩
    refine vx_go hC hFt hini (vx_ends hC hr hlk) jc_Da_takeDay 12 (by decide) rfl ?_
    refine And.intro (rfl) (And.intro ?_ (And.intro (Nat.le_refl _) (Nat.le_refl _)))
    rw [show (dgs 2 0 rs).1.isSome = true by obtain ⟨a, ha⟩ := c8; rw [ha]; rfl]
    exact And.intro rfl rfl
set_option maxRecDepth 100000 in
set_option maxHeartbeats 4000000 in
theorem c_Da_takeYear (l : Launch) (D : va_G) (tys : List (ClassId × FieldType)) (tc : Nat → ClassId) (hty : ∀ i : Nat, i < 4 → tys[i]? = some (tc i, vx_ty i)) (h ra sa : Nat) (T rs : List Nat) (sd : Nat → Int32) (ss : Nat) (hT : isT T) (hs : rs <:+ T) (K : Nat → Nat) (ly y0 mo0 d0 s0 : Int32) : Kt l y_Da_takeYear (yw y_Da_takeYear b_Da_takeYear 1 (some .boolean)) 1 23 0 0 D cls tys (fun A U H => rdF ra T A U H ∧ gF K A U H) [.ref h] (rdW tc 3 h ra sa [.int (ly), .int (y0), .int (mo0), .int (d0), .int (s0)] T rs sd ss) (fun r w => r = some (.int (bI (dgs 4 0 rs).1.isSome)) ∧ w = (rdW tc 3 h ra sa [.int (ly), .int (iI (dgs 4 0 rs).1), .int (mo0), .int (d0), .int (s0)] T (dgs 4 0 rs).2 sd ss)) := by
  refine Kt.of (ro_and (rdF_ro ra T) (gF_ro K)) (by decide) rfl hty (Nat.le_of_ble_eq_true rfl) ?_
  intro p e s m args below meth c0 A hC hr hlk hnm hF
  have hFt : vx_Ft y_Da_takeYear.cls (yw y_Da_takeYear b_Da_takeYear 1 (some .boolean)) cls cty ft_Da := ft_of (fun w h => List.mem_cons_of_mem _ h) fl_Da_in ft_Da_b
  have hini : false = true → meth.name = "<init>" := fun h => by cases h
  obtain ⟨hrd, hg⟩ := hF
  have hTl := hT.1
  refine vx_go hC hFt hini (vx_ends hC hr hlk) jc_Da_takeYear 0 (by decide) rfl ?_
  refine ux_call hC (c_Rd_takeDigits l D tys tc hty 3 (by decide) h ra sa [.int (ly), .int (y0), .int (mo0), .int (d0), .int (s0)] T rs sd ss hT hs 4 (by decide)) hrd (cw_U wm_Rd_takeDigits wl_Da_98 wsm_Da_takeDigits wi_Rd_takeDigits ws_Da_Da_takeDigits rfl hC.2.2.2.2.1 ⟨by decide, by decide⟩) rfl rfl rfl rfl (Nat.le_of_ble_eq_true rfl) ⟨Nat.zero_le _, Nat.zero_le _⟩ (fun r' w1 hp => ?_)
  obtain ⟨rfl, rfl⟩ := hp
  refine And.intro rfl (And.intro (And.intro rfl rfl) ?_)
  refine And.intro rfl ?_
  refine And.intro (fun c8 => ?_) (fun c8 => ?_)
  · skip
    have c8 : (dgs 4 0 rs).1 = none := (iI_m1 (dgs_l (by decide))).mp c8
    refine vx_go hC hFt hini (vx_ends hC hr hlk) jc_Da_takeYear 11 (by decide) rfl ?_
    refine And.intro (rfl) (And.intro ?_ (And.intro (Nat.le_refl _) (Nat.le_refl _)))
    rw [show (dgs 4 0 rs).1.isSome = false by rw [c8]; rfl]
    exact And.intro rfl rfl
  · skip
    have c8 : ∃ a, (dgs 4 0 rs).1 = some a := by
      cases h9 : (dgs 4 0 rs).1 with
      | none => rw [h9] at c8; exact absurd rfl c8
      | some a => exact ⟨a, rfl⟩
    refine vx_go hC hFt hini (vx_ends hC hr hlk) jc_Da_takeYear 12 (by decide) rfl ?_
    refine And.intro (rfl) (And.intro ?_ (And.intro (Nat.le_refl _) (Nat.le_refl _)))
    rw [show (dgs 4 0 rs).1.isSome = true by obtain ⟨a, ha⟩ := c8; rw [ha]; rfl]
    exact And.intro rfl rfl
set_option maxRecDepth 100000 in
set_option maxHeartbeats 4000000 in
theorem c_Da_takeMonth (l : Launch) (D : va_G) (tys : List (ClassId × FieldType)) (tc : Nat → ClassId) (hty : ∀ i : Nat, i < 4 → tys[i]? = some (tc i, vx_ty i)) (h ra sa : Nat) (T rs : List Nat) (sd : Nat → Int32) (ss : Nat) (hT : isT T) (hs : rs <:+ T) (K : Nat → Nat) (ly y0 mo0 d0 s0 : Int32) : Kt l y_Da_takeMonth (yw y_Da_takeMonth b_Da_takeMonth 1 (some .boolean)) 5 108 0 0 D cls tys (fun A U H => rdF ra T A U H ∧ gF K A U H) [.ref h] (rdW tc 3 h ra sa [.int (ly), .int (y0), .int (mo0), .int (d0), .int (s0)] T rs sd ss) (fun r w => r = some (.int (bI (nmAt monL rs).1.isSome)) ∧ w = (rdW tc 3 h ra sa [.int (ly), .int (y0), .int (iI (nmAt monL rs).1), .int (d0), .int (s0)] T (nmAt monL rs).2 sd ss)) := by
  refine Kt.of (ro_and (rdF_ro ra T) (gF_ro K)) (by decide) rfl hty (Nat.le_of_ble_eq_true rfl) ?_
  intro p e s m args below meth c0 A hC hr hlk hnm hF
  have hFt : vx_Ft y_Da_takeMonth.cls (yw y_Da_takeMonth b_Da_takeMonth 1 (some .boolean)) cls cty ft_Da := ft_of (fun w h => List.mem_cons_of_mem _ h) fl_Da_in ft_Da_b
  have hini : false = true → meth.name = "<init>" := fun h => by cases h
  obtain ⟨hrd, hg⟩ := hF
  have hTl := hT.1
  refine vx_go hC hFt hini (vx_ends hC hr hlk) jc_Da_takeMonth 0 (by decide) rfl ?_
  refine ⟨_, Or.inr (Or.inr ⟨_, _, rfl, (hg.1 12 _ rfl).1⟩), ?_⟩
  refine ux_call hC (c_Rd_takeName l D tys tc hty 3 (by decide) h ra sa [.int (ly), .int (y0), .int (mo0), .int (d0), .int (s0)] T rs sd ss hT hs (K 12) monL (by exact ⟨by decide, by decide⟩) (by decide)) ⟨hrd, (hg.1 12 _ rfl).2⟩ (cw_U wm_Rd_takeName wl_Da_28 wsm_Da_takeName wi_Rd_takeName ws_Da_Da_takeName rfl hC.2.2.2.2.1 ⟨by decide, by decide⟩) rfl rfl rfl rfl (Nat.le_of_ble_eq_true rfl) ⟨Nat.zero_le _, Nat.zero_le _⟩ (fun r' w1 hp => ?_)
  obtain ⟨rfl, rfl⟩ := hp
  refine And.intro rfl (And.intro (And.intro rfl rfl) ?_)
  refine And.intro rfl ?_
  refine And.intro (fun c8 => ?_) (fun c8 => ?_)
  · skip
    have c8 : (nmAt monL rs).1 = none := (iI_m1 (nm_l (by decide))).mp c8
    refine vx_go hC hFt hini (vx_ends hC hr hlk) jc_Da_takeMonth 11 (by decide) rfl ?_
    refine And.intro (rfl) (And.intro ?_ (And.intro (Nat.le_refl _) (Nat.le_refl _)))
    rw [show (nmAt monL rs).1.isSome = false by rw [c8]; rfl]
    exact And.intro rfl rfl
  · skip
    have c8 : ∃ a, (nmAt monL rs).1 = some a := by
      cases h9 : (nmAt monL rs).1 with
      | none => rw [h9] at c8; exact absurd rfl c8
      | some a => exact ⟨a, rfl⟩
    refine vx_go hC hFt hini (vx_ends hC hr hlk) jc_Da_takeMonth 12 (by decide) rfl ?_
    refine And.intro (rfl) (And.intro ?_ (And.intro (Nat.le_refl _) (Nat.le_refl _)))
    rw [show (nmAt monL rs).1.isSome = true by obtain ⟨a, ha⟩ := c8; rw [ha]; rfl]
    exact And.intro rfl rfl
set_option maxRecDepth 100000 in
set_option maxHeartbeats 4000000 in
theorem c_Da_takeShortYear (l : Launch) (D : va_G) (tys : List (ClassId × FieldType)) (tc : Nat → ClassId) (hty : ∀ i : Nat, i < 4 → tys[i]? = some (tc i, vx_ty i)) (h ra sa : Nat) (T rs : List Nat) (sd : Nat → Int32) (ss : Nat) (hT : isT T) (hs : rs <:+ T) (K : Nat → Nat) (lyn : Nat) (hly : lyn < 10000) (y0 mo0 d0 s0 : Int32) : Kt l y_Da_takeShortYear (yw y_Da_takeShortYear b_Da_takeShortYear 2 (some .boolean)) 1 23 0 0 D cls tys (fun A U H => rdF ra T A U H ∧ gF K A U H) [.ref h] (rdW tc 3 h ra sa [.int (nI lyn), .int (y0), .int (mo0), .int (d0), .int (s0)] T rs sd ss) (fun r w => r = some (.int (bI (dgs 2 0 rs).1.isSome)) ∧ ∃ y2, w = (rdW tc 3 h ra sa [.int (nI lyn), .int (y2), .int (mo0), .int (d0), .int (s0)] T (dgs 2 0 rs).2 sd ss) ∧ ∀ v, (dgs 2 0 rs).1 = some v → y2 = nI (shy lyn v)) := by
  refine Kt.of (ro_and (rdF_ro ra T) (gF_ro K)) (by decide) rfl hty (Nat.le_of_ble_eq_true rfl) ?_
  intro p e s m args below meth c0 A hC hr hlk hnm hF
  have hFt : vx_Ft y_Da_takeShortYear.cls (yw y_Da_takeShortYear b_Da_takeShortYear 2 (some .boolean)) cls cty ft_Da := ft_of (fun w h => List.mem_cons_of_mem _ h) fl_Da_in ft_Da_b
  have hini : false = true → meth.name = "<init>" := fun h => by cases h
  obtain ⟨hrd, hg⟩ := hF
  have hTl := hT.1
  refine vx_go hC hFt hini (vx_ends hC hr hlk) jc_Da_takeShortYear 0 (by decide) rfl ?_
  refine ux_call hC (c_Rd_takeDigits l D tys tc hty 3 (by decide) h ra sa [.int (nI lyn), .int (y0), .int (mo0), .int (d0), .int (s0)] T rs sd ss hT hs 2 (by decide)) hrd (cw_U wm_Rd_takeDigits wl_Da_98 wsm_Da_takeDigits wi_Rd_takeDigits ws_Da_Da_takeDigits rfl hC.2.2.2.2.1 ⟨by decide, by decide⟩) rfl rfl rfl rfl (Nat.le_of_ble_eq_true rfl) ⟨Nat.zero_le _, Nat.zero_le _⟩ (fun r' w1 hp => ?_)
  obtain ⟨rfl, rfl⟩ := hp
  refine And.intro rfl ?_
  refine And.intro (fun c10 => ?_) (fun c10 => ?_)
  · skip
    refine vx_go hC hFt hini (vx_ends hC hr hlk) jc_Da_takeShortYear 15 (by decide) rfl ?_
    refine And.intro rfl (And.intro (And.intro rfl rfl) ?_)
    refine And.intro (fun c21 => ?_) (fun c21 => ?_)
    · skip
      have c21 : (dgs 2 0 rs).1 = none := (iI_m1 (dgs_l (by decide))).mp c21
      refine vx_go hC hFt hini (vx_ends hC hr hlk) jc_Da_takeShortYear 24 (by decide) rfl ?_
      refine And.intro (rfl) (And.intro ?_ (And.intro (Nat.le_refl _) (Nat.le_refl _)))
      rw [show (dgs 2 0 rs).1.isSome = false by rw [c21]; rfl]
      exact ⟨rfl, _, rfl, (fun v hv => by rw [c21] at hv; cases hv)⟩
    · skip
      have c21 : ∃ a, (dgs 2 0 rs).1 = some a := by
        cases h9 : (dgs 2 0 rs).1 with
        | none => rw [h9] at c21; exact absurd rfl c21
        | some a => exact ⟨a, rfl⟩
      refine vx_go hC hFt hini (vx_ends hC hr hlk) jc_Da_takeShortYear 25 (by decide) rfl ?_
      refine And.intro (rfl) (And.intro ?_ (And.intro (Nat.le_refl _) (Nat.le_refl _)))
      obtain ⟨a, ha⟩ := c21
      rw [ha]
      refine ⟨rfl, _, rfl, (fun v hv => ?_)⟩
      obtain rfl := Option.some.inj hv
      have hal : a < 100 := by have := dgs_lt (show dgs 2 0 rs = (some a, (dgs 2 0 rs).2) by rw [← ha]); omega
      rw [ha] at c10
      unfold shy
      rw [if_neg (Nat.not_lt.mpr ((nI_leI (a := 2000 + a) (b := lyn) (by omega) (by omega)).mp (by rw [← nI_add]; exact c10))), ← nI_add]; rfl
  · skip
    refine vx_go hC hFt hini (vx_ends hC hr hlk) jc_Da_takeShortYear 18 (by decide) rfl ?_
    refine And.intro rfl (And.intro (And.intro rfl rfl) ?_)
    refine And.intro (fun c21 => ?_) (fun c21 => ?_)
    · skip
      have c21 : (dgs 2 0 rs).1 = none := (iI_m1 (dgs_l (by decide))).mp c21
      refine vx_go hC hFt hini (vx_ends hC hr hlk) jc_Da_takeShortYear 24 (by decide) rfl ?_
      refine And.intro (rfl) (And.intro ?_ (And.intro (Nat.le_refl _) (Nat.le_refl _)))
      rw [show (dgs 2 0 rs).1.isSome = false by rw [c21]; rfl]
      exact ⟨rfl, _, rfl, (fun v hv => by rw [c21] at hv; cases hv)⟩
    · skip
      have c21 : ∃ a, (dgs 2 0 rs).1 = some a := by
        cases h9 : (dgs 2 0 rs).1 with
        | none => rw [h9] at c21; exact absurd rfl c21
        | some a => exact ⟨a, rfl⟩
      refine vx_go hC hFt hini (vx_ends hC hr hlk) jc_Da_takeShortYear 25 (by decide) rfl ?_
      refine And.intro (rfl) (And.intro ?_ (And.intro (Nat.le_refl _) (Nat.le_refl _)))
      obtain ⟨a, ha⟩ := c21
      rw [ha]
      refine ⟨rfl, _, rfl, (fun v hv => ?_)⟩
      obtain rfl := Option.some.inj hv
      have hal : a < 100 := by have := dgs_lt (show dgs 2 0 rs = (some a, (dgs 2 0 rs).2) by rw [← ha]); omega
      rw [ha] at c10
      unfold shy
      rw [if_pos (Nat.lt_of_not_le (fun z => c10 (show nI 2000 + nI a ≤ nI lyn by rw [nI_add]; exact (nI_leI (by omega) (by omega)).mpr z))), ← nI_add]; rfl
set_option maxRecDepth 100000 in
set_option maxHeartbeats 4000000 in
theorem c_Da_takeSpacedDay (l : Launch) (D : va_G) (tys : List (ClassId × FieldType)) (tc : Nat → ClassId) (hty : ∀ i : Nat, i < 4 → tys[i]? = some (tc i, vx_ty i)) (h ra sa : Nat) (T rs : List Nat) (sd : Nat → Int32) (ss : Nat) (hT : isT T) (hs : rs <:+ T) (K : Nat → Nat) (ly y0 mo0 d0 s0 : Int32) : Kt l y_Da_takeSpacedDay (yw y_Da_takeSpacedDay b_Da_takeSpacedDay 2 (some .boolean)) 1 23 0 0 D cls tys (fun A U H => rdF ra T A U H ∧ gF K A U H) [.ref h] (rdW tc 3 h ra sa [.int (ly), .int (y0), .int (mo0), .int (d0), .int (s0)] T rs sd ss) (fun r w => r = some (.int (bI (pday rs).isSome)) ∧ ∃ d2 rs2, w = (rdW tc 3 h ra sa [.int (ly), .int (y0), .int (mo0), .int (d2), .int (s0)] T rs2 sd ss) ∧ rs2 <:+ T ∧ ∀ u, pday rs = some u → d2 = nI u.1 ∧ rs2 = u.2) := by
  refine Kt.of (ro_and (rdF_ro ra T) (gF_ro K)) (by decide) rfl hty (Nat.le_of_ble_eq_true rfl) ?_
  intro p e s m args below meth c0 A hC hr hlk hnm hF
  have hFt : vx_Ft y_Da_takeSpacedDay.cls (yw y_Da_takeSpacedDay b_Da_takeSpacedDay 2 (some .boolean)) cls cty ft_Da := ft_of (fun w h => List.mem_cons_of_mem _ h) fl_Da_in ft_Da_b
  have hini : false = true → meth.name = "<init>" := fun h => by cases h
  obtain ⟨hrd, hg⟩ := hF
  have hTl := hT.1
  refine vx_go hC hFt hini (vx_ends hC hr hlk) jc_Da_takeSpacedDay 0 (by decide) rfl ?_
  refine ux_call hC (c_Rd_take l D tys tc hty 3 (by decide) h ra sa [.int (ly), .int (y0), .int (mo0), .int (d0), .int (s0)] T rs sd ss 32 hT hs (by decide)) hrd (cw_U wm_Rd_take wl_Da_34 wsm_Da_take wi_Rd_take ws_Da_Da_take rfl hC.2.2.2.2.1 ⟨by decide, by decide⟩) rfl rfl rfl rfl (Nat.le_of_ble_eq_true rfl) ⟨Nat.zero_le _, Nat.zero_le _⟩ (fun r' w1 hp => ?_)
  obtain ⟨rfl, rfl⟩ := hp
  refine And.intro (fun c7 => ?_) (fun c7 => ?_)
  · skip
    have c7 : (pk 32 rs).1 = false := bI_eq c7
    refine vx_go hC hFt hini (vx_ends hC hr hlk) jc_Da_takeSpacedDay 10 (by decide) rfl ?_
    refine ux_call hC (c_Rd_takeDigits l D tys tc hty 3 (by decide) h ra sa [.int (ly), .int (y0), .int (mo0), .int (d0), .int (s0)] T (pk 32 rs).2 sd ss hT (pk_sf.trans hs) 2 (by decide)) hrd (cw_U wm_Rd_takeDigits wl_Da_98 wsm_Da_takeDigits wi_Rd_takeDigits ws_Da_Da_takeDigits rfl hC.2.2.2.2.1 ⟨by decide, by decide⟩) rfl rfl rfl rfl (Nat.le_of_ble_eq_true rfl) ⟨Nat.zero_le _, Nat.zero_le _⟩ (fun r' w1 hp => ?_)
    obtain ⟨rfl, rfl⟩ := hp
    refine And.intro rfl (And.intro (And.intro rfl rfl) ?_)
    refine And.intro (fun c14 => ?_) (fun c14 => ?_)
    · skip
      refine vx_go hC hFt hini (vx_ends hC hr hlk) jc_Da_takeSpacedDay 23 (by decide) rfl ?_
      refine And.intro rfl ?_
      refine And.intro (fun c26 => ?_) (fun c26 => ?_)
      · skip
        refine vx_go hC hFt hini (vx_ends hC hr hlk) jc_Da_takeSpacedDay 29 (by decide) rfl ?_
        refine And.intro (rfl) (And.intro ?_ (And.intro (Nat.le_refl _) (Nat.le_refl _)))
        have hpd : pday rs = (match (dgs 2 0 (pk 32 rs).2) with
            | (some d, r) => if d < 10 then none else some (d, r)
            | (none, _) => none) := by unfold pday; rw [if_neg (by rw [c7]; exact fun z => by cases z), pk_f c7]; rfl
        obtain ⟨od, r9, hd9⟩ : ∃ od r9, (dgs 2 0 (pk 32 rs).2) = (od, r9) := ⟨_, _, rfl⟩
        have hs9 : r9 <:+ T := by
          have h8 := dgs_sf (k := 2) (a := 0) (rs := (pk 32 rs).2)
          rw [hd9] at h8
          exact h8.trans (pk_sf.trans hs)
        have hl9 : ∀ a, od = some a → a < 2 ^ 31 := fun a ha => dgs_l (k := 2) (rs := (pk 32 rs).2) (by decide) a (by rw [hd9]; exact ha)
        rw [hd9] at hpd
        rw [hd9] at c26
        have hn : pday rs = none := by
          rw [hpd]
          cases od with
          | none => rfl
          | some d => exact if_pos ((nI_ltI (b := 10) (hl9 d rfl) (by decide)).mp c26)
        rw [hn, hd9]
        exact ⟨rfl, _, _, rfl, hs9, (fun u hu => by cases hu)⟩
      · skip
        refine vx_go hC hFt hini (vx_ends hC hr hlk) jc_Da_takeSpacedDay 30 (by decide) rfl ?_
        refine And.intro (rfl) (And.intro ?_ (And.intro (Nat.le_refl _) (Nat.le_refl _)))
        have hpd : pday rs = (match (dgs 2 0 (pk 32 rs).2) with
            | (some d, r) => if d < 10 then none else some (d, r)
            | (none, _) => none) := by unfold pday; rw [if_neg (by rw [c7]; exact fun z => by cases z), pk_f c7]; rfl
        obtain ⟨od, r9, hd9⟩ : ∃ od r9, (dgs 2 0 (pk 32 rs).2) = (od, r9) := ⟨_, _, rfl⟩
        have hs9 : r9 <:+ T := by
          have h8 := dgs_sf (k := 2) (a := 0) (rs := (pk 32 rs).2)
          rw [hd9] at h8
          exact h8.trans (pk_sf.trans hs)
        have hl9 : ∀ a, od = some a → a < 2 ^ 31 := fun a ha => dgs_l (k := 2) (rs := (pk 32 rs).2) (by decide) a (by rw [hd9]; exact ha)
        rw [hd9] at hpd
        rw [hd9] at c26
        cases od with
        | none => exact absurd (show iI none < 10 by decide) c26
        | some d =>
          have hn : pday rs = some (d, r9) := by
            rw [hpd]
            exact if_neg (fun z => c26 ((nI_ltI (b := 10) (hl9 d rfl) (by decide)).mpr z))
          rw [hn, hd9]
          exact ⟨rfl, _, _, rfl, hs9, (fun u hu => by obtain rfl := Option.some.inj hu; exact ⟨rfl, rfl⟩)⟩
    · skip
      exact absurd (by rw [c7]; rfl) c14
  · skip
    have c7 : (pk 32 rs).1 = true := bI_ne c7
    refine vx_go hC hFt hini (vx_ends hC hr hlk) jc_Da_takeSpacedDay 11 (by decide) rfl ?_
    refine ux_call hC (c_Rd_takeDigits l D tys tc hty 3 (by decide) h ra sa [.int (ly), .int (y0), .int (mo0), .int (d0), .int (s0)] T (pk 32 rs).2 sd ss hT (pk_sf.trans hs) 1 (by decide)) hrd (cw_U wm_Rd_takeDigits wl_Da_98 wsm_Da_takeDigits wi_Rd_takeDigits ws_Da_Da_takeDigits rfl hC.2.2.2.2.1 ⟨by decide, by decide⟩) rfl rfl rfl rfl (Nat.le_of_ble_eq_true rfl) ⟨Nat.zero_le _, Nat.zero_le _⟩ (fun r' w1 hp => ?_)
    obtain ⟨rfl, rfl⟩ := hp
    refine And.intro rfl (And.intro (And.intro rfl rfl) ?_)
    refine And.intro (fun c14 => ?_) (fun c14 => ?_)
    · skip
      rw [c7] at c14; exact absurd c14 (by decide)
    · skip
      refine And.intro rfl ?_
      refine And.intro (fun c18 => ?_) (fun c18 => ?_)
      · skip
        refine vx_go hC hFt hini (vx_ends hC hr hlk) jc_Da_takeSpacedDay 21 (by decide) rfl ?_
        refine vx_go hC hFt hini (vx_ends hC hr hlk) jc_Da_takeSpacedDay 30 (by decide) rfl ?_
        refine And.intro (rfl) (And.intro ?_ (And.intro (Nat.le_refl _) (Nat.le_refl _)))
        have hpd : pday rs = (match (dgs 1 0 (pk 32 rs).2) with
            | (some d, r) => some (d, r)
            | (none, _) => none) := by unfold pday; rw [if_pos c7]; rfl
        obtain ⟨od, r9, hd9⟩ : ∃ od r9, (dgs 1 0 (pk 32 rs).2) = (od, r9) := ⟨_, _, rfl⟩
        have hs9 : r9 <:+ T := by
          have h8 := dgs_sf (k := 1) (a := 0) (rs := (pk 32 rs).2)
          rw [hd9] at h8
          exact h8.trans (pk_sf.trans hs)
        have hl9 : ∀ a, od = some a → a < 2 ^ 31 := fun a ha => dgs_l (k := 1) (rs := (pk 32 rs).2) (by decide) a (by rw [hd9]; exact ha)
        rw [hd9] at hpd
        rw [hd9] at c18
        obtain rfl := (iI_m1 hl9).mp c18
        rw [hpd, hd9]
        exact ⟨rfl, _, _, rfl, hs9, (fun u hu => by cases hu)⟩
      · skip
        refine vx_go hC hFt hini (vx_ends hC hr hlk) jc_Da_takeSpacedDay 30 (by decide) rfl ?_
        refine And.intro (rfl) (And.intro ?_ (And.intro (Nat.le_refl _) (Nat.le_refl _)))
        have hpd : pday rs = (match (dgs 1 0 (pk 32 rs).2) with
            | (some d, r) => some (d, r)
            | (none, _) => none) := by unfold pday; rw [if_pos c7]; rfl
        obtain ⟨od, r9, hd9⟩ : ∃ od r9, (dgs 1 0 (pk 32 rs).2) = (od, r9) := ⟨_, _, rfl⟩
        have hs9 : r9 <:+ T := by
          have h8 := dgs_sf (k := 1) (a := 0) (rs := (pk 32 rs).2)
          rw [hd9] at h8
          exact h8.trans (pk_sf.trans hs)
        have hl9 : ∀ a, od = some a → a < 2 ^ 31 := fun a ha => dgs_l (k := 1) (rs := (pk 32 rs).2) (by decide) a (by rw [hd9]; exact ha)
        rw [hd9] at hpd
        cases od with
        | none => rw [hd9] at c18; exact absurd rfl c18
        | some d =>
          rw [hpd, hd9]
          exact ⟨rfl, _, _, rfl, hs9, (fun u hu => by obtain rfl := Option.some.inj hu; exact ⟨rfl, rfl⟩)⟩
