/-! THE CLASS: Dates, clocks and calendars, by program (wip/whole/gen/p67.py) -/
/-- a clock, step by step -/
theorem clk_1 {rs : List Nat} (h : (dgs 2 0 rs).1 = none) : clk rs = none := by
  unfold clk
  rcases hq : dgs 2 0 rs with ⟨a, b⟩
  rw [hq] at h
  cases a with
  | none => rfl
  | some v => cases h
theorem clk_2 {rs : List Nat} {v1 : Nat} (h : (dgs 2 0 rs).1 = some v1) : clk rs = if 23 < v1 then none else (match pk 58 (dgs 2 0 rs).2 with
    | (false, _) => none
    | (true, r) => match dgs 2 0 r with
      | (none, _) => none
      | (some q, r) => if 59 < q then none else match pk 58 r with
        | (false, _) => none
        | (true, r) => match dgs 2 0 r with
          | (none, _) => none
          | (some z, r) => if 59 < z then none else some (3600 * v1 + 60 * q + z, r)) := by
  unfold clk
  rcases hq : dgs 2 0 rs with ⟨a, b⟩
  rw [hq] at h
  obtain rfl : a = some v1 := h
  rfl
theorem pk_ff {c : Nat} {r : List Nat} (h : (pk c r).1 = false) : pk c r = (false, (pk c r).2) := by rw [← h]
theorem pk_tt {c : Nat} {r : List Nat} (h : (pk c r).1 = true) : pk c r = (true, (pk c r).2) := by rw [← h]
theorem dg_nn {k : Nat} {r : List Nat} (h : (dgs k 0 r).1 = none) : dgs k 0 r = (none, (dgs k 0 r).2) := by rw [← h]
theorem dg_ss {k v : Nat} {r : List Nat} (h : (dgs k 0 r).1 = some v) : dgs k 0 r = (some v, (dgs k 0 r).2) := by rw [← h]
set_option maxRecDepth 100000 in
set_option maxHeartbeats 4000000 in
theorem c_Da_takeClock (l : Launch) (D : va_G) (tys : List (ClassId × FieldType)) (tc : Nat → ClassId) (hty : ∀ i : Nat, i < 4 → tys[i]? = some (tc i, vx_ty i)) (h ra sa : Nat) (T rs : List Nat) (sd : Nat → Int32) (ss : Nat) (hT : isT T) (hs : rs <:+ T) (K : Nat → Nat) (ly y0 mo0 d0 s0 : Int32) : Kt l y_Da_takeClock (yw y_Da_takeClock b_Da_takeClock 4 (some .boolean)) 1 23 0 0 D cls tys (fun A U H => rdF ra T A U H ∧ gF K A U H) [.ref h] (rdW tc 3 h ra sa [.int (ly), .int (y0), .int (mo0), .int (d0), .int (s0)] T rs sd ss) (fun r w => r = some (.int (bI (clk rs).isSome)) ∧ ∃ s2 rs2, w = (rdW tc 3 h ra sa [.int (ly), .int (y0), .int (mo0), .int (d0), .int (s2)] T rs2 sd ss) ∧ rs2 <:+ T ∧ ∀ u, clk rs = some u → s2 = nI u.1 ∧ rs2 = u.2) := by
  refine Kt.of (ro_and (rdF_ro ra T) (gF_ro K)) (by decide) rfl hty (Nat.le_of_ble_eq_true rfl) ?_
  intro p e s m args below meth c0 A hC hr hlk hnm hF
  have hFt : vx_Ft y_Da_takeClock.cls (yw y_Da_takeClock b_Da_takeClock 4 (some .boolean)) cls cty ft_Da := ft_of (fun w h => List.mem_cons_of_mem _ h) fl_Da_in ft_Da_b
  have hini : false = true → meth.name = "<init>" := fun h => by cases h
  obtain ⟨hrd, hg⟩ := hF
  have hTl := hT.1
  refine vx_go hC hFt hini (vx_ends hC hr hlk) jc_Da_takeClock 0 (by decide) rfl ?_
  refine ux_call hC (c_Rd_takeDigits l D tys tc hty 3 (by decide) h ra sa [.int (ly), .int (y0), .int (mo0), .int (d0), .int (s0)] T rs sd ss hT (hs) 2 (by decide)) hrd (cw_U wm_Rd_takeDigits wl_Da_98 wsm_Da_takeDigits wi_Rd_takeDigits ws_Da_Da_takeDigits rfl hC.2.2.2.2.1 ⟨by decide, by decide⟩) rfl rfl rfl rfl (Nat.le_of_ble_eq_true rfl) ⟨Nat.zero_le _, Nat.zero_le _⟩ (fun r' w1 hp => ?_)
  obtain ⟨rfl, rfl⟩ := hp
  refine And.intro (fun c6 => ?_) (fun c6 => ?_)
  · skip
    have c6 : (dgs 2 0 rs).1 = none := (iI_m1 (dgs_l (by decide))).mp c6
    refine vx_go hC hFt hini (vx_ends hC hr hlk) jc_Da_takeClock 14 (by decide) rfl ?_
    refine And.intro (rfl) (And.intro ?_ (And.intro (Nat.le_refl _) (Nat.le_refl _)))
    have hc : clk rs = none := by
      exact clk_1 c6
    rw [hc]
    exact ⟨rfl, _, _, rfl, dgs_sf.trans hs, (fun u hu => by cases hu)⟩
  · skip
    obtain ⟨v1, hv1⟩ : ∃ v1, (dgs 2 0 rs).1 = some v1 := by
      cases h9 : (dgs 2 0 rs).1 with
      | none => rw [h9] at c6; exact absurd rfl c6
      | some a => exact ⟨a, rfl⟩
    have bv1 : v1 < 100 := by have := dgs_lt (show dgs 2 0 rs = (some v1, (dgs 2 0 rs).2) by rw [← hv1]); omega
    refine And.intro (fun c9 => ?_) (fun c9 => ?_)
    · skip
      have c9 : 23 < v1 := by
        rw [hv1] at c9
        exact (nI_ltI (a := 23) (by decide) (by omega)).mp c9
      refine vx_go hC hFt hini (vx_ends hC hr hlk) jc_Da_takeClock 14 (by decide) rfl ?_
      refine And.intro (rfl) (And.intro ?_ (And.intro (Nat.le_refl _) (Nat.le_refl _)))
      have hc : clk rs = none := by
        rw [clk_2 hv1, if_pos c9]
      rw [hc]
      exact ⟨rfl, _, _, rfl, dgs_sf.trans hs, (fun u hu => by cases hu)⟩
    · skip
      have c9 : ¬ 23 < v1 := fun z => c9 (by rw [hv1]; exact (nI_ltI (a := 23) (by decide) (by omega)).mpr z)
      refine ux_call hC (c_Rd_take l D tys tc hty 3 (by decide) h ra sa [.int (ly), .int (y0), .int (mo0), .int (d0), .int (s0)] T (dgs 2 0 rs).2 sd ss 58 hT (dgs_sf.trans hs) (by decide)) hrd (cw_U wm_Rd_take wl_Da_34 wsm_Da_take wi_Rd_take ws_Da_Da_take rfl hC.2.2.2.2.1 ⟨by decide, by decide⟩) rfl rfl rfl rfl (Nat.le_of_ble_eq_true rfl) ⟨Nat.zero_le _, Nat.zero_le _⟩ (fun r' w1 hp => ?_)
      obtain ⟨rfl, rfl⟩ := hp
      refine And.intro (fun c13 => ?_) (fun c13 => ?_)
      · skip
        have c13 : (pk 58 (dgs 2 0 rs).2).1 = true := bI_ne c13
        refine vx_go hC hFt hini (vx_ends hC hr hlk) jc_Da_takeClock 16 (by decide) rfl ?_
        refine ux_call hC (c_Rd_takeDigits l D tys tc hty 3 (by decide) h ra sa [.int (ly), .int (y0), .int (mo0), .int (d0), .int (s0)] T (pk 58 (dgs 2 0 rs).2).2 sd ss hT (pk_sf.trans (dgs_sf.trans hs)) 2 (by decide)) hrd (cw_U wm_Rd_takeDigits wl_Da_98 wsm_Da_takeDigits wi_Rd_takeDigits ws_Da_Da_takeDigits rfl hC.2.2.2.2.1 ⟨by decide, by decide⟩) rfl rfl rfl rfl (Nat.le_of_ble_eq_true rfl) ⟨Nat.zero_le _, Nat.zero_le _⟩ (fun r' w1 hp => ?_)
        obtain ⟨rfl, rfl⟩ := hp
        refine And.intro (fun c22 => ?_) (fun c22 => ?_)
        · skip
          have c22 : (dgs 2 0 (pk 58 (dgs 2 0 rs).2).2).1 = none := (iI_m1 (dgs_l (by decide))).mp c22
          refine vx_go hC hFt hini (vx_ends hC hr hlk) jc_Da_takeClock 30 (by decide) rfl ?_
          refine And.intro (rfl) (And.intro ?_ (And.intro (Nat.le_refl _) (Nat.le_refl _)))
          have hc : clk rs = none := by
            rw [clk_2 hv1, if_neg c9, pk_tt c13]
            simp only []
            rw [dg_nn c22]
          rw [hc]
          exact ⟨rfl, _, _, rfl, dgs_sf.trans (pk_sf.trans (dgs_sf.trans hs)), (fun u hu => by cases hu)⟩
        · skip
          obtain ⟨v2, hv2⟩ : ∃ v2, (dgs 2 0 (pk 58 (dgs 2 0 rs).2).2).1 = some v2 := by
            cases h9 : (dgs 2 0 (pk 58 (dgs 2 0 rs).2).2).1 with
            | none => rw [h9] at c22; exact absurd rfl c22
            | some a => exact ⟨a, rfl⟩
          have bv2 : v2 < 100 := by have := dgs_lt (show dgs 2 0 (pk 58 (dgs 2 0 rs).2).2 = (some v2, (dgs 2 0 (pk 58 (dgs 2 0 rs).2).2).2) by rw [← hv2]); omega
          refine And.intro (fun c25 => ?_) (fun c25 => ?_)
          · skip
            have c25 : 59 < v2 := by
              rw [hv2] at c25
              exact (nI_ltI (a := 59) (by decide) (by omega)).mp c25
            refine vx_go hC hFt hini (vx_ends hC hr hlk) jc_Da_takeClock 30 (by decide) rfl ?_
            refine And.intro (rfl) (And.intro ?_ (And.intro (Nat.le_refl _) (Nat.le_refl _)))
            have hc : clk rs = none := by
              rw [clk_2 hv1, if_neg c9, pk_tt c13]
              simp only []
              rw [dg_ss hv2]
              simp only []
              rw [if_pos c25]
            rw [hc]
            exact ⟨rfl, _, _, rfl, dgs_sf.trans (pk_sf.trans (dgs_sf.trans hs)), (fun u hu => by cases hu)⟩
          · skip
            have c25 : ¬ 59 < v2 := fun z => c25 (by rw [hv2]; exact (nI_ltI (a := 59) (by decide) (by omega)).mpr z)
            refine ux_call hC (c_Rd_take l D tys tc hty 3 (by decide) h ra sa [.int (ly), .int (y0), .int (mo0), .int (d0), .int (s0)] T (dgs 2 0 (pk 58 (dgs 2 0 rs).2).2).2 sd ss 58 hT (dgs_sf.trans (pk_sf.trans (dgs_sf.trans hs))) (by decide)) hrd (cw_U wm_Rd_take wl_Da_34 wsm_Da_take wi_Rd_take ws_Da_Da_take rfl hC.2.2.2.2.1 ⟨by decide, by decide⟩) rfl rfl rfl rfl (Nat.le_of_ble_eq_true rfl) ⟨Nat.zero_le _, Nat.zero_le _⟩ (fun r' w1 hp => ?_)
            obtain ⟨rfl, rfl⟩ := hp
            refine And.intro (fun c29 => ?_) (fun c29 => ?_)
            · skip
              have c29 : (pk 58 (dgs 2 0 (pk 58 (dgs 2 0 rs).2).2).2).1 = true := bI_ne c29
              refine vx_go hC hFt hini (vx_ends hC hr hlk) jc_Da_takeClock 32 (by decide) rfl ?_
              refine ux_call hC (c_Rd_takeDigits l D tys tc hty 3 (by decide) h ra sa [.int (ly), .int (y0), .int (mo0), .int (d0), .int (s0)] T (pk 58 (dgs 2 0 (pk 58 (dgs 2 0 rs).2).2).2).2 sd ss hT (pk_sf.trans (dgs_sf.trans (pk_sf.trans (dgs_sf.trans hs)))) 2 (by decide)) hrd (cw_U wm_Rd_takeDigits wl_Da_98 wsm_Da_takeDigits wi_Rd_takeDigits ws_Da_Da_takeDigits rfl hC.2.2.2.2.1 ⟨by decide, by decide⟩) rfl rfl rfl rfl (Nat.le_of_ble_eq_true rfl) ⟨Nat.zero_le _, Nat.zero_le _⟩ (fun r' w1 hp => ?_)
              obtain ⟨rfl, rfl⟩ := hp
              refine And.intro rfl (And.intro (And.intro rfl rfl) ?_)
              refine And.intro (fun c49 => ?_) (fun c49 => ?_)
              · skip
                have c49 : (dgs 2 0 (pk 58 (dgs 2 0 (pk 58 (dgs 2 0 rs).2).2).2).2).1 = none := (iI_m1 (dgs_l (by decide))).mp c49
                refine vx_go hC hFt hini (vx_ends hC hr hlk) jc_Da_takeClock 55 (by decide) rfl ?_
                refine And.intro (rfl) (And.intro ?_ (And.intro (Nat.le_refl _) (Nat.le_refl _)))
                have hc : clk rs = none := by
                  rw [clk_2 hv1, if_neg c9, pk_tt c13]
                  simp only []
                  rw [dg_ss hv2]
                  simp only []
                  rw [if_neg c25, pk_tt c29]
                  simp only []
                  rw [dg_nn c49]
                rw [hc]
                exact ⟨rfl, _, _, rfl, dgs_sf.trans (pk_sf.trans (dgs_sf.trans (pk_sf.trans (dgs_sf.trans hs)))), (fun u hu => by cases hu)⟩
              · skip
                obtain ⟨v3, hv3⟩ : ∃ v3, (dgs 2 0 (pk 58 (dgs 2 0 (pk 58 (dgs 2 0 rs).2).2).2).2).1 = some v3 := by
                  cases h9 : (dgs 2 0 (pk 58 (dgs 2 0 (pk 58 (dgs 2 0 rs).2).2).2).2).1 with
                  | none => rw [h9] at c49; exact absurd rfl c49
                  | some a => exact ⟨a, rfl⟩
                have bv3 : v3 < 100 := by have := dgs_lt (show dgs 2 0 (pk 58 (dgs 2 0 (pk 58 (dgs 2 0 rs).2).2).2).2 = (some v3, (dgs 2 0 (pk 58 (dgs 2 0 (pk 58 (dgs 2 0 rs).2).2).2).2).2) by rw [← hv3]); omega
                refine And.intro (fun c52 => ?_) (fun c52 => ?_)
                · skip
                  have c52 : 59 < v3 := by
                    rw [hv3] at c52
                    exact (nI_ltI (a := 59) (by decide) (by omega)).mp c52
                  refine vx_go hC hFt hini (vx_ends hC hr hlk) jc_Da_takeClock 55 (by decide) rfl ?_
                  refine And.intro (rfl) (And.intro ?_ (And.intro (Nat.le_refl _) (Nat.le_refl _)))
                  have hc : clk rs = none := by
                    rw [clk_2 hv1, if_neg c9, pk_tt c13]
                    simp only []
                    rw [dg_ss hv2]
                    simp only []
                    rw [if_neg c25, pk_tt c29]
                    simp only []
                    rw [dg_ss hv3]
                    simp only []
                    rw [if_pos c52]
                  rw [hc]
                  exact ⟨rfl, _, _, rfl, dgs_sf.trans (pk_sf.trans (dgs_sf.trans (pk_sf.trans (dgs_sf.trans hs)))), (fun u hu => by cases hu)⟩
                · skip
                  have c52 : ¬ 59 < v3 := fun z => c52 (by rw [hv3]; exact (nI_ltI (a := 59) (by decide) (by omega)).mpr z)
                  refine vx_go hC hFt hini (vx_ends hC hr hlk) jc_Da_takeClock 56 (by decide) rfl ?_
                  refine And.intro (rfl) (And.intro ?_ (And.intro (Nat.le_refl _) (Nat.le_refl _)))
                  have hc : clk rs = some (3600 * v1 + 60 * v2 + v3, (dgs 2 0 (pk 58 (dgs 2 0 (pk 58 (dgs 2 0 rs).2).2).2).2).2) := by
                    rw [clk_2 hv1, if_neg c9, pk_tt c13]
                    simp only []
                    rw [dg_ss hv2]
                    simp only []
                    rw [if_neg c25, pk_tt c29]
                    simp only []
                    rw [dg_ss hv3]
                    simp only []
                    rw [if_neg c52]
                  rw [hc]
                  refine ⟨rfl, _, _, rfl, dgs_sf.trans (pk_sf.trans (dgs_sf.trans (pk_sf.trans (dgs_sf.trans hs)))), (fun u hu => ?_)⟩
                  obtain rfl := Option.some.inj hu
                  refine ⟨?_, rfl⟩
                  rw [hv1, hv2, hv3]
                  show nI 3600 * nI v1 + nI 60 * nI v2 + nI v3 = _
                  rw [pk_mul, pk_mul, nI_add, nI_add]
            · skip
              have c29 : (pk 58 (dgs 2 0 (pk 58 (dgs 2 0 rs).2).2).2).1 = false := bI_eq (c29)
              refine And.intro (rfl) (And.intro ?_ (And.intro (Nat.le_refl _) (Nat.le_refl _)))
              have hc : clk rs = none := by
                rw [clk_2 hv1, if_neg c9, pk_tt c13]
                simp only []
                rw [dg_ss hv2]
                simp only []
                rw [if_neg c25, pk_ff c29]
              rw [hc]
              exact ⟨rfl, _, _, rfl, pk_sf.trans (dgs_sf.trans (pk_sf.trans (dgs_sf.trans hs))), (fun u hu => by cases hu)⟩
      · skip
        have c13 : (pk 58 (dgs 2 0 rs).2).1 = false := bI_eq (c13)
        refine And.intro (rfl) (And.intro ?_ (And.intro (Nat.le_refl _) (Nat.le_refl _)))
        have hc : clk rs = none := by
          rw [clk_2 hv1, if_neg c9, pk_ff c13]
        rw [hc]
        exact ⟨rfl, _, _, rfl, pk_sf.trans (dgs_sf.trans hs), (fun u hu => by cases hu)⟩
set_option maxRecDepth 100000 in
set_option maxHeartbeats 4000000 in
theorem c_Da_daysOf (l : Launch) (D : va_G) (tys : List (ClassId × FieldType)) (tc : Nat → ClassId) (hty : ∀ i : Nat, i < 4 → tys[i]? = some (tc i, vx_ty i)) (mo y : Nat) (hm : mo < 12) (hy : y < 2 ^ 31) : Kt l y_Da_daysOf (yw y_Da_daysOf b_Da_daysOf 2 (some .int)) 0 0 0 0 D cls tys mdF [.int (nI mo), .int (nI y)] [] (fun r w => r = some (.int (nI (dys mo y))) ∧ w = []) := by
  refine Kt.of mdF_ro (by decide) rfl hty (Nat.le_of_ble_eq_true rfl) ?_
  intro p e s m args below meth c0 A hC hr hlk hnm hF
  have hFt : vx_Ft y_Da_daysOf.cls (yw y_Da_daysOf b_Da_daysOf 2 (some .int)) cls cty [] := (fun q h => by cases h)
  have hini : false = true → meth.name = "<init>" := fun h => by cases h
  obtain ⟨t, h1, h2⟩ := hF
  refine vx_go hC hFt hini (vx_ends hC hr hlk) jc_Da_daysOf 0 (by decide) rfl ?_
  refine And.intro (fun c1 => ?_) (fun c1 => ?_)
  · skip
    exact absurd c1 (nI_pos (by omega))
  · skip
    refine ⟨_, ⟨"OriginDesk$Dates", "MONTH_DAYS", "[I", "OriginDesk$Dates", h1, Or.inl (hC.2.2.2.2.1 _ (List.mem_cons_of_mem _ wf_Da_124)), fun _ z => z⟩, ?_⟩
    refine ⟨0, _, _, h2, ?_⟩
    refine And.intro (fun c5 => ?_) (fun c5 => ?_)
    · skip
      refine vx_go hC hFt hini (vx_ends hC hr hlk) jc_Da_daysOf 8 (by decide) rfl ?_
      refine And.intro (fun c10 => ?_) (fun c10 => ?_)
      · skip
        have c10 : ¬ mo = 1 := fun z => c10 (by rw [z]; rfl)
        refine vx_go hC hFt hini (vx_ends hC hr hlk) jc_Da_daysOf 17 (by decide) rfl ?_
        refine ⟨_, ⟨"OriginDesk$Dates", "MONTH_DAYS", "[I", "OriginDesk$Dates", h1, Or.inl (hC.2.2.2.2.1 _ (List.mem_cons_of_mem _ wf_Da_124)), fun _ z => z⟩, ?_⟩
        refine ⟨_, _, h2, vp_in_nI hm (by decide), ?_⟩
        rw [nI_clamp (by omega)]
        refine And.intro (trivial) (And.intro ?_ (And.intro (Nat.le_refl _) (Nat.le_refl _)))
        rw [show dys mo y = [31, 28, 31, 30, 31, 30, 31, 31, 30, 31, 30, 31].getD mo 0 by rw [dys, if_neg (fun z => c10 z.1)]]
        exact And.intro rfl rfl
      · skip
        have c10 : mo = 1 := (nI_eq (b := 1) (by omega) (by omega)).mp (c10)
        refine And.intro (by decide) ?_
        refine And.intro (fun c14 => ?_) (fun c14 => ?_)
        · skip
          have c14 : ¬ y % 4 = 0 := fun z => c14 (show nI y - nI y / (4 : Int32) * (4 : Int32) = 0 by rw [mod4 hy, z]; rfl)
          refine vx_go hC hFt hini (vx_ends hC hr hlk) jc_Da_daysOf 17 (by decide) rfl ?_
          refine ⟨_, ⟨"OriginDesk$Dates", "MONTH_DAYS", "[I", "OriginDesk$Dates", h1, Or.inl (hC.2.2.2.2.1 _ (List.mem_cons_of_mem _ wf_Da_124)), fun _ z => z⟩, ?_⟩
          refine ⟨_, _, h2, vp_in_nI hm (by decide), ?_⟩
          rw [nI_clamp (by omega)]
          refine And.intro (trivial) (And.intro ?_ (And.intro (Nat.le_refl _) (Nat.le_refl _)))
          rw [show dys mo y = [31, 28, 31, 30, 31, 30, 31, 31, 30, 31, 30, 31].getD mo 0 by rw [dys, if_neg (fun z => c14 z.2)]]
          exact And.intro rfl rfl
        · skip
          have c14 : y % 4 = 0 := by
            have c14 : nI y - nI y / (4 : Int32) * (4 : Int32) = nI 0 := c14
            rw [mod4 hy] at c14
            exact (nI_eq (by omega) (by omega)).mp c14
          refine vx_go hC hFt hini (vx_ends hC hr hlk) jc_Da_daysOf 20 (by decide) rfl ?_
          refine And.intro (trivial) (And.intro ?_ (And.intro (Nat.le_refl _) (Nat.le_refl _)))
          rw [show dys mo y = 29 by rw [dys, if_pos ⟨c10, c14⟩]]
          exact And.intro rfl rfl
    · skip
      exact absurd ((nI_ltI (a := mo) (b := 12) (by omega) (by omega)).mpr hm) c5
theorem div4 {a : Nat} (h : a < 2 ^ 31) : nI a / (4 : Int32) = nI (a / 4) := pk_div h (by decide) (by decide)
set_option maxRecDepth 100000 in
set_option maxHeartbeats 4000000 in
theorem c_Da_daysBefore (l : Launch) (D : va_G) (tys : List (ClassId × FieldType)) (tc : Nat → ClassId) (hty : ∀ i : Nat, i < 4 → tys[i]? = some (tc i, vx_ty i)) (y : Nat) (hy : 1970 ≤ y) (hy2 : y < 10000) : Kt l y_Da_daysBefore (yw y_Da_daysBefore b_Da_daysBefore 1 (some .int)) 0 0 0 0 D cls tys (fun _ _ _ => True) [.int (nI y)] [] (fun r w => r = some (.int (nI (dbf y))) ∧ w = []) := by
  refine Kt.of ro_true (by decide) rfl hty (Nat.le_of_ble_eq_true rfl) ?_
  intro p e s m args below meth c0 A hC hr hlk hnm hF
  have hFt : vx_Ft y_Da_daysBefore.cls (yw y_Da_daysBefore b_Da_daysBefore 1 (some .int)) cls cty [] := (fun q h => by cases h)
  have hini : false = true → meth.name = "<init>" := fun h => by cases h
  refine vx_go hC hFt hini (vx_ends hC hr hlk) jc_Da_daysBefore 0 (by decide) rfl ?_
  refine And.intro (by decide) ?_
  refine And.intro (trivial) (And.intro ?_ (And.intro (Nat.le_refl _) (Nat.le_refl _)))
  refine And.intro ?_ rfl
  show some (Value.int (nI 365 * (nI y - nI 1970) + (nI y - nI 1970 + nI 1) / (4 : Int32))) = _
  rw [pk_sub hy, pk_mul, nI_add, div4 (by omega), nI_add]
  rfl
set_option maxRecDepth 100000 in
set_option maxHeartbeats 4000000 in
theorem c_Da_yearOf (l : Launch) (D : va_G) (tys : List (ClassId × FieldType)) (tc : Nat → ClassId) (hty : ∀ i : Nat, i < 4 → tys[i]? = some (tc i, vx_ty i)) (N : Nat) (hN : N ≤ 4102444799) : Kt l y_Da_yearOf (yw y_Da_yearOf b_Da_yearOf 5 (some .int)) 1 20 0 0 D cls tys (fun _ _ _ => True) [.long (lN N)] [] (fun r w => r = some (.int (nI (yrN N))) ∧ w = []) := by
  refine Kt.of ro_true (by decide) rfl hty (Nat.le_of_ble_eq_true rfl) ?_
  intro p e s m args below meth c0 A hC hr hlk hnm hF
  have hFt : vx_Ft y_Da_yearOf.cls (yw y_Da_yearOf b_Da_yearOf 5 (some .int)) cls cty [] := (fun q h => by cases h)
  have hini : false = true → meth.name = "<init>" := fun h => by cases h
  refine vx_gon hC hFt hini (vx_ends hC hr hlk) jc_Da_yearOf 0 6 (by decide) rfl ?_
  refine And.intro (Or.inr (Or.inl ⟨_, rfl, hC.2.2.2.2.1 _ (List.mem_cons_of_mem _ wc_Da_122)⟩)) ?_
  refine And.intro (by decide) ?_
  refine Vx.subL (lv' := [(0, .long (lN N)), (2, .long (lN N / lN 86400)), (4, .int (nI 1970))]) [2, 1, 0] rfl ?_
  rw [lW_div (by omega) (by decide) (by decide)]
  obtain ⟨y, hy⟩ : ∃ y : Nat, y = 1970 := ⟨_, rfl⟩
  refine Vx.eqs rfl (lv2 := [(0, .long (lN N)), (2, .long (lN (N / 86400))), (4, .int (nI y))]) (by rw [hy]) rfl rfl ?_
  have hy0 : 1970 ≤ y ∧ y ≤ 2099 := by omega
  have hd : dbf y ≤ N / 86400 := by rw [hy]; exact Nat.zero_le _
  clear hy
  induction hn : 2099 - y using Nat.strongRecOn generalizing y with
  | _ n ih =>
    refine vx_go hC hFt hini (vx_ends hC hr hlk) jc_Da_yearOf 6 (by decide) rfl ?_
    refine And.intro (fun c8 => ?_) (fun c8 => ?_)
    · skip
      have c8 : 2099 ≤ y := (nI_leI (a := 2099) (by omega) (by omega)).mp c8
      refine vx_go hC hFt hini (vx_ends hC hr hlk) jc_Da_yearOf 19 (by decide) rfl ?_
      refine And.intro (trivial) (And.intro ?_ (And.intro (Nat.le_refl _) (Nat.le_refl _)))
      have h9 : dbf 2100 = 47482 := by decide
      have h8 : y = 2099 := by omega
      have c16 : N / 86400 < dbf (y + 1) := by
        rw [h8]
        show N / 86400 < dbf 2100
        omega
      obtain ⟨k1, k2, k3, k4⟩ := yrN_ok hN
      rw [yr_un k3 k4 hd c16]
      exact And.intro rfl rfl
    · skip
      have c8 : ¬ 2099 ≤ y := fun z => c8 ((nI_leI (a := 2099) (by omega) (by omega)).mpr z)
      refine calls0 hC (c_Da_daysBefore l D tys tc hty (y + 1) (by omega) (by omega)) trivial wm_Da_daysBefore wl_Da_119 wt_Da_daysBefore ⟨by decide, by decide⟩ rfl (show [Value.int (nI y + 1)] = [Value.int (nI (y + 1))] by rw [nI_1]) (Nat.le_of_ble_eq_true rfl) ⟨Nat.zero_le _, Nat.zero_le _⟩ (fun r' hp => ?_)
      subst hp
      have hdb : dbf (y + 1) ≤ 60000 := by unfold dbf; omega
      refine And.intro (fun c16 => ?_) (fun c16 => ?_)
      · skip
        have c16 : N / 86400 < dbf (y + 1) := by
          have c16 : 0 < lg_cmp (nI (dbf (y + 1))).toInt64 (lN (N / 86400)) := c16
          rw [lN_n (by omega)] at c16
          exact (lW_lt (by omega) (by omega)).mp (lc_gt.mp c16)
        refine vx_go hC hFt hini (vx_ends hC hr hlk) jc_Da_yearOf 19 (by decide) rfl ?_
        refine And.intro (trivial) (And.intro ?_ (And.intro (Nat.le_refl _) (Nat.le_refl _)))
        obtain ⟨k1, k2, k3, k4⟩ := yrN_ok hN
        rw [yr_un k3 k4 hd c16]
        exact And.intro rfl rfl
      · skip
        have c16 : ¬ N / 86400 < dbf (y + 1) := fun z => c16 (show 0 < lg_cmp (nI (dbf (y + 1))).toInt64 (lN (N / 86400)) by rw [lN_n (by omega)]; exact lc_gt.mpr ((lW_lt (by omega) (by omega)).mpr z))
        refine Vx.subL (lv' := [(0, .long (lN N)), (2, .long (lN (N / 86400))), (4, .int (nI y + 1))]) [1, 2, 0] rfl ?_
        rw [nI_1]
        exact ih (2099 - (y + 1)) (by omega) (y + 1) (by omega) (by omega) rfl
