/-! THE CLASS: Dates, its forms and fields, by program (wip/whole/gen/p69.py) -/
theorem sb_t {α : Type} {b : Bool × List Nat} {f : List Nat → Option α} (h : b.1 = true) : sb b f = f b.2 := if_pos h
theorem sb_f {α : Type} {b : Bool × List Nat} {f : List Nat → Option α} (h : b.1 = false) : sb b f = none := if_neg (by rw [h]; exact fun z => by cases z)
theorem sn_v {α : Type} {v : Option (Nat × List Nat)} {u : Nat × List Nat} {f : Nat → List Nat → Option α} (h : v = some u) : sn v f = f u.1 u.2 := by rw [h]; rfl
theorem sn_o {α : Type} {v : Option (Nat × List Nat)} {f : Nat → List Nat → Option α} (h : v = none) : sn v f = none := by rw [h]; rfl
theorem dgO_s {k v : Nat} {r : List Nat} (h : (dgs k 0 r).1 = some v) : dgO k r = some (v, (dgs k 0 r).2) := by unfold dgO; rw [h]; rfl
theorem dgO_n {k : Nat} {r : List Nat} (h : (dgs k 0 r).1 = none) : dgO k r = none := by unfold dgO; rw [h]; rfl
theorem nmO_s {W : List Nat} {v : Nat} {r : List Nat} (h : (nmAt W r).1 = some v) : nmO W r = some (v, (nmAt W r).2) := by unfold nmO; rw [h]; rfl
theorem nmO_n {W r : List Nat} (h : (nmAt W r).1 = none) : nmO W r = none := by unfold nmO; rw [h]; rfl
theorem so_t {v : Option Nat} (h : ¬ bI v.isSome = 0) : ∃ a, v = some a := by
  cases v with
  | none => exact absurd rfl h
  | some a => exact ⟨a, rfl⟩
theorem so_f {v : Option Nat} (h : bI v.isSome = 0) : v = none := by
  cases v with
  | none => rfl
  | some a => exact absurd h (show ¬ bI true = 0 by decide)
theorem sp_t {v : Option (Nat × List Nat)} (h : ¬ bI v.isSome = 0) : ∃ a, v = some a := by
  cases v with
  | none => exact absurd rfl h
  | some a => exact ⟨a, rfl⟩
theorem sp_f {v : Option (Nat × List Nat)} (h : bI v.isSome = 0) : v = none := by
  cases v with
  | none => rfl
  | some a => exact absurd h (show ¬ bI true = 0 by decide)
set_option maxRecDepth 100000 in
set_option maxHeartbeats 4000000 in
theorem c_Da_takeCommaForm (l : Launch) (D : va_G) (tys : List (ClassId × FieldType)) (tc : Nat → ClassId) (hty : ∀ i : Nat, i < 4 → tys[i]? = some (tc i, vx_ty i)) (h ra sa : Nat) (T rs : List Nat) (sd : Nat → Int32) (ss : Nat) (hT : isT T) (hs : rs <:+ T) (K : Nat → Nat) (ly y0 mo0 d0 s0 : Int32) : Kt l y_Da_takeCommaForm (yw y_Da_takeCommaForm b_Da_takeCommaForm 2 (some .boolean)) 6 128 0 0 D cls tys (fun A U H => rdF ra T A U H ∧ gF K A U H) [.ref h] (rdW tc 3 h ra sa [.int (ly), .int (y0), .int (mo0), .int (d0), .int (s0)] T rs sd ss) (fun r w => r = some (.int (bI (fC rs).isSome)) ∧ ∃ y2 mo2 d2 s2 rs2, w = (rdW tc 3 h ra sa [.int (ly), .int (y2), .int (mo2), .int (d2), .int (s2)] T rs2 sd ss) ∧ rs2 <:+ T ∧ ∀ u, fC rs = some u → y2 = nI u.1.1 ∧ mo2 = nI u.1.2.1 ∧ d2 = nI u.1.2.2.1 ∧ s2 = nI u.1.2.2.2 ∧ rs2 = u.2) := by
  refine Kt.of (ro_and (rdF_ro ra T) (gF_ro K)) (by decide) rfl hty (Nat.le_of_ble_eq_true rfl) ?_
  intro p e s m args below meth c0 A hC hr hlk hnm hF
  have hFt : vx_Ft y_Da_takeCommaForm.cls (yw y_Da_takeCommaForm b_Da_takeCommaForm 2 (some .boolean)) cls cty ft_Da := ft_of (fun w h => List.mem_cons_of_mem _ h) fl_Da_in ft_Da_b
  have hini : false = true → meth.name = "<init>" := fun h => by cases h
  obtain ⟨hrd, hg⟩ := hF
  have hTl := hT.1
  refine vx_go hC hFt hini (vx_ends hC hr hlk) jc_Da_takeCommaForm 0 (by decide) rfl ?_
  refine ux_call hC (c_Rd_take l D tys tc hty 3 (by decide) h ra sa [.int (ly), .int (y0), .int (mo0), .int (d0), .int (s0)] T rs sd ss 32 hT (hs) (by decide)) hrd (cw_U wm_Rd_take wl_Da_34 wsm_Da_take wi_Rd_take ws_Da_Da_take rfl hC.2.2.2.2.1 ⟨by decide, by decide⟩) rfl rfl rfl rfl (Nat.le_of_ble_eq_true rfl) ⟨Nat.zero_le _, Nat.zero_le _⟩ (fun r' w1 hp => ?_)
  obtain ⟨rfl, rfl⟩ := hp
  refine And.intro (fun c3 => ?_) (fun c3 => ?_)
  · skip
    have c3 : (pk 32 rs).1 = false := bI_eq c3
    refine vx_go hC hFt hini (vx_ends hC hr hlk) jc_Da_takeCommaForm 23 (by decide) rfl ?_
    refine And.intro (fun c26 => ?_) (fun c26 => ?_)
    · skip
      refine vx_go hC hFt hini (vx_ends hC hr hlk) jc_Da_takeCommaForm 40 (by decide) rfl ?_
      refine And.intro (rfl) (And.intro ?_ (And.intro (Nat.le_refl _) (Nat.le_refl _)))
      rw [show fC rs = none by unfold fC fT; rw [sb_f c3]]
      exact ⟨rfl, _, _, _, _, _, rfl, pk_sf.trans (hs), (fun u hu => by cases hu)⟩
    · skip
      exact absurd rfl c26
  · skip
    have c3 : (pk 32 rs).1 = true := bI_ne c3
    refine ox_call hC (c_Da_takeDay l D tys tc hty h ra sa T (pk 32 rs).2 sd ss hT (pk_sf.trans (hs)) K (ly) (y0) (mo0) (d0) (s0)) ⟨hrd, hg⟩ (cw_V wm_Da_takeDay wl_Da_66 wi_Da_takeDay ws_Da_Da_takeDay hC.2.2.2.2.1 ⟨by decide, by decide⟩) rfl rfl rfl rfl (Nat.le_of_ble_eq_true rfl) ⟨Nat.zero_le _, Nat.zero_le _⟩ (fun r' w1 hp => ?_)
    obtain ⟨rfl, rfl⟩ := hp
    refine And.intro (fun c6 => ?_) (fun c6 => ?_)
    · skip
      have c6 : (dgs 2 0 (pk 32 rs).2).1 = none := so_f c6
      refine vx_go hC hFt hini (vx_ends hC hr hlk) jc_Da_takeCommaForm 23 (by decide) rfl ?_
      refine And.intro (fun c26 => ?_) (fun c26 => ?_)
      · skip
        refine vx_go hC hFt hini (vx_ends hC hr hlk) jc_Da_takeCommaForm 40 (by decide) rfl ?_
        refine And.intro (rfl) (And.intro ?_ (And.intro (Nat.le_refl _) (Nat.le_refl _)))
        rw [show fC rs = none by unfold fC fT; rw [sb_t c3]; rw [sn_o (dgO_n c6)]]
        exact ⟨rfl, _, _, _, _, _, rfl, dgs_sf.trans (pk_sf.trans (hs)), (fun u hu => by cases hu)⟩
      · skip
        exact absurd rfl c26
    · skip
      obtain ⟨v2, h2⟩ := so_t c6
      refine ux_call hC (c_Rd_take l D tys tc hty 3 (by decide) h ra sa [.int (ly), .int (y0), .int (mo0), .int (iI (dgs 2 0 (pk 32 rs).2).1), .int (s0)] T (dgs 2 0 (pk 32 rs).2).2 sd ss 32 hT (dgs_sf.trans (pk_sf.trans (hs))) (by decide)) hrd (cw_U wm_Rd_take wl_Da_34 wsm_Da_take wi_Rd_take ws_Da_Da_take rfl hC.2.2.2.2.1 ⟨by decide, by decide⟩) rfl rfl rfl rfl (Nat.le_of_ble_eq_true rfl) ⟨Nat.zero_le _, Nat.zero_le _⟩ (fun r' w1 hp => ?_)
      obtain ⟨rfl, rfl⟩ := hp
      refine And.intro (fun c10 => ?_) (fun c10 => ?_)
      · skip
        have c10 : (pk 32 (dgs 2 0 (pk 32 rs).2).2).1 = false := bI_eq c10
        refine vx_go hC hFt hini (vx_ends hC hr hlk) jc_Da_takeCommaForm 23 (by decide) rfl ?_
        refine And.intro (fun c26 => ?_) (fun c26 => ?_)
        · skip
          refine vx_go hC hFt hini (vx_ends hC hr hlk) jc_Da_takeCommaForm 40 (by decide) rfl ?_
          refine And.intro (rfl) (And.intro ?_ (And.intro (Nat.le_refl _) (Nat.le_refl _)))
          rw [show fC rs = none by unfold fC fT; rw [sb_t c3]; rw [sn_v (dgO_s h2)]; rw [sb_f c10]]
          exact ⟨rfl, _, _, _, _, _, rfl, pk_sf.trans (dgs_sf.trans (pk_sf.trans (hs))), (fun u hu => by cases hu)⟩
        · skip
          exact absurd rfl c26
      · skip
        have c10 : (pk 32 (dgs 2 0 (pk 32 rs).2).2).1 = true := bI_ne c10
        refine ox_call hC (c_Da_takeMonth l D tys tc hty h ra sa T (pk 32 (dgs 2 0 (pk 32 rs).2).2).2 sd ss hT (pk_sf.trans (dgs_sf.trans (pk_sf.trans (hs)))) K (ly) (y0) (mo0) (iI (dgs 2 0 (pk 32 rs).2).1) (s0)) ⟨hrd, hg⟩ (cw_V wm_Da_takeMonth wl_Da_69 wi_Da_takeMonth ws_Da_Da_takeMonth hC.2.2.2.2.1 ⟨by decide, by decide⟩) rfl rfl rfl rfl (Nat.le_of_ble_eq_true rfl) ⟨Nat.zero_le _, Nat.zero_le _⟩ (fun r' w1 hp => ?_)
        obtain ⟨rfl, rfl⟩ := hp
        refine And.intro (fun c13 => ?_) (fun c13 => ?_)
        · skip
          have c13 : (nmAt monL (pk 32 (dgs 2 0 (pk 32 rs).2).2).2).1 = none := so_f c13
          refine vx_go hC hFt hini (vx_ends hC hr hlk) jc_Da_takeCommaForm 23 (by decide) rfl ?_
          refine And.intro (fun c26 => ?_) (fun c26 => ?_)
          · skip
            refine vx_go hC hFt hini (vx_ends hC hr hlk) jc_Da_takeCommaForm 40 (by decide) rfl ?_
            refine And.intro (rfl) (And.intro ?_ (And.intro (Nat.le_refl _) (Nat.le_refl _)))
            rw [show fC rs = none by unfold fC fT; rw [sb_t c3]; rw [sn_v (dgO_s h2)]; rw [sb_t c10]; rw [sn_o (nmO_n c13)]]
            exact ⟨rfl, _, _, _, _, _, rfl, nmAt_sf.trans (pk_sf.trans (dgs_sf.trans (pk_sf.trans (hs)))), (fun u hu => by cases hu)⟩
          · skip
            exact absurd rfl c26
        · skip
          obtain ⟨v4, h4⟩ := so_t c13
          refine ux_call hC (c_Rd_take l D tys tc hty 3 (by decide) h ra sa [.int (ly), .int (y0), .int (iI (nmAt monL (pk 32 (dgs 2 0 (pk 32 rs).2).2).2).1), .int (iI (dgs 2 0 (pk 32 rs).2).1), .int (s0)] T (nmAt monL (pk 32 (dgs 2 0 (pk 32 rs).2).2).2).2 sd ss 32 hT (nmAt_sf.trans (pk_sf.trans (dgs_sf.trans (pk_sf.trans (hs))))) (by decide)) hrd (cw_U wm_Rd_take wl_Da_34 wsm_Da_take wi_Rd_take ws_Da_Da_take rfl hC.2.2.2.2.1 ⟨by decide, by decide⟩) rfl rfl rfl rfl (Nat.le_of_ble_eq_true rfl) ⟨Nat.zero_le _, Nat.zero_le _⟩ (fun r' w1 hp => ?_)
          obtain ⟨rfl, rfl⟩ := hp
          refine And.intro (fun c17 => ?_) (fun c17 => ?_)
          · skip
            have c17 : (pk 32 (nmAt monL (pk 32 (dgs 2 0 (pk 32 rs).2).2).2).2).1 = false := bI_eq c17
            refine vx_go hC hFt hini (vx_ends hC hr hlk) jc_Da_takeCommaForm 23 (by decide) rfl ?_
            refine And.intro (fun c26 => ?_) (fun c26 => ?_)
            · skip
              refine vx_go hC hFt hini (vx_ends hC hr hlk) jc_Da_takeCommaForm 40 (by decide) rfl ?_
              refine And.intro (rfl) (And.intro ?_ (And.intro (Nat.le_refl _) (Nat.le_refl _)))
              rw [show fC rs = none by unfold fC fT; rw [sb_t c3]; rw [sn_v (dgO_s h2)]; rw [sb_t c10]; rw [sn_v (nmO_s h4)]; rw [sb_f c17]]
              exact ⟨rfl, _, _, _, _, _, rfl, pk_sf.trans (nmAt_sf.trans (pk_sf.trans (dgs_sf.trans (pk_sf.trans (hs))))), (fun u hu => by cases hu)⟩
            · skip
              exact absurd rfl c26
          · skip
            have c17 : (pk 32 (nmAt monL (pk 32 (dgs 2 0 (pk 32 rs).2).2).2).2).1 = true := bI_ne c17
            refine ox_call hC (c_Da_takeYear l D tys tc hty h ra sa T (pk 32 (nmAt monL (pk 32 (dgs 2 0 (pk 32 rs).2).2).2).2).2 sd ss hT (pk_sf.trans (nmAt_sf.trans (pk_sf.trans (dgs_sf.trans (pk_sf.trans (hs)))))) K (ly) (y0) (iI (nmAt monL (pk 32 (dgs 2 0 (pk 32 rs).2).2).2).1) (iI (dgs 2 0 (pk 32 rs).2).1) (s0)) ⟨hrd, hg⟩ (cw_V wm_Da_takeYear wl_Da_72 wi_Da_takeYear ws_Da_Da_takeYear hC.2.2.2.2.1 ⟨by decide, by decide⟩) rfl rfl rfl rfl (Nat.le_of_ble_eq_true rfl) ⟨Nat.zero_le _, Nat.zero_le _⟩ (fun r' w1 hp => ?_)
            obtain ⟨rfl, rfl⟩ := hp
            refine And.intro (fun c20 => ?_) (fun c20 => ?_)
            · skip
              have c20 : (dgs 4 0 (pk 32 (nmAt monL (pk 32 (dgs 2 0 (pk 32 rs).2).2).2).2).2).1 = none := so_f c20
              refine vx_go hC hFt hini (vx_ends hC hr hlk) jc_Da_takeCommaForm 23 (by decide) rfl ?_
              refine And.intro (fun c26 => ?_) (fun c26 => ?_)
              · skip
                refine vx_go hC hFt hini (vx_ends hC hr hlk) jc_Da_takeCommaForm 40 (by decide) rfl ?_
                refine And.intro (rfl) (And.intro ?_ (And.intro (Nat.le_refl _) (Nat.le_refl _)))
                rw [show fC rs = none by unfold fC fT; rw [sb_t c3]; rw [sn_v (dgO_s h2)]; rw [sb_t c10]; rw [sn_v (nmO_s h4)]; rw [sb_t c17]; rw [sn_o (dgO_n c20)]]
                exact ⟨rfl, _, _, _, _, _, rfl, dgs_sf.trans (pk_sf.trans (nmAt_sf.trans (pk_sf.trans (dgs_sf.trans (pk_sf.trans (hs)))))), (fun u hu => by cases hu)⟩
              · skip
                exact absurd rfl c26
            · skip
              obtain ⟨v6, h6⟩ := so_t c20
              refine vx_go hC hFt hini (vx_ends hC hr hlk) jc_Da_takeCommaForm 24 (by decide) rfl ?_
              refine And.intro (fun c26 => ?_) (fun c26 => ?_)
              · skip
                exact absurd c26 (by decide)
              · skip
                refine ux_call hC (c_Rd_take l D tys tc hty 3 (by decide) h ra sa [.int (ly), .int (iI (dgs 4 0 (pk 32 (nmAt monL (pk 32 (dgs 2 0 (pk 32 rs).2).2).2).2).2).1), .int (iI (nmAt monL (pk 32 (dgs 2 0 (pk 32 rs).2).2).2).1), .int (iI (dgs 2 0 (pk 32 rs).2).1), .int (s0)] T (dgs 4 0 (pk 32 (nmAt monL (pk 32 (dgs 2 0 (pk 32 rs).2).2).2).2).2).2 sd ss 32 hT (dgs_sf.trans (pk_sf.trans (nmAt_sf.trans (pk_sf.trans (dgs_sf.trans (pk_sf.trans (hs))))))) (by decide)) hrd (cw_U wm_Rd_take wl_Da_34 wsm_Da_take wi_Rd_take ws_Da_Da_take rfl hC.2.2.2.2.1 ⟨by decide, by decide⟩) rfl rfl rfl rfl (Nat.le_of_ble_eq_true rfl) ⟨Nat.zero_le _, Nat.zero_le _⟩ (fun r' w1 hp => ?_)
                obtain ⟨rfl, rfl⟩ := hp
                refine And.intro (fun c30 => ?_) (fun c30 => ?_)
                · skip
                  have c30 : (pk 32 (dgs 4 0 (pk 32 (nmAt monL (pk 32 (dgs 2 0 (pk 32 rs).2).2).2).2).2).2).1 = false := bI_eq c30
                  refine vx_go hC hFt hini (vx_ends hC hr hlk) jc_Da_takeCommaForm 40 (by decide) rfl ?_
                  refine And.intro (rfl) (And.intro ?_ (And.intro (Nat.le_refl _) (Nat.le_refl _)))
                  rw [show fC rs = none by unfold fC fT; rw [sb_t c3]; rw [sn_v (dgO_s h2)]; rw [sb_t c10]; rw [sn_v (nmO_s h4)]; rw [sb_t c17]; rw [sn_v (dgO_s h6)]; rw [sb_f c30]]
                  exact ⟨rfl, _, _, _, _, _, rfl, pk_sf.trans (dgs_sf.trans (pk_sf.trans (nmAt_sf.trans (pk_sf.trans (dgs_sf.trans (pk_sf.trans (hs))))))), (fun u hu => by cases hu)⟩
                · skip
                  have c30 : (pk 32 (dgs 4 0 (pk 32 (nmAt monL (pk 32 (dgs 2 0 (pk 32 rs).2).2).2).2).2).2).1 = true := bI_ne c30
                  refine ox_call hC (c_Da_takeClock l D tys tc hty h ra sa T (pk 32 (dgs 4 0 (pk 32 (nmAt monL (pk 32 (dgs 2 0 (pk 32 rs).2).2).2).2).2).2).2 sd ss hT (pk_sf.trans (dgs_sf.trans (pk_sf.trans (nmAt_sf.trans (pk_sf.trans (dgs_sf.trans (pk_sf.trans (hs)))))))) K (ly) (iI (dgs 4 0 (pk 32 (nmAt monL (pk 32 (dgs 2 0 (pk 32 rs).2).2).2).2).2).1) (iI (nmAt monL (pk 32 (dgs 2 0 (pk 32 rs).2).2).2).1) (iI (dgs 2 0 (pk 32 rs).2).1) (s0)) ⟨hrd, hg⟩ (cw_V wm_Da_takeClock wl_Da_75 wi_Da_takeClock ws_Da_Da_takeClock hC.2.2.2.2.1 ⟨by decide, by decide⟩) rfl rfl rfl rfl (Nat.le_of_ble_eq_true rfl) ⟨Nat.zero_le _, Nat.zero_le _⟩ (fun r' w1 hp => ?_)
                  obtain ⟨rfl, x8, r8, rfl, hs8, hx8⟩ := hp
                  refine And.intro (fun c33 => ?_) (fun c33 => ?_)
                  · skip
                    have c33 : (clk (pk 32 (dgs 4 0 (pk 32 (nmAt monL (pk 32 (dgs 2 0 (pk 32 rs).2).2).2).2).2).2).2) = none := sp_f c33
                    refine vx_go hC hFt hini (vx_ends hC hr hlk) jc_Da_takeCommaForm 40 (by decide) rfl ?_
                    refine And.intro (rfl) (And.intro ?_ (And.intro (Nat.le_refl _) (Nat.le_refl _)))
                    rw [show fC rs = none by unfold fC fT; rw [sb_t c3]; rw [sn_v (dgO_s h2)]; rw [sb_t c10]; rw [sn_v (nmO_s h4)]; rw [sb_t c17]; rw [sn_v (dgO_s h6)]; rw [sb_t c30]; rw [sn_o c33]]
                    exact ⟨rfl, _, _, _, _, _, rfl, hs8, (fun u hu => by cases hu)⟩
                  · skip
                    obtain ⟨v8, h8⟩ := sp_t c33
                    refine ⟨_, Or.inr (Or.inr ⟨_, _, rfl, (hg.1 5 _ rfl).1⟩), ?_⟩
                    refine ux_call hC (c_Rd_takeText l D tys tc hty 3 (by decide) h ra sa [.int (ly), .int (iI (dgs 4 0 (pk 32 (nmAt monL (pk 32 (dgs 2 0 (pk 32 rs).2).2).2).2).2).1), .int (iI (nmAt monL (pk 32 (dgs 2 0 (pk 32 rs).2).2).2).1), .int (iI (dgs 2 0 (pk 32 rs).2).1), .int (x8)] T r8 sd ss hT (hs8) (K 5) gmtL (by exact ⟨by decide, by decide⟩)) ⟨hrd, (hg.1 5 _ rfl).2⟩ (cw_U wm_Rd_takeText wl_Da_49 wsm_Da_takeText wi_Rd_takeText ws_Da_Da_takeText rfl hC.2.2.2.2.1 ⟨by decide, by decide⟩) rfl rfl rfl rfl (Nat.le_of_ble_eq_true rfl) ⟨Nat.zero_le _, Nat.zero_le _⟩ (fun r' w1 hp => ?_)
                    obtain ⟨rfl, rfl⟩ := hp
                    refine And.intro (fun c37 => ?_) (fun c37 => ?_)
                    · skip
                      have c37 : (tt gmtL r8).1 = false := bI_eq c37
                      refine vx_go hC hFt hini (vx_ends hC hr hlk) jc_Da_takeCommaForm 40 (by decide) rfl ?_
                      refine And.intro (rfl) (And.intro ?_ (And.intro (Nat.le_refl _) (Nat.le_refl _)))
                      rw [show fC rs = none by unfold fC fT; rw [sb_t c3]; rw [sn_v (dgO_s h2)]; rw [sb_t c10]; rw [sn_v (nmO_s h4)]; rw [sb_t c17]; rw [sn_v (dgO_s h6)]; rw [sb_t c30]; rw [sn_v h8, ← (hx8 _ h8).2]; rw [sb_f c37]]
                      exact ⟨rfl, _, _, _, _, _, rfl, tt_sf.trans (hs8), (fun u hu => by cases hu)⟩
                    · skip
                      have c37 : (tt gmtL r8).1 = true := bI_ne c37
                      refine vx_go hC hFt hini (vx_ends hC hr hlk) jc_Da_takeCommaForm 41 (by decide) rfl ?_
                      refine And.intro (rfl) (And.intro ?_ (And.intro (Nat.le_refl _) (Nat.le_refl _)))
                      have hv : fC rs = some ((v6, v4, v2, v8.1), (tt gmtL r8).2) := by
                        unfold fC fT
                        rw [sb_t c3]
                        rw [sn_v (dgO_s h2)]
                        rw [sb_t c10]
                        rw [sn_v (nmO_s h4)]
                        rw [sb_t c17]
                        rw [sn_v (dgO_s h6)]
                        rw [sb_t c30]
                        rw [sn_v h8, ← (hx8 _ h8).2]
                        rw [sb_t c37]
                      rw [hv]
                      refine ⟨rfl, _, _, _, _, _, rfl, tt_sf.trans (hs8), (fun u hu => ?_)⟩
                      obtain rfl := Option.some.inj hu
                      exact ⟨by rw [h6]; rfl, by rw [h4]; rfl, by rw [h2]; rfl, (hx8 _ h8).1, rfl⟩
set_option maxRecDepth 100000 in
set_option maxHeartbeats 4000000 in
theorem c_Da_takeDashForm (l : Launch) (D : va_G) (tys : List (ClassId × FieldType)) (tc : Nat → ClassId) (hty : ∀ i : Nat, i < 4 → tys[i]? = some (tc i, vx_ty i)) (h ra sa : Nat) (T rs : List Nat) (sd : Nat → Int32) (ss : Nat) (hT : isT T) (hs : rs <:+ T) (K : Nat → Nat) (lyn : Nat) (hly : lyn < 10000) (y0 mo0 d0 s0 : Int32) : Kt l y_Da_takeDashForm (yw y_Da_takeDashForm b_Da_takeDashForm 2 (some .boolean)) 6 128 0 0 D cls tys (fun A U H => rdF ra T A U H ∧ gF K A U H) [.ref h] (rdW tc 3 h ra sa [.int (nI lyn), .int (y0), .int (mo0), .int (d0), .int (s0)] T rs sd ss) (fun r w => r = some (.int (bI (fD lyn rs).isSome)) ∧ ∃ y2 mo2 d2 s2 rs2, w = (rdW tc 3 h ra sa [.int (nI lyn), .int (y2), .int (mo2), .int (d2), .int (s2)] T rs2 sd ss) ∧ rs2 <:+ T ∧ ∀ u, fD lyn rs = some u → y2 = nI u.1.1 ∧ mo2 = nI u.1.2.1 ∧ d2 = nI u.1.2.2.1 ∧ s2 = nI u.1.2.2.2 ∧ rs2 = u.2) := by
  refine Kt.of (ro_and (rdF_ro ra T) (gF_ro K)) (by decide) rfl hty (Nat.le_of_ble_eq_true rfl) ?_
  intro p e s m args below meth c0 A hC hr hlk hnm hF
  have hFt : vx_Ft y_Da_takeDashForm.cls (yw y_Da_takeDashForm b_Da_takeDashForm 2 (some .boolean)) cls cty ft_Da := ft_of (fun w h => List.mem_cons_of_mem _ h) fl_Da_in ft_Da_b
  have hini : false = true → meth.name = "<init>" := fun h => by cases h
  obtain ⟨hrd, hg⟩ := hF
  have hTl := hT.1
  refine vx_go hC hFt hini (vx_ends hC hr hlk) jc_Da_takeDashForm 0 (by decide) rfl ?_
  refine ⟨_, Or.inr (Or.inr ⟨_, _, rfl, (hg.1 6 _ rfl).1⟩), ?_⟩
  refine ux_call hC (c_Rd_takeText l D tys tc hty 3 (by decide) h ra sa [.int (nI lyn), .int (y0), .int (mo0), .int (d0), .int (s0)] T rs sd ss hT (hs) (K 6) [44, 32] (by exact ⟨by decide, by decide⟩)) ⟨hrd, (hg.1 6 _ rfl).2⟩ (cw_U wm_Rd_takeText wl_Da_49 wsm_Da_takeText wi_Rd_takeText ws_Da_Da_takeText rfl hC.2.2.2.2.1 ⟨by decide, by decide⟩) rfl rfl rfl rfl (Nat.le_of_ble_eq_true rfl) ⟨Nat.zero_le _, Nat.zero_le _⟩ (fun r' w1 hp => ?_)
  obtain ⟨rfl, rfl⟩ := hp
  refine And.intro (fun c3 => ?_) (fun c3 => ?_)
  · skip
    have c3 : (tt [44, 32] rs).1 = false := bI_eq c3
    refine vx_go hC hFt hini (vx_ends hC hr hlk) jc_Da_takeDashForm 23 (by decide) rfl ?_
    refine And.intro (fun c26 => ?_) (fun c26 => ?_)
    · skip
      refine vx_go hC hFt hini (vx_ends hC hr hlk) jc_Da_takeDashForm 40 (by decide) rfl ?_
      refine And.intro (rfl) (And.intro ?_ (And.intro (Nat.le_refl _) (Nat.le_refl _)))
      rw [show fD lyn rs = none by unfold fD fT; rw [sb_f c3]]
      exact ⟨rfl, _, _, _, _, _, rfl, tt_sf.trans (hs), (fun u hu => by cases hu)⟩
    · skip
      exact absurd rfl c26
  · skip
    have c3 : (tt [44, 32] rs).1 = true := bI_ne c3
    refine ox_call hC (c_Da_takeDay l D tys tc hty h ra sa T (tt [44, 32] rs).2 sd ss hT (tt_sf.trans (hs)) K (nI lyn) (y0) (mo0) (d0) (s0)) ⟨hrd, hg⟩ (cw_V wm_Da_takeDay wl_Da_66 wi_Da_takeDay ws_Da_Da_takeDay hC.2.2.2.2.1 ⟨by decide, by decide⟩) rfl rfl rfl rfl (Nat.le_of_ble_eq_true rfl) ⟨Nat.zero_le _, Nat.zero_le _⟩ (fun r' w1 hp => ?_)
    obtain ⟨rfl, rfl⟩ := hp
    refine And.intro (fun c6 => ?_) (fun c6 => ?_)
    · skip
      have c6 : (dgs 2 0 (tt [44, 32] rs).2).1 = none := so_f c6
      refine vx_go hC hFt hini (vx_ends hC hr hlk) jc_Da_takeDashForm 23 (by decide) rfl ?_
      refine And.intro (fun c26 => ?_) (fun c26 => ?_)
      · skip
        refine vx_go hC hFt hini (vx_ends hC hr hlk) jc_Da_takeDashForm 40 (by decide) rfl ?_
        refine And.intro (rfl) (And.intro ?_ (And.intro (Nat.le_refl _) (Nat.le_refl _)))
        rw [show fD lyn rs = none by unfold fD fT; rw [sb_t c3]; rw [sn_o (dgO_n c6)]]
        exact ⟨rfl, _, _, _, _, _, rfl, dgs_sf.trans (tt_sf.trans (hs)), (fun u hu => by cases hu)⟩
      · skip
        exact absurd rfl c26
    · skip
      obtain ⟨v2, h2⟩ := so_t c6
      refine ux_call hC (c_Rd_take l D tys tc hty 3 (by decide) h ra sa [.int (nI lyn), .int (y0), .int (mo0), .int (iI (dgs 2 0 (tt [44, 32] rs).2).1), .int (s0)] T (dgs 2 0 (tt [44, 32] rs).2).2 sd ss 45 hT (dgs_sf.trans (tt_sf.trans (hs))) (by decide)) hrd (cw_U wm_Rd_take wl_Da_34 wsm_Da_take wi_Rd_take ws_Da_Da_take rfl hC.2.2.2.2.1 ⟨by decide, by decide⟩) rfl rfl rfl rfl (Nat.le_of_ble_eq_true rfl) ⟨Nat.zero_le _, Nat.zero_le _⟩ (fun r' w1 hp => ?_)
      obtain ⟨rfl, rfl⟩ := hp
      refine And.intro (fun c10 => ?_) (fun c10 => ?_)
      · skip
        have c10 : (pk 45 (dgs 2 0 (tt [44, 32] rs).2).2).1 = false := bI_eq c10
        refine vx_go hC hFt hini (vx_ends hC hr hlk) jc_Da_takeDashForm 23 (by decide) rfl ?_
        refine And.intro (fun c26 => ?_) (fun c26 => ?_)
        · skip
          refine vx_go hC hFt hini (vx_ends hC hr hlk) jc_Da_takeDashForm 40 (by decide) rfl ?_
          refine And.intro (rfl) (And.intro ?_ (And.intro (Nat.le_refl _) (Nat.le_refl _)))
          rw [show fD lyn rs = none by unfold fD fT; rw [sb_t c3]; rw [sn_v (dgO_s h2)]; rw [sb_f c10]]
          exact ⟨rfl, _, _, _, _, _, rfl, pk_sf.trans (dgs_sf.trans (tt_sf.trans (hs))), (fun u hu => by cases hu)⟩
        · skip
          exact absurd rfl c26
      · skip
        have c10 : (pk 45 (dgs 2 0 (tt [44, 32] rs).2).2).1 = true := bI_ne c10
        refine ox_call hC (c_Da_takeMonth l D tys tc hty h ra sa T (pk 45 (dgs 2 0 (tt [44, 32] rs).2).2).2 sd ss hT (pk_sf.trans (dgs_sf.trans (tt_sf.trans (hs)))) K (nI lyn) (y0) (mo0) (iI (dgs 2 0 (tt [44, 32] rs).2).1) (s0)) ⟨hrd, hg⟩ (cw_V wm_Da_takeMonth wl_Da_69 wi_Da_takeMonth ws_Da_Da_takeMonth hC.2.2.2.2.1 ⟨by decide, by decide⟩) rfl rfl rfl rfl (Nat.le_of_ble_eq_true rfl) ⟨Nat.zero_le _, Nat.zero_le _⟩ (fun r' w1 hp => ?_)
        obtain ⟨rfl, rfl⟩ := hp
        refine And.intro (fun c13 => ?_) (fun c13 => ?_)
        · skip
          have c13 : (nmAt monL (pk 45 (dgs 2 0 (tt [44, 32] rs).2).2).2).1 = none := so_f c13
          refine vx_go hC hFt hini (vx_ends hC hr hlk) jc_Da_takeDashForm 23 (by decide) rfl ?_
          refine And.intro (fun c26 => ?_) (fun c26 => ?_)
          · skip
            refine vx_go hC hFt hini (vx_ends hC hr hlk) jc_Da_takeDashForm 40 (by decide) rfl ?_
            refine And.intro (rfl) (And.intro ?_ (And.intro (Nat.le_refl _) (Nat.le_refl _)))
            rw [show fD lyn rs = none by unfold fD fT; rw [sb_t c3]; rw [sn_v (dgO_s h2)]; rw [sb_t c10]; rw [sn_o (nmO_n c13)]]
            exact ⟨rfl, _, _, _, _, _, rfl, nmAt_sf.trans (pk_sf.trans (dgs_sf.trans (tt_sf.trans (hs)))), (fun u hu => by cases hu)⟩
          · skip
            exact absurd rfl c26
        · skip
          obtain ⟨v4, h4⟩ := so_t c13
          refine ux_call hC (c_Rd_take l D tys tc hty 3 (by decide) h ra sa [.int (nI lyn), .int (y0), .int (iI (nmAt monL (pk 45 (dgs 2 0 (tt [44, 32] rs).2).2).2).1), .int (iI (dgs 2 0 (tt [44, 32] rs).2).1), .int (s0)] T (nmAt monL (pk 45 (dgs 2 0 (tt [44, 32] rs).2).2).2).2 sd ss 45 hT (nmAt_sf.trans (pk_sf.trans (dgs_sf.trans (tt_sf.trans (hs))))) (by decide)) hrd (cw_U wm_Rd_take wl_Da_34 wsm_Da_take wi_Rd_take ws_Da_Da_take rfl hC.2.2.2.2.1 ⟨by decide, by decide⟩) rfl rfl rfl rfl (Nat.le_of_ble_eq_true rfl) ⟨Nat.zero_le _, Nat.zero_le _⟩ (fun r' w1 hp => ?_)
          obtain ⟨rfl, rfl⟩ := hp
          refine And.intro (fun c17 => ?_) (fun c17 => ?_)
          · skip
            have c17 : (pk 45 (nmAt monL (pk 45 (dgs 2 0 (tt [44, 32] rs).2).2).2).2).1 = false := bI_eq c17
            refine vx_go hC hFt hini (vx_ends hC hr hlk) jc_Da_takeDashForm 23 (by decide) rfl ?_
            refine And.intro (fun c26 => ?_) (fun c26 => ?_)
            · skip
              refine vx_go hC hFt hini (vx_ends hC hr hlk) jc_Da_takeDashForm 40 (by decide) rfl ?_
              refine And.intro (rfl) (And.intro ?_ (And.intro (Nat.le_refl _) (Nat.le_refl _)))
              rw [show fD lyn rs = none by unfold fD fT; rw [sb_t c3]; rw [sn_v (dgO_s h2)]; rw [sb_t c10]; rw [sn_v (nmO_s h4)]; rw [sb_f c17]]
              exact ⟨rfl, _, _, _, _, _, rfl, pk_sf.trans (nmAt_sf.trans (pk_sf.trans (dgs_sf.trans (tt_sf.trans (hs))))), (fun u hu => by cases hu)⟩
            · skip
              exact absurd rfl c26
          · skip
            have c17 : (pk 45 (nmAt monL (pk 45 (dgs 2 0 (tt [44, 32] rs).2).2).2).2).1 = true := bI_ne c17
            refine ox_call hC (c_Da_takeShortYear l D tys tc hty h ra sa T (pk 45 (nmAt monL (pk 45 (dgs 2 0 (tt [44, 32] rs).2).2).2).2).2 sd ss hT (pk_sf.trans (nmAt_sf.trans (pk_sf.trans (dgs_sf.trans (tt_sf.trans (hs)))))) K (lyn) (hly) (y0) (iI (nmAt monL (pk 45 (dgs 2 0 (tt [44, 32] rs).2).2).2).1) (iI (dgs 2 0 (tt [44, 32] rs).2).1) (s0)) ⟨hrd, hg⟩ (cw_V wm_Da_takeShortYear wl_Da_82 wi_Da_takeShortYear ws_Da_Da_takeShortYear hC.2.2.2.2.1 ⟨by decide, by decide⟩) rfl rfl rfl rfl (Nat.le_of_ble_eq_true rfl) ⟨Nat.zero_le _, Nat.zero_le _⟩ (fun r' w1 hp => ?_)
            obtain ⟨rfl, ys6, rfl, hys6⟩ := hp
            refine And.intro (fun c20 => ?_) (fun c20 => ?_)
            · skip
              have c20 : (dgs 2 0 (pk 45 (nmAt monL (pk 45 (dgs 2 0 (tt [44, 32] rs).2).2).2).2).2).1 = none := so_f c20
              refine vx_go hC hFt hini (vx_ends hC hr hlk) jc_Da_takeDashForm 23 (by decide) rfl ?_
              refine And.intro (fun c26 => ?_) (fun c26 => ?_)
              · skip
                refine vx_go hC hFt hini (vx_ends hC hr hlk) jc_Da_takeDashForm 40 (by decide) rfl ?_
                refine And.intro (rfl) (And.intro ?_ (And.intro (Nat.le_refl _) (Nat.le_refl _)))
                rw [show fD lyn rs = none by unfold fD fT; rw [sb_t c3]; rw [sn_v (dgO_s h2)]; rw [sb_t c10]; rw [sn_v (nmO_s h4)]; rw [sb_t c17]; rw [sn_o (dgO_n c20)]]
                exact ⟨rfl, _, _, _, _, _, rfl, dgs_sf.trans (pk_sf.trans (nmAt_sf.trans (pk_sf.trans (dgs_sf.trans (tt_sf.trans (hs)))))), (fun u hu => by cases hu)⟩
              · skip
                exact absurd rfl c26
            · skip
              obtain ⟨v6, h6⟩ := so_t c20
              refine vx_go hC hFt hini (vx_ends hC hr hlk) jc_Da_takeDashForm 24 (by decide) rfl ?_
              refine And.intro (fun c26 => ?_) (fun c26 => ?_)
              · skip
                exact absurd c26 (by decide)
              · skip
                refine ux_call hC (c_Rd_take l D tys tc hty 3 (by decide) h ra sa [.int (nI lyn), .int (ys6), .int (iI (nmAt monL (pk 45 (dgs 2 0 (tt [44, 32] rs).2).2).2).1), .int (iI (dgs 2 0 (tt [44, 32] rs).2).1), .int (s0)] T (dgs 2 0 (pk 45 (nmAt monL (pk 45 (dgs 2 0 (tt [44, 32] rs).2).2).2).2).2).2 sd ss 32 hT (dgs_sf.trans (pk_sf.trans (nmAt_sf.trans (pk_sf.trans (dgs_sf.trans (tt_sf.trans (hs))))))) (by decide)) hrd (cw_U wm_Rd_take wl_Da_34 wsm_Da_take wi_Rd_take ws_Da_Da_take rfl hC.2.2.2.2.1 ⟨by decide, by decide⟩) rfl rfl rfl rfl (Nat.le_of_ble_eq_true rfl) ⟨Nat.zero_le _, Nat.zero_le _⟩ (fun r' w1 hp => ?_)
                obtain ⟨rfl, rfl⟩ := hp
                refine And.intro (fun c30 => ?_) (fun c30 => ?_)
                · skip
                  have c30 : (pk 32 (dgs 2 0 (pk 45 (nmAt monL (pk 45 (dgs 2 0 (tt [44, 32] rs).2).2).2).2).2).2).1 = false := bI_eq c30
                  refine vx_go hC hFt hini (vx_ends hC hr hlk) jc_Da_takeDashForm 40 (by decide) rfl ?_
                  refine And.intro (rfl) (And.intro ?_ (And.intro (Nat.le_refl _) (Nat.le_refl _)))
                  rw [show fD lyn rs = none by unfold fD fT; rw [sb_t c3]; rw [sn_v (dgO_s h2)]; rw [sb_t c10]; rw [sn_v (nmO_s h4)]; rw [sb_t c17]; rw [sn_v (dgO_s h6)]; rw [sb_f c30]]
                  exact ⟨rfl, _, _, _, _, _, rfl, pk_sf.trans (dgs_sf.trans (pk_sf.trans (nmAt_sf.trans (pk_sf.trans (dgs_sf.trans (tt_sf.trans (hs))))))), (fun u hu => by cases hu)⟩
                · skip
                  have c30 : (pk 32 (dgs 2 0 (pk 45 (nmAt monL (pk 45 (dgs 2 0 (tt [44, 32] rs).2).2).2).2).2).2).1 = true := bI_ne c30
                  refine ox_call hC (c_Da_takeClock l D tys tc hty h ra sa T (pk 32 (dgs 2 0 (pk 45 (nmAt monL (pk 45 (dgs 2 0 (tt [44, 32] rs).2).2).2).2).2).2).2 sd ss hT (pk_sf.trans (dgs_sf.trans (pk_sf.trans (nmAt_sf.trans (pk_sf.trans (dgs_sf.trans (tt_sf.trans (hs)))))))) K (nI lyn) (ys6) (iI (nmAt monL (pk 45 (dgs 2 0 (tt [44, 32] rs).2).2).2).1) (iI (dgs 2 0 (tt [44, 32] rs).2).1) (s0)) ⟨hrd, hg⟩ (cw_V wm_Da_takeClock wl_Da_75 wi_Da_takeClock ws_Da_Da_takeClock hC.2.2.2.2.1 ⟨by decide, by decide⟩) rfl rfl rfl rfl (Nat.le_of_ble_eq_true rfl) ⟨Nat.zero_le _, Nat.zero_le _⟩ (fun r' w1 hp => ?_)
                  obtain ⟨rfl, x8, r8, rfl, hs8, hx8⟩ := hp
                  refine And.intro (fun c33 => ?_) (fun c33 => ?_)
                  · skip
                    have c33 : (clk (pk 32 (dgs 2 0 (pk 45 (nmAt monL (pk 45 (dgs 2 0 (tt [44, 32] rs).2).2).2).2).2).2).2) = none := sp_f c33
                    refine vx_go hC hFt hini (vx_ends hC hr hlk) jc_Da_takeDashForm 40 (by decide) rfl ?_
                    refine And.intro (rfl) (And.intro ?_ (And.intro (Nat.le_refl _) (Nat.le_refl _)))
                    rw [show fD lyn rs = none by unfold fD fT; rw [sb_t c3]; rw [sn_v (dgO_s h2)]; rw [sb_t c10]; rw [sn_v (nmO_s h4)]; rw [sb_t c17]; rw [sn_v (dgO_s h6)]; rw [sb_t c30]; rw [sn_o c33]]
                    exact ⟨rfl, _, _, _, _, _, rfl, hs8, (fun u hu => by cases hu)⟩
                  · skip
                    obtain ⟨v8, h8⟩ := sp_t c33
                    refine ⟨_, Or.inr (Or.inr ⟨_, _, rfl, (hg.1 5 _ rfl).1⟩), ?_⟩
                    refine ux_call hC (c_Rd_takeText l D tys tc hty 3 (by decide) h ra sa [.int (nI lyn), .int (ys6), .int (iI (nmAt monL (pk 45 (dgs 2 0 (tt [44, 32] rs).2).2).2).1), .int (iI (dgs 2 0 (tt [44, 32] rs).2).1), .int (x8)] T r8 sd ss hT (hs8) (K 5) gmtL (by exact ⟨by decide, by decide⟩)) ⟨hrd, (hg.1 5 _ rfl).2⟩ (cw_U wm_Rd_takeText wl_Da_49 wsm_Da_takeText wi_Rd_takeText ws_Da_Da_takeText rfl hC.2.2.2.2.1 ⟨by decide, by decide⟩) rfl rfl rfl rfl (Nat.le_of_ble_eq_true rfl) ⟨Nat.zero_le _, Nat.zero_le _⟩ (fun r' w1 hp => ?_)
                    obtain ⟨rfl, rfl⟩ := hp
                    refine And.intro (fun c37 => ?_) (fun c37 => ?_)
                    · skip
                      have c37 : (tt gmtL r8).1 = false := bI_eq c37
                      refine vx_go hC hFt hini (vx_ends hC hr hlk) jc_Da_takeDashForm 40 (by decide) rfl ?_
                      refine And.intro (rfl) (And.intro ?_ (And.intro (Nat.le_refl _) (Nat.le_refl _)))
                      rw [show fD lyn rs = none by unfold fD fT; rw [sb_t c3]; rw [sn_v (dgO_s h2)]; rw [sb_t c10]; rw [sn_v (nmO_s h4)]; rw [sb_t c17]; rw [sn_v (dgO_s h6)]; rw [sb_t c30]; rw [sn_v h8, ← (hx8 _ h8).2]; rw [sb_f c37]]
                      exact ⟨rfl, _, _, _, _, _, rfl, tt_sf.trans (hs8), (fun u hu => by cases hu)⟩
                    · skip
                      have c37 : (tt gmtL r8).1 = true := bI_ne c37
                      refine vx_go hC hFt hini (vx_ends hC hr hlk) jc_Da_takeDashForm 41 (by decide) rfl ?_
                      refine And.intro (rfl) (And.intro ?_ (And.intro (Nat.le_refl _) (Nat.le_refl _)))
                      have hv : fD lyn rs = some ((shy lyn v6, v4, v2, v8.1), (tt gmtL r8).2) := by
                        unfold fD fT
                        rw [sb_t c3]
                        rw [sn_v (dgO_s h2)]
                        rw [sb_t c10]
                        rw [sn_v (nmO_s h4)]
                        rw [sb_t c17]
                        rw [sn_v (dgO_s h6)]
                        rw [sb_t c30]
                        rw [sn_v h8, ← (hx8 _ h8).2]
                        rw [sb_t c37]
                      rw [hv]
                      refine ⟨rfl, _, _, _, _, _, rfl, tt_sf.trans (hs8), (fun u hu => ?_)⟩
                      obtain rfl := Option.some.inj hu
                      exact ⟨hys6 _ h6, by rw [h4]; rfl, by rw [h2]; rfl, (hx8 _ h8).1, rfl⟩
set_option maxRecDepth 100000 in
set_option maxHeartbeats 4000000 in
theorem c_Da_takeSpaceForm (l : Launch) (D : va_G) (tys : List (ClassId × FieldType)) (tc : Nat → ClassId) (hty : ∀ i : Nat, i < 4 → tys[i]? = some (tc i, vx_ty i)) (h ra sa : Nat) (T rs : List Nat) (sd : Nat → Int32) (ss : Nat) (hT : isT T) (hs : rs <:+ T) (K : Nat → Nat) (ly y0 mo0 d0 s0 : Int32) : Kt l y_Da_takeSpaceForm (yw y_Da_takeSpaceForm b_Da_takeSpaceForm 2 (some .boolean)) 6 128 0 0 D cls tys (fun A U H => rdF ra T A U H ∧ gF K A U H) [.ref h] (rdW tc 3 h ra sa [.int (ly), .int (y0), .int (mo0), .int (d0), .int (s0)] T rs sd ss) (fun r w => r = some (.int (bI (fS rs).isSome)) ∧ ∃ y2 mo2 d2 s2 rs2, w = (rdW tc 3 h ra sa [.int (ly), .int (y2), .int (mo2), .int (d2), .int (s2)] T rs2 sd ss) ∧ rs2 <:+ T ∧ ∀ u, fS rs = some u → y2 = nI u.1.1 ∧ mo2 = nI u.1.2.1 ∧ d2 = nI u.1.2.2.1 ∧ s2 = nI u.1.2.2.2 ∧ rs2 = u.2) := by
  refine Kt.of (ro_and (rdF_ro ra T) (gF_ro K)) (by decide) rfl hty (Nat.le_of_ble_eq_true rfl) ?_
  intro p e s m args below meth c0 A hC hr hlk hnm hF
  have hFt : vx_Ft y_Da_takeSpaceForm.cls (yw y_Da_takeSpaceForm b_Da_takeSpaceForm 2 (some .boolean)) cls cty ft_Da := ft_of (fun w h => List.mem_cons_of_mem _ h) fl_Da_in ft_Da_b
  have hini : false = true → meth.name = "<init>" := fun h => by cases h
  obtain ⟨hrd, hg⟩ := hF
  have hTl := hT.1
  refine vx_go hC hFt hini (vx_ends hC hr hlk) jc_Da_takeSpaceForm 0 (by decide) rfl ?_
  refine ox_call hC (c_Da_takeMonth l D tys tc hty h ra sa T rs sd ss hT (hs) K (ly) (y0) (mo0) (d0) (s0)) ⟨hrd, hg⟩ (cw_V wm_Da_takeMonth wl_Da_69 wi_Da_takeMonth ws_Da_Da_takeMonth hC.2.2.2.2.1 ⟨by decide, by decide⟩) rfl rfl rfl rfl (Nat.le_of_ble_eq_true rfl) ⟨Nat.zero_le _, Nat.zero_le _⟩ (fun r' w1 hp => ?_)
  obtain ⟨rfl, rfl⟩ := hp
  refine And.intro (fun c2 => ?_) (fun c2 => ?_)
  · skip
    have c2 : (nmAt monL rs).1 = none := so_f c2
    refine vx_go hC hFt hini (vx_ends hC hr hlk) jc_Da_takeSpaceForm 16 (by decide) rfl ?_
    refine And.intro (fun c19 => ?_) (fun c19 => ?_)
    · skip
      refine vx_go hC hFt hini (vx_ends hC hr hlk) jc_Da_takeSpaceForm 32 (by decide) rfl ?_
      refine And.intro (rfl) (And.intro ?_ (And.intro (Nat.le_refl _) (Nat.le_refl _)))
      rw [show fS rs = none by unfold fS; rw [sn_o (nmO_n c2)]]
      exact ⟨rfl, _, _, _, _, _, rfl, nmAt_sf.trans (hs), (fun u hu => by cases hu)⟩
    · skip
      exact absurd rfl c19
  · skip
    obtain ⟨v1, h1⟩ := so_t c2
    refine ux_call hC (c_Rd_take l D tys tc hty 3 (by decide) h ra sa [.int (ly), .int (y0), .int (iI (nmAt monL rs).1), .int (d0), .int (s0)] T (nmAt monL rs).2 sd ss 32 hT (nmAt_sf.trans (hs)) (by decide)) hrd (cw_U wm_Rd_take wl_Da_34 wsm_Da_take wi_Rd_take ws_Da_Da_take rfl hC.2.2.2.2.1 ⟨by decide, by decide⟩) rfl rfl rfl rfl (Nat.le_of_ble_eq_true rfl) ⟨Nat.zero_le _, Nat.zero_le _⟩ (fun r' w1 hp => ?_)
    obtain ⟨rfl, rfl⟩ := hp
    refine And.intro (fun c6 => ?_) (fun c6 => ?_)
    · skip
      have c6 : (pk 32 (nmAt monL rs).2).1 = false := bI_eq c6
      refine vx_go hC hFt hini (vx_ends hC hr hlk) jc_Da_takeSpaceForm 16 (by decide) rfl ?_
      refine And.intro (fun c19 => ?_) (fun c19 => ?_)
      · skip
        refine vx_go hC hFt hini (vx_ends hC hr hlk) jc_Da_takeSpaceForm 32 (by decide) rfl ?_
        refine And.intro (rfl) (And.intro ?_ (And.intro (Nat.le_refl _) (Nat.le_refl _)))
        rw [show fS rs = none by unfold fS; rw [sn_v (nmO_s h1)]; rw [sb_f c6]]
        exact ⟨rfl, _, _, _, _, _, rfl, pk_sf.trans (nmAt_sf.trans (hs)), (fun u hu => by cases hu)⟩
      · skip
        exact absurd rfl c19
    · skip
      have c6 : (pk 32 (nmAt monL rs).2).1 = true := bI_ne c6
      refine ox_call hC (c_Da_takeSpacedDay l D tys tc hty h ra sa T (pk 32 (nmAt monL rs).2).2 sd ss hT (pk_sf.trans (nmAt_sf.trans (hs))) K (ly) (y0) (iI (nmAt monL rs).1) (d0) (s0)) ⟨hrd, hg⟩ (cw_V wm_Da_takeSpacedDay wl_Da_85 wi_Da_takeSpacedDay ws_Da_Da_takeSpacedDay hC.2.2.2.2.1 ⟨by decide, by decide⟩) rfl rfl rfl rfl (Nat.le_of_ble_eq_true rfl) ⟨Nat.zero_le _, Nat.zero_le _⟩ (fun r' w1 hp => ?_)
      obtain ⟨rfl, x3, r3, rfl, hs3, hx3⟩ := hp
      refine And.intro (fun c9 => ?_) (fun c9 => ?_)
      · skip
        have c9 : (pday (pk 32 (nmAt monL rs).2).2) = none := sp_f c9
        refine vx_go hC hFt hini (vx_ends hC hr hlk) jc_Da_takeSpaceForm 16 (by decide) rfl ?_
        refine And.intro (fun c19 => ?_) (fun c19 => ?_)
        · skip
          refine vx_go hC hFt hini (vx_ends hC hr hlk) jc_Da_takeSpaceForm 32 (by decide) rfl ?_
          refine And.intro (rfl) (And.intro ?_ (And.intro (Nat.le_refl _) (Nat.le_refl _)))
          rw [show fS rs = none by unfold fS; rw [sn_v (nmO_s h1)]; rw [sb_t c6]; rw [sn_o c9]]
          exact ⟨rfl, _, _, _, _, _, rfl, hs3, (fun u hu => by cases hu)⟩
        · skip
          exact absurd rfl c19
      · skip
        obtain ⟨v3, h3⟩ := sp_t c9
        refine ux_call hC (c_Rd_take l D tys tc hty 3 (by decide) h ra sa [.int (ly), .int (y0), .int (iI (nmAt monL rs).1), .int (x3), .int (s0)] T r3 sd ss 32 hT (hs3) (by decide)) hrd (cw_U wm_Rd_take wl_Da_34 wsm_Da_take wi_Rd_take ws_Da_Da_take rfl hC.2.2.2.2.1 ⟨by decide, by decide⟩) rfl rfl rfl rfl (Nat.le_of_ble_eq_true rfl) ⟨Nat.zero_le _, Nat.zero_le _⟩ (fun r' w1 hp => ?_)
        obtain ⟨rfl, rfl⟩ := hp
        refine And.intro (fun c13 => ?_) (fun c13 => ?_)
        · skip
          have c13 : (pk 32 r3).1 = false := bI_eq c13
          refine vx_go hC hFt hini (vx_ends hC hr hlk) jc_Da_takeSpaceForm 16 (by decide) rfl ?_
          refine And.intro (fun c19 => ?_) (fun c19 => ?_)
          · skip
            refine vx_go hC hFt hini (vx_ends hC hr hlk) jc_Da_takeSpaceForm 32 (by decide) rfl ?_
            refine And.intro (rfl) (And.intro ?_ (And.intro (Nat.le_refl _) (Nat.le_refl _)))
            rw [show fS rs = none by unfold fS; rw [sn_v (nmO_s h1)]; rw [sb_t c6]; rw [sn_v h3, ← (hx3 _ h3).2]; rw [sb_f c13]]
            exact ⟨rfl, _, _, _, _, _, rfl, pk_sf.trans (hs3), (fun u hu => by cases hu)⟩
          · skip
            exact absurd rfl c19
        · skip
          have c13 : (pk 32 r3).1 = true := bI_ne c13
          refine vx_go hC hFt hini (vx_ends hC hr hlk) jc_Da_takeSpaceForm 17 (by decide) rfl ?_
          refine And.intro (fun c19 => ?_) (fun c19 => ?_)
          · skip
            exact absurd c19 (by decide)
          · skip
            refine ox_call hC (c_Da_takeClock l D tys tc hty h ra sa T (pk 32 r3).2 sd ss hT (pk_sf.trans (hs3)) K (ly) (y0) (iI (nmAt monL rs).1) (x3) (s0)) ⟨hrd, hg⟩ (cw_V wm_Da_takeClock wl_Da_75 wi_Da_takeClock ws_Da_Da_takeClock hC.2.2.2.2.1 ⟨by decide, by decide⟩) rfl rfl rfl rfl (Nat.le_of_ble_eq_true rfl) ⟨Nat.zero_le _, Nat.zero_le _⟩ (fun r' w1 hp => ?_)
            obtain ⟨rfl, x5, r5, rfl, hs5, hx5⟩ := hp
            refine And.intro (fun c22 => ?_) (fun c22 => ?_)
            · skip
              have c22 : (clk (pk 32 r3).2) = none := sp_f c22
              refine vx_go hC hFt hini (vx_ends hC hr hlk) jc_Da_takeSpaceForm 32 (by decide) rfl ?_
              refine And.intro (rfl) (And.intro ?_ (And.intro (Nat.le_refl _) (Nat.le_refl _)))
              rw [show fS rs = none by unfold fS; rw [sn_v (nmO_s h1)]; rw [sb_t c6]; rw [sn_v h3, ← (hx3 _ h3).2]; rw [sb_t c13]; rw [sn_o c22]]
              exact ⟨rfl, _, _, _, _, _, rfl, hs5, (fun u hu => by cases hu)⟩
            · skip
              obtain ⟨v5, h5⟩ := sp_t c22
              refine ux_call hC (c_Rd_take l D tys tc hty 3 (by decide) h ra sa [.int (ly), .int (y0), .int (iI (nmAt monL rs).1), .int (x3), .int (x5)] T r5 sd ss 32 hT (hs5) (by decide)) hrd (cw_U wm_Rd_take wl_Da_34 wsm_Da_take wi_Rd_take ws_Da_Da_take rfl hC.2.2.2.2.1 ⟨by decide, by decide⟩) rfl rfl rfl rfl (Nat.le_of_ble_eq_true rfl) ⟨Nat.zero_le _, Nat.zero_le _⟩ (fun r' w1 hp => ?_)
              obtain ⟨rfl, rfl⟩ := hp
              refine And.intro (fun c26 => ?_) (fun c26 => ?_)
              · skip
                have c26 : (pk 32 r5).1 = false := bI_eq c26
                refine vx_go hC hFt hini (vx_ends hC hr hlk) jc_Da_takeSpaceForm 32 (by decide) rfl ?_
                refine And.intro (rfl) (And.intro ?_ (And.intro (Nat.le_refl _) (Nat.le_refl _)))
                rw [show fS rs = none by unfold fS; rw [sn_v (nmO_s h1)]; rw [sb_t c6]; rw [sn_v h3, ← (hx3 _ h3).2]; rw [sb_t c13]; rw [sn_v h5, ← (hx5 _ h5).2]; rw [sb_f c26]]
                exact ⟨rfl, _, _, _, _, _, rfl, pk_sf.trans (hs5), (fun u hu => by cases hu)⟩
              · skip
                have c26 : (pk 32 r5).1 = true := bI_ne c26
                refine ox_call hC (c_Da_takeYear l D tys tc hty h ra sa T (pk 32 r5).2 sd ss hT (pk_sf.trans (hs5)) K (ly) (y0) (iI (nmAt monL rs).1) (x3) (x5)) ⟨hrd, hg⟩ (cw_V wm_Da_takeYear wl_Da_72 wi_Da_takeYear ws_Da_Da_takeYear hC.2.2.2.2.1 ⟨by decide, by decide⟩) rfl rfl rfl rfl (Nat.le_of_ble_eq_true rfl) ⟨Nat.zero_le _, Nat.zero_le _⟩ (fun r' w1 hp => ?_)
                obtain ⟨rfl, rfl⟩ := hp
                refine And.intro (fun c29 => ?_) (fun c29 => ?_)
                · skip
                  have c29 : (dgs 4 0 (pk 32 r5).2).1 = none := so_f c29
                  refine vx_go hC hFt hini (vx_ends hC hr hlk) jc_Da_takeSpaceForm 32 (by decide) rfl ?_
                  refine And.intro (rfl) (And.intro ?_ (And.intro (Nat.le_refl _) (Nat.le_refl _)))
                  rw [show fS rs = none by unfold fS; rw [sn_v (nmO_s h1)]; rw [sb_t c6]; rw [sn_v h3, ← (hx3 _ h3).2]; rw [sb_t c13]; rw [sn_v h5, ← (hx5 _ h5).2]; rw [sb_t c26]; rw [sn_o (dgO_n c29)]]
                  exact ⟨rfl, _, _, _, _, _, rfl, dgs_sf.trans (pk_sf.trans (hs5)), (fun u hu => by cases hu)⟩
                · skip
                  obtain ⟨v7, h7⟩ := so_t c29
                  refine vx_go hC hFt hini (vx_ends hC hr hlk) jc_Da_takeSpaceForm 33 (by decide) rfl ?_
                  refine And.intro (rfl) (And.intro ?_ (And.intro (Nat.le_refl _) (Nat.le_refl _)))
                  have hv : fS rs = some ((v7, v1, v3.1, v5.1), (dgs 4 0 (pk 32 r5).2).2) := by
                    unfold fS
                    rw [sn_v (nmO_s h1)]
                    rw [sb_t c6]
                    rw [sn_v h3, ← (hx3 _ h3).2]
                    rw [sb_t c13]
                    rw [sn_v h5, ← (hx5 _ h5).2]
                    rw [sb_t c26]
                    rw [sn_v (dgO_s h7)]
                  rw [hv]
                  refine ⟨rfl, _, _, _, _, _, rfl, dgs_sf.trans (pk_sf.trans (hs5)), (fun u hu => ?_)⟩
                  obtain rfl := Option.some.inj hu
                  exact ⟨by rw [h7]; rfl, by rw [h1]; rfl, (hx3 _ h3).1, (hx5 _ h5).1, rfl⟩
