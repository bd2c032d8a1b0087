/-! THE CLASS: Tags, by program (wip/whole/gen/p65.py) -/
theorem tgt_sf {rs : List Nat} : (tgt rs).2.2.1 <:+ rs := by
  unfold tgt
  split
  · split
    · exact opq_sf.trans tt_sf
    · exact List.nil_suffix
  · exact opq_sf
set_option maxRecDepth 100000 in
set_option maxHeartbeats 4000000 in
theorem c_Tg_readTag (l : Launch) (D : va_G) (tys : List (ClassId × FieldType)) (tc : Nat → ClassId) (hty : ∀ i : Nat, i < 4 → tys[i]? = some (tc i, vx_ty i)) (h ra sa : Nat) (T rs : List Nat) (sd : Nat → Int32) (ss : Nat) (hT : isT T) (hs : rs <:+ T) (K : Nat → Nat) (st0 : Int32) (sm sg : Bool) (a : Nat) (W : List Nat) (hWW : isW W) : Kt l y_Tg_readTag (yw y_Tg_readTag b_Tg_readTag 4 (some .boolean)) 5 107 0 0 D cls tys (fun A U H => rdF ra T A U H ∧ gF K A U H ∧ tF a W A U H) [.ref h, .ref a] (rdW tc 2 h ra sa [.int (st0), .int (bI sm), .int (bI sg)] T rs sd ss) (fun r w => r = some (.int (bI (tgt rs).1)) ∧ ∃ sm2 sg2 rs2 sd2 ss2, w = (rdW tc 2 h ra sa [.int (st0), .int (bI sm2), .int (bI sg2)] T rs2 sd2 ss2) ∧ rs2 <:+ T ∧ ((tgt rs).1 = true → rs2 = (tgt rs).2.2.1 ∧ sm2 = (sm || sameL (tgt rs).2.2.2 W) ∧ sg2 = (sg || (sameL (tgt rs).2.2.2 W && !(tgt rs).2.1)))) := by
  refine Kt.of (ro_and (rdF_ro ra T) (ro_and (gF_ro K) (tF_ro a W))) (by decide) rfl hty (Nat.le_of_ble_eq_true rfl) ?_
  intro p e s m args below meth c0 A hC hr hlk hnm hF
  have hFt : vx_Ft y_Tg_readTag.cls (yw y_Tg_readTag b_Tg_readTag 4 (some .boolean)) cls cty ft_Tg := ft_of (fun w h => List.mem_cons_of_mem _ h) fl_Tg_in ft_Tg_b
  have hini : false = true → meth.name = "<init>" := fun h => by cases h
  obtain ⟨hrd, hg, hst⟩ := hF
  have hTl := hT.1
  refine vx_cut (α := (Nat → Int32)) 29 (fun u => sdIs u (tgt rs).2.2.2 ∧ (tgt rs).1 = true ∧ ((tgt rs).2.2.2.length ≤ 96 ∧ ∀ i, i < (tgt rs).2.2.2.length → (tgt rs).2.2.2.getD i 0 < 256) ∧ (tgt rs).2.2.1 <:+ T) (fun u => [(0, .ref h), (1, .ref a), (2, .int (bI (tgt rs).2.1))]) (fun u => []) (fun u => (rdW tc 2 h ra sa [.int (st0), .int (bI sm), .int (bI sg)] T (tgt rs).2.2.1 u (tgt rs).2.2.2.length)) (fun hJ15 => ?_) ?_
  · skip
    refine vx_gon hC hFt hini (vx_ends hC hr hlk) jc_Tg_readTag 0 15 (by decide) rfl ?_
    refine ux_call hC (c_Rd_isNext l D tys tc hty 2 (by decide) h ra sa [.int (st0), .int (bI sm), .int (bI sg)] T rs sd ss hT hs 87 (by decide)) hrd (cw_U wm_Rd_isNext wl_Tg_49 wsm_Tg_isNext wi_Rd_isNext ws_Tg_Tg_isNext rfl hC.2.2.2.2.1 ⟨by decide, by decide⟩) rfl rfl rfl rfl (Nat.le_of_ble_eq_true rfl) ⟨Nat.zero_le _, Nat.zero_le _⟩ (fun r' w1 hp => ?_)
    obtain ⟨rfl, rfl⟩ := hp
    refine And.intro (fun c5 => ?_) (fun c5 => ?_)
    · skip
      have c5 : (pk 87 rs).1 = false := bI_eq c5
      refine vx_gon hC hFt hini (vx_ends hC hr hlk) jc_Tg_readTag 10 5 (by decide) rfl ?_
      refine ux_call hC (c_Rd_takeOpaque l D tys tc hty 2 (by decide) h ra sa [.int (st0), .int (bI sm), .int (bI sg)] T rs sd ss hT hs) hrd (cw_U wm_Rd_takeOpaque wl_Tg_57 wsm_Tg_takeOpaque wi_Rd_takeOpaque ws_Tg_Tg_takeOpaque rfl hC.2.2.2.2.1 ⟨by decide, by decide⟩) rfl rfl rfl rfl (Nat.le_of_ble_eq_true rfl) ⟨Nat.zero_le _, Nat.zero_le _⟩ (fun r' w1 hp => ?_)
      obtain ⟨rfl, sd1, hsd1, rfl⟩ := hp
      refine And.intro (fun c12 => ?_) (fun c12 => ?_)
      · skip
        have c12 : (opq rs).1 = true := bI_ne c12
        refine Vx.subL (lv' := [(0, .ref h), (1, .ref a), (2, .int (bI (pk 87 rs).1))]) [1, 2, 0] rfl ?_
        have ht : (tgt rs) = ((opq rs).1, false, (opq rs).2.1, (opq rs).2.2) := by unfold tgt; rw [if_neg (by rw [c5]; exact fun z => by cases z)]
        refine Vx.eqs rfl (lv2 := [(0, .ref h), (1, .ref a), (2, .int (bI (tgt rs).2.1))]) (by rw [ht, c5]) rfl (w2 := (rdW tc 2 h ra sa [.int (st0), .int (bI sm), .int (bI sg)] T (tgt rs).2.2.1 sd1 (tgt rs).2.2.2.length)) (by rw [ht]) ?_
        exact hJ15 sd1 ⟨by rw [ht]; exact hsd1, by rw [ht]; exact c12, by rw [ht]; exact in_lt hT hs opq_in, by rw [ht]; exact opq_sf.trans hs⟩
      · skip
        have c12 : (opq rs).1 = false := bI_eq (c12)
        refine And.intro (rfl) (And.intro ?_ (And.intro (Nat.le_refl _) (Nat.le_refl _)))
        have ht : (tgt rs).1 = false := by unfold tgt; rw [if_neg (by rw [c5]; exact fun z => by cases z)]; exact c12
        rw [ht]
        exact ⟨rfl, sm, sg, _, _, _, rfl, opq_sf.trans hs, (fun z => by cases z)⟩
    · skip
      have c5 : (pk 87 rs).1 = true := bI_ne c5
      refine ⟨_, Or.inr (Or.inr ⟨_, _, rfl, (hg.1 19 _ rfl).1⟩), ?_⟩
      refine ux_call hC (c_Rd_takeText l D tys tc hty 2 (by decide) h ra sa [.int (st0), .int (bI sm), .int (bI sg)] T rs sd ss hT hs (K 19) [87, 47] (by exact ⟨by decide, by decide⟩)) ⟨hrd, (hg.1 19 _ rfl).2⟩ (cw_U wm_Rd_takeText wl_Tg_54 wsm_Tg_takeText wi_Rd_takeText ws_Tg_Tg_takeText rfl hC.2.2.2.2.1 ⟨by decide, by decide⟩) rfl rfl rfl rfl (Nat.le_of_ble_eq_true rfl) ⟨Nat.zero_le _, Nat.zero_le _⟩ (fun r' w1 hp => ?_)
      obtain ⟨rfl, rfl⟩ := hp
      refine And.intro (fun c9 => ?_) (fun c9 => ?_)
      · skip
        have c9 : (tt [87, 47] rs).1 = false := bI_eq c9
        refine vx_gon hC hFt hini (vx_ends hC hr hlk) jc_Tg_readTag 13 2 (by decide) rfl ?_
        refine And.intro (rfl) (And.intro ?_ (And.intro (Nat.le_refl _) (Nat.le_refl _)))
        have ht : (tgt rs).1 = false := by unfold tgt; rw [if_pos c5, if_neg (by rw [c9]; exact fun z => by cases z)]
        rw [ht]
        exact ⟨rfl, sm, sg, _, _, _, rfl, tt_sf.trans hs, (fun z => by cases z)⟩
      · skip
        have c9 : (tt [87, 47] rs).1 = true := bI_ne c9
        refine ux_call hC (c_Rd_takeOpaque l D tys tc hty 2 (by decide) h ra sa [.int (st0), .int (bI sm), .int (bI sg)] T (tt [87, 47] rs).2 sd ss hT (tt_sf.trans hs)) hrd (cw_U wm_Rd_takeOpaque wl_Tg_57 wsm_Tg_takeOpaque wi_Rd_takeOpaque ws_Tg_Tg_takeOpaque rfl hC.2.2.2.2.1 ⟨by decide, by decide⟩) rfl rfl rfl rfl (Nat.le_of_ble_eq_true rfl) ⟨Nat.zero_le _, Nat.zero_le _⟩ (fun r' w1 hp => ?_)
        obtain ⟨rfl, sd1, hsd1, rfl⟩ := hp
        refine And.intro (fun c12 => ?_) (fun c12 => ?_)
        · skip
          have c12 : (opq (tt [87, 47] rs).2).1 = true := bI_ne c12
          refine Vx.subL (lv' := [(0, .ref h), (1, .ref a), (2, .int (bI (pk 87 rs).1))]) [1, 2, 0] rfl ?_
          have ht : (tgt rs) = ((opq (tt [87, 47] rs).2).1, true, (opq (tt [87, 47] rs).2).2.1, (opq (tt [87, 47] rs).2).2.2) := by unfold tgt; rw [if_pos c5, if_pos c9]
          refine Vx.eqs rfl (lv2 := [(0, .ref h), (1, .ref a), (2, .int (bI (tgt rs).2.1))]) (by rw [ht, c5]) rfl (w2 := (rdW tc 2 h ra sa [.int (st0), .int (bI sm), .int (bI sg)] T (tgt rs).2.2.1 sd1 (tgt rs).2.2.2.length)) (by rw [ht]) ?_
          exact hJ15 sd1 ⟨by rw [ht]; exact hsd1, by rw [ht]; exact c12, by rw [ht]; exact in_lt hT (tt_sf.trans hs) opq_in, by rw [ht]; exact opq_sf.trans (tt_sf.trans hs)⟩
        · skip
          have c12 : (opq (tt [87, 47] rs).2).1 = false := bI_eq (c12)
          refine And.intro (rfl) (And.intro ?_ (And.intro (Nat.le_refl _) (Nat.le_refl _)))
          have ht : (tgt rs).1 = false := by unfold tgt; rw [if_pos c5, if_pos c9]; exact c12
          rw [ht]
          exact ⟨rfl, sm, sg, _, _, _, rfl, opq_sf.trans (tt_sf.trans hs), (fun z => by cases z)⟩
  · rintro sd1 ⟨hsd1, hok, hin1, hs1⟩
    refine vx_go hC hFt hini (vx_ends hC hr hlk) jc_Tg_readTag 15 (by decide) rfl ?_
    refine ux_call hC (c_Rd_isSaid l D tys tc hty 2 (by decide) h ra sa [.int (st0), .int (bI sm), .int (bI sg)] T (tgt rs).2.2.1 sd1 (tgt rs).2.2.2.length hT hs1 a W hWW (tgt rs).2.2.2 hsd1 rfl hin1.1 hin1.2) hst (cw_U wm_Rd_isSaid wl_Tg_60 wsm_Tg_isSaid wi_Rd_isSaid ws_Tg_Tg_isSaid rfl hC.2.2.2.2.1 ⟨by decide, by decide⟩) rfl rfl rfl rfl (Nat.le_of_ble_eq_true rfl) ⟨Nat.zero_le _, Nat.zero_le _⟩ (fun r' w1 hp => ?_)
    obtain ⟨rfl, rfl⟩ := hp
    refine And.intro rfl ?_
    refine And.intro (fun c22 => ?_) (fun c22 => ?_)
    · skip
      have c22 : sm = true := bI_ne c22
      refine vx_go hC hFt hini (vx_ends hC hr hlk) jc_Tg_readTag 25 (by decide) rfl ?_
      refine vx_go hC hFt hini (vx_ends hC hr hlk) jc_Tg_readTag 28 (by decide) rfl ?_
      refine And.intro rfl (And.intro (And.intro rfl rfl) ?_)
      refine And.intro rfl ?_
      refine And.intro (fun c32 => ?_) (fun c32 => ?_)
      · skip
        have c32 : sg = true := bI_ne c32
        refine vx_go hC hFt hini (vx_ends hC hr hlk) jc_Tg_readTag 37 (by decide) rfl ?_
        refine vx_go hC hFt hini (vx_ends hC hr hlk) jc_Tg_readTag 40 (by decide) rfl ?_
        refine And.intro rfl (And.intro (And.intro rfl rfl) ?_)
        refine And.intro (rfl) (And.intro ?_ (And.intro (Nat.le_refl _) (Nat.le_refl _)))
        have hm : (sm || sameL (tgt rs).2.2.2 W) = true := by rw [c22]; rfl
        have hg2 : (sg || (sameL (tgt rs).2.2.2 W && !(tgt rs).2.1)) = true := by rw [c32]; rfl
        rw [hok]
        exact ⟨rfl, true, true, _, _, _, rfl, hs1, (fun _ => ⟨rfl, hm.symm, hg2.symm⟩)⟩
      · skip
        have c32 : sg = false := bI_eq c32
        refine And.intro (fun c34 => ?_) (fun c34 => ?_)
        · skip
          have c34 : (sameL (tgt rs).2.2.2 W) = false := bI_eq c34
          refine vx_go hC hFt hini (vx_ends hC hr hlk) jc_Tg_readTag 39 (by decide) rfl ?_
          refine And.intro rfl (And.intro (And.intro rfl rfl) ?_)
          refine And.intro (rfl) (And.intro ?_ (And.intro (Nat.le_refl _) (Nat.le_refl _)))
          have hm : (sm || sameL (tgt rs).2.2.2 W) = true := by rw [c22]; rfl
          have hg2 : (sg || (sameL (tgt rs).2.2.2 W && !(tgt rs).2.1)) = false := by rw [c32, c34]; rfl
          rw [hok]
          exact ⟨rfl, true, false, _, _, _, rfl, hs1, (fun _ => ⟨rfl, hm.symm, hg2.symm⟩)⟩
        · skip
          have c34 : (sameL (tgt rs).2.2.2 W) = true := bI_ne c34
          refine And.intro (fun c36 => ?_) (fun c36 => ?_)
          · skip
            have c36 : (tgt rs).2.1 = true := bI_ne c36
            refine vx_go hC hFt hini (vx_ends hC hr hlk) jc_Tg_readTag 39 (by decide) rfl ?_
            refine And.intro rfl (And.intro (And.intro rfl rfl) ?_)
            refine And.intro (rfl) (And.intro ?_ (And.intro (Nat.le_refl _) (Nat.le_refl _)))
            have hm : (sm || sameL (tgt rs).2.2.2 W) = true := by rw [c22]; rfl
            have hg2 : (sg || (sameL (tgt rs).2.2.2 W && !(tgt rs).2.1)) = false := by rw [c32, c36, Bool.not_true, Bool.and_false]; rfl
            rw [hok]
            exact ⟨rfl, true, false, _, _, _, rfl, hs1, (fun _ => ⟨rfl, hm.symm, hg2.symm⟩)⟩
          · skip
            have c36 : (tgt rs).2.1 = false := bI_eq c36
            refine vx_go hC hFt hini (vx_ends hC hr hlk) jc_Tg_readTag 40 (by decide) rfl ?_
            refine And.intro rfl (And.intro (And.intro rfl rfl) ?_)
            refine And.intro (rfl) (And.intro ?_ (And.intro (Nat.le_refl _) (Nat.le_refl _)))
            have hm : (sm || sameL (tgt rs).2.2.2 W) = true := by rw [c22]; rfl
            have hg2 : (sg || (sameL (tgt rs).2.2.2 W && !(tgt rs).2.1)) = true := by rw [c34, c36, Bool.not_false, Bool.and_true, Bool.or_true]
            rw [hok]
            exact ⟨rfl, true, true, _, _, _, rfl, hs1, (fun _ => ⟨rfl, hm.symm, hg2.symm⟩)⟩
    · skip
      have c22 : sm = false := bI_eq c22
      refine And.intro (fun c24 => ?_) (fun c24 => ?_)
      · skip
        have c24 : (sameL (tgt rs).2.2.2 W) = false := bI_eq c24
        refine vx_go hC hFt hini (vx_ends hC hr hlk) jc_Tg_readTag 27 (by decide) rfl ?_
        refine And.intro rfl (And.intro (And.intro rfl rfl) ?_)
        refine And.intro rfl ?_
        refine And.intro (fun c32 => ?_) (fun c32 => ?_)
        · skip
          have c32 : sg = true := bI_ne c32
          refine vx_go hC hFt hini (vx_ends hC hr hlk) jc_Tg_readTag 37 (by decide) rfl ?_
          refine vx_go hC hFt hini (vx_ends hC hr hlk) jc_Tg_readTag 40 (by decide) rfl ?_
          refine And.intro rfl (And.intro (And.intro rfl rfl) ?_)
          refine And.intro (rfl) (And.intro ?_ (And.intro (Nat.le_refl _) (Nat.le_refl _)))
          have hm : (sm || sameL (tgt rs).2.2.2 W) = false := by rw [c22, c24]; rfl
          have hg2 : (sg || (sameL (tgt rs).2.2.2 W && !(tgt rs).2.1)) = true := by rw [c32]; rfl
          rw [hok]
          exact ⟨rfl, false, true, _, _, _, rfl, hs1, (fun _ => ⟨rfl, hm.symm, hg2.symm⟩)⟩
        · skip
          have c32 : sg = false := bI_eq c32
          refine And.intro (fun c34 => ?_) (fun c34 => ?_)
          · skip
            have c34 : (sameL (tgt rs).2.2.2 W) = false := bI_eq c34
            refine vx_go hC hFt hini (vx_ends hC hr hlk) jc_Tg_readTag 39 (by decide) rfl ?_
            refine And.intro rfl (And.intro (And.intro rfl rfl) ?_)
            refine And.intro (rfl) (And.intro ?_ (And.intro (Nat.le_refl _) (Nat.le_refl _)))
            have hm : (sm || sameL (tgt rs).2.2.2 W) = false := by rw [c22, c24]; rfl
            have hg2 : (sg || (sameL (tgt rs).2.2.2 W && !(tgt rs).2.1)) = false := by rw [c32, c34]; rfl
            rw [hok]
            exact ⟨rfl, false, false, _, _, _, rfl, hs1, (fun _ => ⟨rfl, hm.symm, hg2.symm⟩)⟩
          · skip
            have c34 : (sameL (tgt rs).2.2.2 W) = true := bI_ne c34
            refine And.intro (fun c36 => ?_) (fun c36 => ?_)
            · skip
              have c36 : (tgt rs).2.1 = true := bI_ne c36
              refine vx_go hC hFt hini (vx_ends hC hr hlk) jc_Tg_readTag 39 (by decide) rfl ?_
              refine And.intro rfl (And.intro (And.intro rfl rfl) ?_)
              refine And.intro (rfl) (And.intro ?_ (And.intro (Nat.le_refl _) (Nat.le_refl _)))
              have hm : (sm || sameL (tgt rs).2.2.2 W) = false := by rw [c22, c24]; rfl
              have hg2 : (sg || (sameL (tgt rs).2.2.2 W && !(tgt rs).2.1)) = false := by rw [c32, c36, Bool.not_true, Bool.and_false]; rfl
              rw [hok]
              exact ⟨rfl, false, false, _, _, _, rfl, hs1, (fun _ => ⟨rfl, hm.symm, hg2.symm⟩)⟩
            · skip
              have c36 : (tgt rs).2.1 = false := bI_eq c36
              refine vx_go hC hFt hini (vx_ends hC hr hlk) jc_Tg_readTag 40 (by decide) rfl ?_
              refine And.intro rfl (And.intro (And.intro rfl rfl) ?_)
              refine And.intro (rfl) (And.intro ?_ (And.intro (Nat.le_refl _) (Nat.le_refl _)))
              have hm : (sm || sameL (tgt rs).2.2.2 W) = false := by rw [c22, c24]; rfl
              have hg2 : (sg || (sameL (tgt rs).2.2.2 W && !(tgt rs).2.1)) = true := by rw [c34, c36, Bool.not_false, Bool.and_true, Bool.or_true]
              rw [hok]
              exact ⟨rfl, false, true, _, _, _, rfl, hs1, (fun _ => ⟨rfl, hm.symm, hg2.symm⟩)⟩
      · skip
        have c24 : (sameL (tgt rs).2.2.2 W) = true := bI_ne c24
        refine vx_go hC hFt hini (vx_ends hC hr hlk) jc_Tg_readTag 28 (by decide) rfl ?_
        refine And.intro rfl (And.intro (And.intro rfl rfl) ?_)
        refine And.intro rfl ?_
        refine And.intro (fun c32 => ?_) (fun c32 => ?_)
        · skip
          have c32 : sg = true := bI_ne c32
          refine vx_go hC hFt hini (vx_ends hC hr hlk) jc_Tg_readTag 37 (by decide) rfl ?_
          refine vx_go hC hFt hini (vx_ends hC hr hlk) jc_Tg_readTag 40 (by decide) rfl ?_
          refine And.intro rfl (And.intro (And.intro rfl rfl) ?_)
          refine And.intro (rfl) (And.intro ?_ (And.intro (Nat.le_refl _) (Nat.le_refl _)))
          have hm : (sm || sameL (tgt rs).2.2.2 W) = true := by rw [c24, Bool.or_true]
          have hg2 : (sg || (sameL (tgt rs).2.2.2 W && !(tgt rs).2.1)) = true := by rw [c32]; rfl
          rw [hok]
          exact ⟨rfl, true, true, _, _, _, rfl, hs1, (fun _ => ⟨rfl, hm.symm, hg2.symm⟩)⟩
        · skip
          have c32 : sg = false := bI_eq c32
          refine And.intro (fun c34 => ?_) (fun c34 => ?_)
          · skip
            have c34 : (sameL (tgt rs).2.2.2 W) = false := bI_eq c34
            refine vx_go hC hFt hini (vx_ends hC hr hlk) jc_Tg_readTag 39 (by decide) rfl ?_
            refine And.intro rfl (And.intro (And.intro rfl rfl) ?_)
            refine And.intro (rfl) (And.intro ?_ (And.intro (Nat.le_refl _) (Nat.le_refl _)))
            have hm : (sm || sameL (tgt rs).2.2.2 W) = true := by rw [c24, Bool.or_true]
            have hg2 : (sg || (sameL (tgt rs).2.2.2 W && !(tgt rs).2.1)) = false := by rw [c32, c34]; rfl
            rw [hok]
            exact ⟨rfl, true, false, _, _, _, rfl, hs1, (fun _ => ⟨rfl, hm.symm, hg2.symm⟩)⟩
          · skip
            have c34 : (sameL (tgt rs).2.2.2 W) = true := bI_ne c34
            refine And.intro (fun c36 => ?_) (fun c36 => ?_)
            · skip
              have c36 : (tgt rs).2.1 = true := bI_ne c36
              refine vx_go hC hFt hini (vx_ends hC hr hlk) jc_Tg_readTag 39 (by decide) rfl ?_
              refine And.intro rfl (And.intro (And.intro rfl rfl) ?_)
              refine And.intro (rfl) (And.intro ?_ (And.intro (Nat.le_refl _) (Nat.le_refl _)))
              have hm : (sm || sameL (tgt rs).2.2.2 W) = true := by rw [c24, Bool.or_true]
              have hg2 : (sg || (sameL (tgt rs).2.2.2 W && !(tgt rs).2.1)) = false := by rw [c32, c36, Bool.not_true, Bool.and_false]; rfl
              rw [hok]
              exact ⟨rfl, true, false, _, _, _, rfl, hs1, (fun _ => ⟨rfl, hm.symm, hg2.symm⟩)⟩
            · skip
              have c36 : (tgt rs).2.1 = false := bI_eq c36
              refine vx_go hC hFt hini (vx_ends hC hr hlk) jc_Tg_readTag 40 (by decide) rfl ?_
              refine And.intro rfl (And.intro (And.intro rfl rfl) ?_)
              refine And.intro (rfl) (And.intro ?_ (And.intro (Nat.le_refl _) (Nat.le_refl _)))
              have hm : (sm || sameL (tgt rs).2.2.2 W) = true := by rw [c24, Bool.or_true]
              have hg2 : (sg || (sameL (tgt rs).2.2.2 W && !(tgt rs).2.1)) = true := by rw [c34, c36, Bool.not_false, Bool.and_true, Bool.or_true]
              rw [hok]
              exact ⟨rfl, true, true, _, _, _, rfl, hs1, (fun _ => ⟨rfl, hm.symm, hg2.symm⟩)⟩
set_option maxRecDepth 100000 in
set_option maxHeartbeats 4000000 in
theorem c_Tg_begin (l : Launch) (D : va_G) (tys : List (ClassId × FieldType)) (tc : Nat → ClassId) (hty : ∀ i : Nat, i < 4 → tys[i]? = some (tc i, vx_ty i)) (h ra sa : Nat) (z1 z2 : Int32) (sd : Nat → Int32) (ss : Nat) (q : Nat) (ro : Nat → Nat) (tx : Nat → List Nat) (hx : ∀ G, G < 8 → isT (tx G)) (K : Nat → Nat) (q0 m0 s0 : Int32) (G : Nat) (hG : G < 8) : Kt l y_Tg_begin (yw y_Tg_begin b_Tg_begin 3 none) 2 43 0 0 D cls tys (fun A U H => rqF q ro tx A U H ∧ rdF ra [] A U H ∧ gF K A U H) [.ref h, .ref q, .int (nI G)] [(h, .inr (2, [.ref ra, .int z1, .int z2, .ref sa, .int (nI ss), .int (q0), .int (m0), .int (s0)])), (sa, .inl (tc 0, 96, .inl sd))] (fun r w => r = none ∧ w = rdW tc 2 h (if 0 < (tx G).length then ro G else ra) sa [.int 0, .int 0, .int 0] (tx G) (gp (tx G)) sd ss) := by
  refine Kt.of (ro_and (rqF_ro q ro tx) (ro_and (rdF_ro ra []) (gF_ro K))) (by decide) rfl hty (Nat.le_of_ble_eq_true rfl) ?_
  intro p e s m args below meth c0 A hC hr hlk hnm hF
  have hFt : vx_Ft y_Tg_begin.cls (yw y_Tg_begin b_Tg_begin 3 none) cls cty ft_Tg := ft_of (fun w h => List.mem_cons_of_mem _ h) fl_Tg_in ft_Tg_b
  have hini : false = true → meth.name = "<init>" := fun h => by cases h
  obtain ⟨hrq, hold, hg⟩ := hF
  refine vx_go hC hFt hini (vx_ends hC hr hlk) jc_Tg_begin 0 (by decide) rfl ?_
  refine ux_call hC (c_Rd_open l D tys tc hty 2 (by decide) h ra sa [.int (q0), .int (m0), .int (s0)] z1 z2 sd ss q ro tx G hG (hx G hG).1) hrq (cw_U wm_Rd_open wl_Tg_40 wsm_Tg_open wi_Rd_open ws_Tg_Tg_open rfl hC.2.2.2.2.1 ⟨by decide, by decide⟩) rfl rfl rfl rfl (Nat.le_of_ble_eq_true rfl) ⟨Nat.zero_le _, Nat.zero_le _⟩ (fun r' w1 hp => ?_)
  obtain ⟨rfl, rfl⟩ := hp
  obtain ⟨ra2, hra2⟩ : ∃ ra2, (if 0 < (tx G).length then ro G else ra) = ra2 := ⟨_, rfl⟩
  rw [hra2]
  have hra : ra2 = ra ∨ ra2 = ro G := by rw [← hra2]; split <;> simp
  have hrd : rdF ra2 (tx G) A s s.heap := by
    rw [← hra2]
    split
    · exact hrq.2.choose_spec.choose_spec.2.2.2.2 G hG
    · rename_i hz
      rw [show tx G = [] from List.eq_nil_of_length_eq_zero (by omega)]; exact hold
  have hT : isT (tx G) := hx G hG
  refine And.intro rfl (And.intro (And.intro rfl rfl) ?_)
  refine And.intro rfl (And.intro (And.intro rfl rfl) ?_)
  refine And.intro rfl (And.intro (And.intro rfl rfl) ?_)
  refine ux_call hC (c_Rd_skipGap l D tys tc hty 2 (by decide) h ra2 sa [.int 0, .int 0, .int 0] (tx G) (tx G) sd ss hT (List.suffix_refl _)) hrd (cw_U wm_Rd_skipGap wl_Tg_23 wsm_Tg_skipGap wi_Rd_skipGap ws_Tg_Tg_skipGap rfl hC.2.2.2.2.1 ⟨by decide, by decide⟩) rfl rfl rfl rfl (Nat.le_of_ble_eq_true rfl) ⟨Nat.zero_le _, Nat.zero_le _⟩ (fun r' w1 hp => ?_)
  obtain ⟨rfl, rfl⟩ := hp
  refine And.intro (trivial) (And.intro ?_ (And.intro (Nat.le_refl _) (Nat.le_refl _)))
  exact And.intro rfl rfl
set_option maxRecDepth 100000 in
set_option maxHeartbeats 4000000 in
theorem c_Tg_readOne (l : Launch) (D : va_G) (tys : List (ClassId × FieldType)) (tc : Nat → ClassId) (hty : ∀ i : Nat, i < 4 → tys[i]? = some (tc i, vx_ty i)) (h ra sa : Nat) (z1 z2 : Int32) (sd : Nat → Int32) (ss : Nat) (q : Nat) (ro : Nat → Nat) (tx : Nat → List Nat) (hx : ∀ G, G < 8 → isT (tx G)) (K : Nat → Nat) (q0 m0 s0 : Int32) (G : Nat) (hG : G < 8) (a : Nat) (W : List Nat) (hWW : isW W) : Kt l y_Tg_readOne (yw y_Tg_readOne b_Tg_readOne 4 (some .boolean)) 6 130 0 0 D cls tys (fun A U H => rqF q ro tx A U H ∧ rdF ra [] A U H ∧ gF K A U H ∧ tF a W A U H) [.ref h, .ref q, .int (nI G), .ref a] [(h, .inr (2, [.ref ra, .int z1, .int z2, .ref sa, .int (nI ss), .int (q0), .int (m0), .int (s0)])), (sa, .inl (tc 0, 96, .inl sd))] (fun r w => r = some (.int (bI (lonT W (tx G)).isSome)) ∧ ∃ ra2 y1 y2 ss2 sd2 q2 m2 s2, w = [(h, .inr (2, [.ref ra2, .int y1, .int y2, .ref sa, .int (nI ss2), .int (q2), .int (m2), .int (s2)])), (sa, .inl (tc 0, 96, .inl sd2))] ∧ (ra2 = ra ∨ ra2 = ro G) ∧ ∀ v, (lonT W (tx G)) = some v → s2 = bI v) := by
  refine Kt.of (ro_and (rqF_ro q ro tx) (ro_and (rdF_ro ra []) (ro_and (gF_ro K) (tF_ro a W)))) (by decide) rfl hty (Nat.le_of_ble_eq_true rfl) ?_
  intro p e s m args below meth c0 A hC hr hlk hnm hF
  have hFt : vx_Ft y_Tg_readOne.cls (yw y_Tg_readOne b_Tg_readOne 4 (some .boolean)) cls cty ft_Tg := ft_of (fun w h => List.mem_cons_of_mem _ h) fl_Tg_in ft_Tg_b
  have hini : false = true → meth.name = "<init>" := fun h => by cases h
  obtain ⟨hrq, hold, hg, hst⟩ := hF
  refine vx_go hC hFt hini (vx_ends hC hr hlk) jc_Tg_readOne 0 (by decide) rfl ?_
  refine ox_call hC (c_Tg_begin l D tys tc hty h ra sa z1 z2 sd ss q ro tx hx K q0 m0 s0 G hG) ⟨hrq, hold, hg⟩ (cw_V wm_Tg_begin wl_Tg_9 wi_Tg_begin ws_Tg_Tg_begin hC.2.2.2.2.1 ⟨by decide, by decide⟩) rfl rfl rfl rfl (Nat.le_of_ble_eq_true rfl) ⟨Nat.zero_le _, Nat.zero_le _⟩ (fun r' w1 hp => ?_)
  obtain ⟨rfl, rfl⟩ := hp
  obtain ⟨ra2, hra2⟩ : ∃ ra2, (if 0 < (tx G).length then ro G else ra) = ra2 := ⟨_, rfl⟩
  rw [hra2]
  have hra : ra2 = ra ∨ ra2 = ro G := by rw [← hra2]; split <;> simp
  have hrd : rdF ra2 (tx G) A s s.heap := by
    rw [← hra2]
    split
    · exact hrq.2.choose_spec.choose_spec.2.2.2.2 G hG
    · rename_i hz
      rw [show tx G = [] from List.eq_nil_of_length_eq_zero (by omega)]; exact hold
  obtain ⟨T, hTe⟩ : ∃ T, tx G = T := ⟨_, rfl⟩
  have hT : isT T := by rw [← hTe]; exact hx G hG
  rw [hTe] at hrd ⊢
  have hsg : gp T <:+ T := gp_sf
  refine ox_call hC (c_Tg_readTag l D tys tc hty h ra2 sa T (gp T) sd ss hT hsg K 0 false false a W hWW) ⟨hrd, hg, hst⟩ (cw_V wm_Tg_readTag wl_Tg_33 wi_Tg_readTag ws_Tg_Tg_readTag hC.2.2.2.2.1 ⟨by decide, by decide⟩) rfl rfl rfl rfl (Nat.le_of_ble_eq_true rfl) ⟨Nat.zero_le _, Nat.zero_le _⟩ (fun r' w1 hp => ?_)
  obtain ⟨rfl, sm5, sg5, r5, sd5, ss5, rfl, hs5, hx5⟩ := hp
  refine And.intro (fun c7 => ?_) (fun c7 => ?_)
  · skip
    have c7 : (tgt (gp T)).1 = true := bI_ne c7
    refine vx_go hC hFt hini (vx_ends hC hr hlk) jc_Tg_readOne 10 (by decide) rfl ?_
    refine ux_call hC (c_Rd_skipGap l D tys tc hty 2 (by decide) h ra2 sa [.int 0, .int (bI sm5), .int (bI sg5)] T r5 sd5 ss5 hT hs5) hrd (cw_U wm_Rd_skipGap wl_Tg_23 wsm_Tg_skipGap wi_Rd_skipGap ws_Tg_Tg_skipGap rfl hC.2.2.2.2.1 ⟨by decide, by decide⟩) rfl rfl rfl rfl (Nat.le_of_ble_eq_true rfl) ⟨Nat.zero_le _, Nat.zero_le _⟩ (fun r' w1 hp => ?_)
    obtain ⟨rfl, rfl⟩ := hp
    refine ux_call hC (c_Rd_isEnded l D tys tc hty 2 (by decide) h ra2 sa [.int 0, .int (bI sm5), .int (bI sg5)] T (gp r5) sd5 ss5 hT (gp_sf.trans hs5)) hrd (cw_U wm_Rd_isEnded wl_Tg_26 wsm_Tg_isEnded wi_Rd_isEnded ws_Tg_Tg_isEnded rfl hC.2.2.2.2.1 ⟨by decide, by decide⟩) rfl rfl rfl rfl (Nat.le_of_ble_eq_true rfl) ⟨Nat.zero_le _, Nat.zero_le _⟩ (fun r' w1 hp => ?_)
    obtain ⟨rfl, rfl⟩ := hp
    refine And.intro ((bI_narrow _)) (And.intro ?_ (And.intro (Nat.le_refl _) (Nat.le_refl _)))
    obtain ⟨rfl, rfl, rfl⟩ := hx5 c7
    have hl : lonT W T = if gp (tgt (gp T)).2.2.1 = [] then some (sameL (tgt (gp T)).2.2.2 W && !(tgt (gp T)).2.1) else none := by rw [lonT, if_pos c7]
    by_cases hz : gp (tgt (gp T)).2.2.1 = []
    · rw [hl, if_pos hz, hz]
      exact ⟨rfl, ra2, _, _, _, _, _, _, _, rfl, hra, (fun v hv => by rw [← Option.some.inj hv]; rfl)⟩
    · rw [hl, if_neg hz]
      refine ⟨?_, ra2, _, _, _, _, _, _, _, rfl, hra, (fun v hv => by cases hv)⟩
      cases h9 : gp (tgt (gp T)).2.2.1 with
      | nil => exact absurd h9 hz
      | cons a b => rfl
  · skip
    have c7 : (tgt (gp T)).1 = false := bI_eq (c7)
    refine And.intro (rfl) (And.intro ?_ (And.intro (Nat.le_refl _) (Nat.le_refl _)))
    rw [show lonT W T = none by rw [lonT, if_neg (by rw [c7]; exact fun z => by cases z)]]
    exact ⟨rfl, ra2, _, _, _, _, _, _, _, rfl, hra, (fun v hv => by cases hv)⟩
set_option maxRecDepth 100000 in
set_option maxHeartbeats 4000000 in
theorem c_Tg_readList (l : Launch) (D : va_G) (tys : List (ClassId × FieldType)) (tc : Nat → ClassId) (hty : ∀ i : Nat, i < 4 → tys[i]? = some (tc i, vx_ty i)) (h ra sa : Nat) (z1 z2 : Int32) (sd : Nat → Int32) (ss : Nat) (q : Nat) (ro : Nat → Nat) (tx : Nat → List Nat) (hx : ∀ G, G < 8 → isT (tx G)) (K : Nat → Nat) (q0 m0 s0 : Int32) (G : Nat) (hG : G < 8) (a : Nat) (W : List Nat) (hWW : isW W) : Kt l y_Tg_readList (yw y_Tg_readList b_Tg_readList 5 (some .boolean)) 6 130 0 0 D cls tys (fun A U H => rqF q ro tx A U H ∧ rdF ra [] A U H ∧ gF K A U H ∧ tF a W A U H) [.ref h, .ref q, .int (nI G), .ref a] [(h, .inr (2, [.ref ra, .int z1, .int z2, .ref sa, .int (nI ss), .int (q0), .int (m0), .int (s0)])), (sa, .inl (tc 0, 96, .inl sd))] (fun r w => r = some (.int (bI (tgsL W (tx G)).isSome)) ∧ ∃ ra2 y1 y2 ss2 sd2 q2 m2 s2, w = [(h, .inr (2, [.ref ra2, .int y1, .int y2, .ref sa, .int (nI ss2), .int (q2), .int (m2), .int (s2)])), (sa, .inl (tc 0, 96, .inl sd2))] ∧ (ra2 = ra ∨ ra2 = ro G) ∧ ∀ v, (tgsL W (tx G)) = some v → q2 = bI v.1 ∧ m2 = bI v.2.1 ∧ s2 = bI v.2.2) := by
  refine Kt.of (ro_and (rqF_ro q ro tx) (ro_and (rdF_ro ra []) (ro_and (gF_ro K) (tF_ro a W)))) (by decide) rfl hty (Nat.le_of_ble_eq_true rfl) ?_
  intro p e s m args below meth c0 A hC hr hlk hnm hF
  have hFt : vx_Ft y_Tg_readList.cls (yw y_Tg_readList b_Tg_readList 5 (some .boolean)) cls cty ft_Tg := ft_of (fun w h => List.mem_cons_of_mem _ h) fl_Tg_in ft_Tg_b
  have hini : false = true → meth.name = "<init>" := fun h => by cases h
  obtain ⟨hrq, hold, hg, hst⟩ := hF
  refine vx_gon hC hFt hini (vx_ends hC hr hlk) jc_Tg_readList 0 18 (by decide) rfl ?_
  refine ox_call hC (c_Tg_begin l D tys tc hty h ra sa z1 z2 sd ss q ro tx hx K q0 m0 s0 G hG) ⟨hrq, hold, hg⟩ (cw_V wm_Tg_begin wl_Tg_9 wi_Tg_begin ws_Tg_Tg_begin hC.2.2.2.2.1 ⟨by decide, by decide⟩) rfl rfl rfl rfl (Nat.le_of_ble_eq_true rfl) ⟨Nat.zero_le _, Nat.zero_le _⟩ (fun r' w1 hp => ?_)
  obtain ⟨rfl, rfl⟩ := hp
  obtain ⟨ra2, hra2⟩ : ∃ ra2, (if 0 < (tx G).length then ro G else ra) = ra2 := ⟨_, rfl⟩
  rw [hra2]
  have hra : ra2 = ra ∨ ra2 = ro G := by rw [← hra2]; split <;> simp
  have hrd : rdF ra2 (tx G) A s s.heap := by
    rw [← hra2]
    split
    · exact hrq.2.choose_spec.choose_spec.2.2.2.2 G hG
    · rename_i hz
      rw [show tx G = [] from List.eq_nil_of_length_eq_zero (by omega)]; exact hold
  obtain ⟨T, hTe⟩ : ∃ T, tx G = T := ⟨_, rfl⟩
  have hT : isT T := by rw [← hTe]; exact hx G hG
  rw [hTe] at hrd ⊢
  have hsg : gp T <:+ T := gp_sf
  refine ux_call hC (c_Rd_take l D tys tc hty 2 (by decide) h ra2 sa [.int 0, .int 0, .int 0] T (gp T) sd ss 42 hT hsg (by decide)) hrd (cw_U wm_Rd_take wl_Tg_15 wsm_Tg_take wi_Rd_take ws_Tg_Tg_take rfl hC.2.2.2.2.1 ⟨by decide, by decide⟩) rfl rfl rfl rfl (Nat.le_of_ble_eq_true rfl) ⟨Nat.zero_le _, Nat.zero_le _⟩ (fun r' w1 hp => ?_)
  obtain ⟨rfl, rfl⟩ := hp
  refine And.intro (fun c7 => ?_) (fun c7 => ?_)
  · skip
    have c7 : (pk 42 (gp T)).1 = false := bI_eq c7
    refine vx_gon hC hFt hini (vx_ends hC hr hlk) jc_Tg_readList 16 2 (by decide) rfl ?_
    refine Vx.subL (lv' := [(0, .ref h), (3, .ref a), (4, .int (nI 0))]) [1, 4, 0] rfl ?_
    obtain ⟨el, he0⟩ : ∃ el : Nat, el = 0 := ⟨_, rfl⟩
    obtain ⟨sm4, hm0⟩ : ∃ sm4 : Bool, sm4 = false := ⟨_, rfl⟩
    obtain ⟨sg4, hq0⟩ : ∃ sg4 : Bool, sg4 = false := ⟨_, rfl⟩
    obtain ⟨r4, hr0⟩ : ∃ r4 : List Nat, r4 = (pk 42 (gp T)).2 := ⟨_, rfl⟩
    obtain ⟨sd4, hd0⟩ : ∃ sd4, sd4 = sd := ⟨_, rfl⟩
    obtain ⟨ss4, hs0⟩ : ∃ ss4, ss4 = ss := ⟨_, rfl⟩
    obtain ⟨n4, hn0⟩ : ∃ n4 : Nat, n4 = 97 := ⟨_, rfl⟩
    obtain ⟨RES, hRES⟩ : ∃ RES, tgL W 97 0 false false (gp T) = RES := ⟨_, rfl⟩
    rw [show tgsL W T = RES.map (fun u => (false, u)) by rw [tgsL, if_neg (by rw [c7]; exact fun z => by cases z), hRES]]
    refine Vx.eqs rfl (lv2 := [(0, .ref h), (3, .ref a), (4, .int (nI el))]) (by rw [he0]) rfl (w2 := (rdW tc 2 h ra2 sa [.int 0, .int (bI sm4), .int (bI sg4)] T r4 sd4 ss4)) (by rw [hm0, hq0, hr0, hd0, hs0]; rfl) ?_
    have hs4 : r4 <:+ T := by rw [hr0]; exact pk_sf.trans hsg
    have hres : tgL W n4 el sm4 sg4 r4 = RES := by rw [hn0, he0, hm0, hq0, hr0, pk_f c7]; exact hRES
    have hln : r4.length + el ≤ 96 := by have h1 := hs4.length_le; have := hT.1; omega
    have hnt : n4 + el = 97 := by omega
    clear he0 hm0 hq0 hr0 hd0 hs0 hn0 hRES
    induction n4 generalizing el sm4 sg4 r4 sd4 ss4 with
    | zero => omega
    | succ n4 ih =>
      refine vx_go hC hFt hini (vx_ends hC hr hlk) jc_Tg_readList 18 (by decide) rfl ?_
      refine And.intro (fun c20 => ?_) (fun c20 => ?_)
      · skip
        have c20 : 96 ≤ el := (nI_leI (a := 96) (by omega) (by omega)).mp c20
        refine vx_go hC hFt hini (vx_ends hC hr hlk) jc_Tg_readList 35 (by decide) rfl ?_
        refine And.intro (fun c36 => ?_) (fun c36 => ?_)
        · skip
          have c36 : el = 0 := Nat.eq_zero_of_not_pos (fun z => absurd c36 (nI_nle z (by omega)))
          refine vx_go hC hFt hini (vx_ends hC hr hlk) jc_Tg_readList 39 (by decide) rfl ?_
          refine And.intro (rfl) (And.intro ?_ (And.intro (Nat.le_refl _) (Nat.le_refl _)))
          have hg0 : gc r4 = [] := by rw [show r4 = [] from List.eq_nil_of_length_eq_zero (by omega)]; rfl
          rw [tgL, if_pos hg0, if_pos c36] at hres
          subst hres
          exact ⟨rfl, ra2, _, _, _, _, _, _, _, rfl, hra, (fun v hv => by cases hv)⟩
        · skip
          have c36 : ¬ el = 0 := fun z => c36 (by rw [z]; exact nI_le (Nat.le_refl 0) (by decide))
          refine vx_go hC hFt hini (vx_ends hC hr hlk) jc_Tg_readList 40 (by decide) rfl ?_
          refine And.intro (rfl) (And.intro ?_ (And.intro (Nat.le_refl _) (Nat.le_refl _)))
          have hg0 : gc r4 = [] := by rw [show r4 = [] from List.eq_nil_of_length_eq_zero (by omega)]; rfl
          rw [tgL, if_pos hg0, if_neg c36] at hres
          subst hres
          exact ⟨rfl, ra2, _, _, _, _, _, _, _, rfl, hra, (fun v hv => by rw [← Option.some.inj hv]; exact ⟨rfl, rfl, rfl⟩)⟩
      · skip
        have c20 : ¬ 96 ≤ el := fun z => c20 ((nI_leI (a := 96) (by omega) (by omega)).mpr z)
        refine ux_call hC (c_Rd_findElement l D tys tc hty 2 (by decide) h ra2 sa [.int 0, .int (bI sm4), .int (bI sg4)] T r4 sd4 ss4 hT hs4) hrd (cw_U wm_Rd_findElement wl_Tg_30 wsm_Tg_findElement wi_Rd_findElement ws_Tg_Tg_findElement rfl hC.2.2.2.2.1 ⟨by decide, by decide⟩) rfl rfl rfl rfl (Nat.le_of_ble_eq_true rfl) ⟨Nat.zero_le _, Nat.zero_le _⟩ (fun r' w1 hp => ?_)
        obtain ⟨rfl, rfl⟩ := hp
        refine And.intro (fun c23 => ?_) (fun c23 => ?_)
        · skip
          have c23 : gc r4 = [] := by
            cases h9 : gc r4 with
            | nil => rfl
            | cons a b => rw [h9] at c23; exact absurd c23 (show ¬ bI true = 0 by decide)
          refine vx_go hC hFt hini (vx_ends hC hr hlk) jc_Tg_readList 35 (by decide) rfl ?_
          refine And.intro (fun c36 => ?_) (fun c36 => ?_)
          · skip
            have c36 : el = 0 := Nat.eq_zero_of_not_pos (fun z => absurd c36 (nI_nle z (by omega)))
            refine vx_go hC hFt hini (vx_ends hC hr hlk) jc_Tg_readList 39 (by decide) rfl ?_
            refine And.intro (rfl) (And.intro ?_ (And.intro (Nat.le_refl _) (Nat.le_refl _)))
            have hg0 := c23
            rw [tgL, if_pos hg0, if_pos c36] at hres
            subst hres
            exact ⟨rfl, ra2, _, _, _, _, _, _, _, rfl, hra, (fun v hv => by cases hv)⟩
          · skip
            have c36 : ¬ el = 0 := fun z => c36 (by rw [z]; exact nI_le (Nat.le_refl 0) (by decide))
            refine vx_go hC hFt hini (vx_ends hC hr hlk) jc_Tg_readList 40 (by decide) rfl ?_
            refine And.intro (rfl) (And.intro ?_ (And.intro (Nat.le_refl _) (Nat.le_refl _)))
            have hg0 := c23
            rw [tgL, if_pos hg0, if_neg c36] at hres
            subst hres
            exact ⟨rfl, ra2, _, _, _, _, _, _, _, rfl, hra, (fun v hv => by rw [← Option.some.inj hv]; exact ⟨rfl, rfl, rfl⟩)⟩
        · skip
          have c23 : ¬ gc r4 = [] := fun z => c23 (by rw [z]; rfl)
          have hsgc : gc r4 <:+ T := gc_sf.trans hs4
          refine ox_call hC (c_Tg_readTag l D tys tc hty h ra2 sa T (gc r4) sd4 ss4 hT hsgc K 0 sm4 sg4 a W hWW) ⟨hrd, hg, hst⟩ (cw_V wm_Tg_readTag wl_Tg_33 wi_Tg_readTag ws_Tg_Tg_readTag hC.2.2.2.2.1 ⟨by decide, by decide⟩) rfl rfl rfl rfl (Nat.le_of_ble_eq_true rfl) ⟨Nat.zero_le _, Nat.zero_le _⟩ (fun r' w1 hp => ?_)
          obtain ⟨rfl, sm5, sg5, r5, sd5, ss5, rfl, hs5, hx5⟩ := hp
          refine And.intro (fun c27 => ?_) (fun c27 => ?_)
          · skip
            have c27 : (tgt (gc r4)).1 = false := bI_eq c27
            refine vx_go hC hFt hini (vx_ends hC hr hlk) jc_Tg_readList 31 (by decide) rfl ?_
            refine And.intro (rfl) (And.intro ?_ (And.intro (Nat.le_refl _) (Nat.le_refl _)))
            rw [tgL, if_neg c23, if_neg (by rw [c27]; exact fun z => by cases z)] at hres
            subst hres
            exact ⟨rfl, ra2, _, _, _, _, _, _, _, rfl, hra, (fun v hv => by cases hv)⟩
          · skip
            have c27 : (tgt (gc r4)).1 = true := bI_ne c27
            obtain ⟨hr5, hsm5, hsg5⟩ := hx5 c27
            have hml := tgt_len c27
            refine ux_call hC (c_Rd_endsElement l D tys tc hty 2 (by decide) h ra2 sa [.int 0, .int (bI sm5), .int (bI sg5)] T r5 sd5 ss5 hT hs5) hrd (cw_U wm_Rd_endsElement wl_Tg_37 wsm_Tg_endsElement wi_Rd_endsElement ws_Tg_Tg_endsElement rfl hC.2.2.2.2.1 ⟨by decide, by decide⟩) rfl rfl rfl rfl (Nat.le_of_ble_eq_true rfl) ⟨Nat.zero_le _, Nat.zero_le _⟩ (fun r' w1 hp => ?_)
            obtain ⟨rfl, rfl⟩ := hp
            refine And.intro (fun c30 => ?_) (fun c30 => ?_)
            · skip
              have c30 : ee (gp r5) = true := bI_ne c30
              refine vx_go hC hFt hini (vx_ends hC hr hlk) jc_Tg_readList 33 (by decide) rfl ?_
              refine Vx.subL (lv' := [(0, .ref h), (3, .ref a), (4, .int (nI el + 1))]) [1, 2, 0] rfl ?_
              rw [nI_1]
              have hgl := (gc_sf (rs := r4)).length_le
              have hgl2 := (gp_sf (rs := r5)).length_le
              rw [← hr5] at hml
              exact ih (el + 1) sm5 sg5 (gp r5) sd5 ss5 (gp_sf.trans hs5) (by rw [← hres, tgL, if_neg c23, if_pos c27, ← hr5, if_pos c30, hsm5, hsg5]) (by omega) (by omega)
            · skip
              have c30 : ee (gp r5) = false := bI_eq (c30)
              refine And.intro (rfl) (And.intro ?_ (And.intro (Nat.le_refl _) (Nat.le_refl _)))
              rw [tgL, if_neg c23, if_pos c27, ← hr5, if_neg (by rw [c30]; exact fun z => by cases z)] at hres
              subst hres
              exact ⟨rfl, ra2, _, _, _, _, _, _, _, rfl, hra, (fun v hv => by cases hv)⟩
  · skip
    have c7 : (pk 42 (gp T)).1 = true := bI_ne c7
    refine And.intro rfl (And.intro (And.intro rfl rfl) ?_)
    refine ux_call hC (c_Rd_skipGap l D tys tc hty 2 (by decide) h ra2 sa [.int 1, .int 0, .int 0] T (pk 42 (gp T)).2 sd ss hT (pk_sf.trans hsg)) hrd (cw_U wm_Rd_skipGap wl_Tg_23 wsm_Tg_skipGap wi_Rd_skipGap ws_Tg_Tg_skipGap rfl hC.2.2.2.2.1 ⟨by decide, by decide⟩) rfl rfl rfl rfl (Nat.le_of_ble_eq_true rfl) ⟨Nat.zero_le _, Nat.zero_le _⟩ (fun r' w1 hp => ?_)
    obtain ⟨rfl, rfl⟩ := hp
    refine ux_call hC (c_Rd_isEnded l D tys tc hty 2 (by decide) h ra2 sa [.int 1, .int 0, .int 0] T (gp (pk 42 (gp T)).2) sd ss hT (gp_sf.trans (pk_sf.trans hsg))) hrd (cw_U wm_Rd_isEnded wl_Tg_26 wsm_Tg_isEnded wi_Rd_isEnded ws_Tg_Tg_isEnded rfl hC.2.2.2.2.1 ⟨by decide, by decide⟩) rfl rfl rfl rfl (Nat.le_of_ble_eq_true rfl) ⟨Nat.zero_le _, Nat.zero_le _⟩ (fun r' w1 hp => ?_)
    obtain ⟨rfl, rfl⟩ := hp
    refine And.intro ((bI_narrow _)) (And.intro ?_ (And.intro (Nat.le_refl _) (Nat.le_refl _)))
    have hl : tgsL W T = if gp (pk 42 (gp T)).2 = [] then some (true, false, false) else none := by rw [tgsL, if_pos c7]
    by_cases hz : gp (pk 42 (gp T)).2 = []
    · rw [hl, if_pos hz, hz]
      exact ⟨rfl, ra2, _, _, _, _, _, _, _, rfl, hra, (fun v hv => by rw [← Option.some.inj hv]; exact ⟨rfl, rfl, rfl⟩)⟩
    · rw [hl, if_neg hz]
      refine ⟨?_, ra2, _, _, _, _, _, _, _, rfl, hra, (fun v hv => by cases hv)⟩
      cases h9 : gp (pk 42 (gp T)).2 with
      | nil => exact absurd h9 hz
      | cons a b => rfl
