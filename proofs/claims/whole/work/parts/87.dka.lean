/-! THE CLASS: a representation is added, by program (wip/whole/gen/p87.py) -/
set_option maxRecDepth 100000 in
set_option maxHeartbeats 4000000 in
theorem c_Dk_add (l : Launch) (D : va_G) (tys : List (ClassId × FieldType)) (tc : Nat → ClassId) (hty : ∀ i : Nat, i < 4 → tys[i]? = some (tc i, vx_ty i)) (b : Nat → Nat) (K : Nat → Nat) (tcR : ClassId) (htR : tys[4]? = some (tcR, .object "OriginDesk$Representation")) (rp : List Rp) (hr4 : rp.length ≤ 4) (sv : Nat → Option Nat) (kd to bz nu : Int32) (wk : Bool) (tm : Int64) : Kt l y_Dk_add (yw y_Dk_add b_Dk_add 11 (some .int)) 7 199 9 407 D cls tys (gtF K) [.ref (b 0), .int kd, .int to, .int bz, .int nu, .int (bI wk), .long tm] [dkC b (nI rp.length), (b 1, .inl (tcR, 4, .inr (.inr (.inr (.inr sv)))))] (fun r w => (adB rp kd to bz nu tm = false → r = some (.int (-1)) ∧ w = [dkC b (nI rp.length), (b 1, .inl (tcR, 4, .inr (.inr (.inr (.inr sv)))))]) ∧ (adB rp kd to bz nu tm = true → ∃ a t w2 a3, r = some (.int (nI rp.length)) ∧ w = [dkC b (nI (rp.length + 1)), (b 1, .inl (tcR, 4, .inr (.inr (.inr (.inr (va_up sv rp.length (some a))))))), (a, .inr (7, [.int (nI rp.length), .ref (K (100 + kd.toNatClampNeg)), .ref (K (200 + to.toNatClampNeg)), .int (nI bz.toNatClampNeg), .ref t, .int (bI wk), .long (lN tm.toNatClampNeg)])), (t, .inr (10, [.ref w2, .int 0, .int 0, .int 0])), (w2, .inl (tc 1, (tagL nu.toNatClampNeg).length, .inl (va_cpy a3 (fun _ => 0) 0 0 (tagL nu.toNatClampNeg).length)))] ∧ sbI a3 (tagL nu.toNatClampNeg))) := by
  refine Kt.of (gtF_ro K) (by decide) rfl hty (Nat.le_of_ble_eq_true rfl) ?_
  intro p e s m args below meth c0 A hC hr hlk hnm hF
  have hFt : vx_Ft y_Dk_add.cls (yw y_Dk_add b_Dk_add 11 (some .int)) cls cty ft_Dk := ft_of (fun w h => List.mem_cons_of_mem _ h) fl_Dk_in ft_Dk_b
  have hini : false = true → meth.name = "<init>" := fun h => by cases h
  have hst := hF.1.2.2.2.2
  obtain ⟨tt1, hty1, hty2⟩ := hst.2.2.2.1
  obtain ⟨tt2, hto1, hto2⟩ := hst.2.2.2.2.1
  refine vx_cut (α := Unit × Unit) 37 (fun u => True) (fun u => [(0, .ref (b 0)), (1, .int kd), (2, .int to), (3, .int bz), (4, .int nu), (5, .int (bI wk)), (6, .long tm), (8, .int (bI (decide ((0 ≤ kd ∧ kd ≤ nI 5) ∧ (0 ≤ to ∧ to ≤ nI 5)))))]) (fun u => []) (fun u => [dkC b (nI rp.length), (b 1, .inl (tcR, 4, .inr (.inr (.inr (.inr sv)))))]) (fun tail => ?_) ?_
  · skip
    refine vx_gon hC hFt hini (vx_ends hC hr hlk) jc_Dk_addR 0 22 (by decide) rfl ?_
    refine ⟨_, ⟨"OriginDesk", "TYPES", "[LOriginDesk$MediaType;", "OriginDesk", hty1, Or.inl (hC.2.2.2.2.1 _ (List.mem_cons_of_mem _ wf_Dk_70)), fun _ z => z⟩, ?_⟩
    refine sx_alenT hC hty2 ?_
    refine calls0 hC (c_Dk_isWithin l D tys tc hty (Int32.toInt64 kd) (lN 5)) trivial wm_Dk_isWithin wl_Dk_74 wt_Dk_isWithin ⟨by decide, by decide⟩ rfl (show [Value.long (nI 6 - 1).toInt64, Value.long (Int32.toInt64 kd)] = [Value.long (lN 5), Value.long (Int32.toInt64 kd)] from rfl) (Nat.le_of_ble_eq_true rfl) ⟨by decide, by decide⟩ (fun r' hp => ?_)
    subst hp
    refine And.intro (fun c8 => ?_) (fun c8 => ?_)
    · skip
      have c8 : ¬ (0 ≤ kd ∧ kd ≤ nI 5) := fun z => (of_decide_eq_false (bI_eq c8)) ((w5_i (by decide)).mpr z)
      refine vx_gon hC hFt hini (vx_ends hC hr hlk) jc_Dk_addR 20 2 (by decide) rfl ?_
      refine Vx.subL (lv' := [(0, .ref (b 0)), (1, .int kd), (2, .int to), (3, .int bz), (4, .int nu), (5, .int (bI wk)), (6, .long tm), (8, .int 0)]) [1, 2, 3, 4, 5, 6, 7, 0] rfl ?_
      refine Vx.eqs rfl (lv2 := [(0, .ref (b 0)), (1, .int kd), (2, .int to), (3, .int bz), (4, .int nu), (5, .int (bI wk)), (6, .long tm), (8, .int (bI (decide ((0 ≤ kd ∧ kd ≤ nI 5) ∧ (0 ≤ to ∧ to ≤ nI 5)))))]) (by rw [decide_eq_false (fun z => c8 z.1)]; rfl) rfl rfl ?_
      exact tail ((), ()) trivial
    · skip
      have c8 : 0 ≤ kd ∧ kd ≤ nI 5 := (w5_i (by decide)).mp (of_decide_eq_true (bI_ne c8))
      refine ⟨_, ⟨"OriginDesk", "TONGUES", "[LOriginDesk$Language;", "OriginDesk", hto1, Or.inl (hC.2.2.2.2.1 _ (List.mem_cons_of_mem _ wf_Dk_78)), fun _ z => z⟩, ?_⟩
      refine sx_alenT hC hto2 ?_
      refine calls0 hC (c_Dk_isWithin l D tys tc hty (Int32.toInt64 to) (lN 5)) trivial wm_Dk_isWithin wl_Dk_74 wt_Dk_isWithin ⟨by decide, by decide⟩ rfl (show [Value.long (nI 6 - 1).toInt64, Value.long (Int32.toInt64 to)] = [Value.long (lN 5), Value.long (Int32.toInt64 to)] from rfl) (Nat.le_of_ble_eq_true rfl) ⟨by decide, by decide⟩ (fun r' hp => ?_)
      subst hp
      refine And.intro (fun c17 => ?_) (fun c17 => ?_)
      · skip
        have c17 : ¬ (0 ≤ to ∧ to ≤ nI 5) := fun z => (of_decide_eq_false (bI_eq c17)) ((w5_i (by decide)).mpr z)
        refine vx_gon hC hFt hini (vx_ends hC hr hlk) jc_Dk_addR 20 2 (by decide) rfl ?_
        refine Vx.subL (lv' := [(0, .ref (b 0)), (1, .int kd), (2, .int to), (3, .int bz), (4, .int nu), (5, .int (bI wk)), (6, .long tm), (8, .int 0)]) [1, 2, 3, 4, 5, 6, 7, 0] rfl ?_
        refine Vx.eqs rfl (lv2 := [(0, .ref (b 0)), (1, .int kd), (2, .int to), (3, .int bz), (4, .int nu), (5, .int (bI wk)), (6, .long tm), (8, .int (bI (decide ((0 ≤ kd ∧ kd ≤ nI 5) ∧ (0 ≤ to ∧ to ≤ nI 5)))))]) (by rw [decide_eq_false (fun z => c17 z.2)]; rfl) rfl rfl ?_
        exact tail ((), ()) trivial
      · skip
        have c17 : 0 ≤ to ∧ to ≤ nI 5 := (w5_i (by decide)).mp (of_decide_eq_true (bI_ne c17))
        refine vx_gon hC hFt hini (vx_ends hC hr hlk) jc_Dk_addR 21 1 (by decide) rfl ?_
        refine Vx.subL (lv' := [(0, .ref (b 0)), (1, .int kd), (2, .int to), (3, .int bz), (4, .int nu), (5, .int (bI wk)), (6, .long tm), (8, .int 1)]) [1, 2, 3, 4, 5, 6, 7, 0] rfl ?_
        refine Vx.eqs rfl (lv2 := [(0, .ref (b 0)), (1, .int kd), (2, .int to), (3, .int bz), (4, .int nu), (5, .int (bI wk)), (6, .long tm), (8, .int (bI (decide ((0 ≤ kd ∧ kd ≤ nI 5) ∧ (0 ≤ to ∧ to ≤ nI 5)))))]) (by rw [decide_eq_true ⟨c8, c17⟩]; rfl) rfl rfl ?_
        exact tail ((), ()) trivial
  · intro u _
    refine vx_cut (α := Unit × Unit) 78 (fun u => True) (fun u => [(0, .ref (b 0)), (1, .int kd), (2, .int to), (3, .int bz), (4, .int nu), (5, .int (bI wk)), (6, .long tm), (8, .int (bI (decide ((0 ≤ kd ∧ kd ≤ nI 5) ∧ (0 ≤ to ∧ to ≤ nI 5))))), (9, .int (bI (decide ((0 ≤ bz ∧ bz ≤ nI 100000) ∧ (0 ≤ nu ∧ nu ≤ nI 9999) ∧ (0 ≤ tm ∧ tm ≤ lN 4102444799)))))]) (fun u => []) (fun u => [dkC b (nI rp.length), (b 1, .inl (tcR, 4, .inr (.inr (.inr (.inr sv)))))]) (fun tail2 => ?_) ?_
    · skip
      refine vx_gon hC hFt hini (vx_ends hC hr hlk) jc_Dk_addR 22 18 (by decide) rfl ?_
      refine And.intro (Or.inr (Or.inl ⟨_, rfl, hC.2.2.2.2.1 _ (List.mem_cons_of_mem _ wc_Dk_82)⟩)) ?_
      refine calls0 hC (c_Dk_isWithin l D tys tc hty (Int32.toInt64 bz) (lN 100000)) trivial wm_Dk_isWithin wl_Dk_74 wt_Dk_isWithin ⟨by decide, by decide⟩ rfl rfl (Nat.le_of_ble_eq_true rfl) ⟨by decide, by decide⟩ (fun r' hp => ?_)
      subst hp
      refine And.intro (fun c26 => ?_) (fun c26 => ?_)
      · skip
        have c26 : ¬ (0 ≤ bz ∧ bz ≤ nI 100000) := fun z => (of_decide_eq_false (bI_eq c26)) ((w5_i (by decide)).mpr z)
        refine vx_gon hC hFt hini (vx_ends hC hr hlk) jc_Dk_addR 38 2 (by decide) rfl ?_
        refine Vx.subL (lv' := [(0, .ref (b 0)), (1, .int kd), (2, .int to), (3, .int bz), (4, .int nu), (5, .int (bI wk)), (6, .long tm), (8, .int (bI (decide ((0 ≤ kd ∧ kd ≤ nI 5) ∧ (0 ≤ to ∧ to ≤ nI 5))))), (9, .int 0)]) [1, 2, 3, 4, 5, 6, 7, 8, 0] rfl ?_
        refine Vx.eqs rfl (lv2 := [(0, .ref (b 0)), (1, .int kd), (2, .int to), (3, .int bz), (4, .int nu), (5, .int (bI wk)), (6, .long tm), (8, .int (bI (decide ((0 ≤ kd ∧ kd ≤ nI 5) ∧ (0 ≤ to ∧ to ≤ nI 5))))), (9, .int (bI (decide ((0 ≤ bz ∧ bz ≤ nI 100000) ∧ (0 ≤ nu ∧ nu ≤ nI 9999) ∧ (0 ≤ tm ∧ tm ≤ lN 4102444799)))))]) (by rw [show (decide ((0 ≤ bz ∧ bz ≤ nI 100000) ∧ (0 ≤ nu ∧ nu ≤ nI 9999) ∧ (0 ≤ tm ∧ tm ≤ lN 4102444799))) = false from decide_eq_false (fun z => c26 z.1)]; rfl) rfl rfl ?_
        exact tail2 ((), ()) trivial
      · skip
        have c26 : 0 ≤ bz ∧ bz ≤ nI 100000 := (w5_i (by decide)).mp (of_decide_eq_true (bI_ne c26))
        refine And.intro (Or.inr (Or.inl ⟨_, rfl, hC.2.2.2.2.1 _ (List.mem_cons_of_mem _ wc_Dk_84)⟩)) ?_
        refine calls0 hC (c_Dk_isWithin l D tys tc hty (Int32.toInt64 nu) (lN 9999)) trivial wm_Dk_isWithin wl_Dk_74 wt_Dk_isWithin ⟨by decide, by decide⟩ rfl rfl (Nat.le_of_ble_eq_true rfl) ⟨by decide, by decide⟩ (fun r' hp => ?_)
        subst hp
        refine And.intro (fun c31 => ?_) (fun c31 => ?_)
        · skip
          have c31 : ¬ (0 ≤ nu ∧ nu ≤ nI 9999) := fun z => (of_decide_eq_false (bI_eq c31)) ((w5_i (by decide)).mpr z)
          refine vx_gon hC hFt hini (vx_ends hC hr hlk) jc_Dk_addR 38 2 (by decide) rfl ?_
          refine Vx.subL (lv' := [(0, .ref (b 0)), (1, .int kd), (2, .int to), (3, .int bz), (4, .int nu), (5, .int (bI wk)), (6, .long tm), (8, .int (bI (decide ((0 ≤ kd ∧ kd ≤ nI 5) ∧ (0 ≤ to ∧ to ≤ nI 5))))), (9, .int 0)]) [1, 2, 3, 4, 5, 6, 7, 8, 0] rfl ?_
          refine Vx.eqs rfl (lv2 := [(0, .ref (b 0)), (1, .int kd), (2, .int to), (3, .int bz), (4, .int nu), (5, .int (bI wk)), (6, .long tm), (8, .int (bI (decide ((0 ≤ kd ∧ kd ≤ nI 5) ∧ (0 ≤ to ∧ to ≤ nI 5))))), (9, .int (bI (decide ((0 ≤ bz ∧ bz ≤ nI 100000) ∧ (0 ≤ nu ∧ nu ≤ nI 9999) ∧ (0 ≤ tm ∧ tm ≤ lN 4102444799)))))]) (by rw [show (decide ((0 ≤ bz ∧ bz ≤ nI 100000) ∧ (0 ≤ nu ∧ nu ≤ nI 9999) ∧ (0 ≤ tm ∧ tm ≤ lN 4102444799))) = false from decide_eq_false (fun z => c31 z.2.1)]; rfl) rfl rfl ?_
          exact tail2 ((), ()) trivial
        · skip
          have c31 : 0 ≤ nu ∧ nu ≤ nI 9999 := (w5_i (by decide)).mp (of_decide_eq_true (bI_ne c31))
          refine And.intro (Or.inr (Or.inl ⟨_, rfl, hC.2.2.2.2.1 _ (List.mem_cons_of_mem _ wc_Dk_61)⟩)) ?_
          refine calls0 hC (c_Dk_isWithin l D tys tc hty tm (lN 4102444799)) trivial wm_Dk_isWithin wl_Dk_74 wt_Dk_isWithin ⟨by decide, by decide⟩ rfl rfl (Nat.le_of_ble_eq_true rfl) ⟨by decide, by decide⟩ (fun r' hp => ?_)
          subst hp
          refine And.intro (fun c35 => ?_) (fun c35 => ?_)
          · skip
            have c35 : ¬ (0 ≤ tm ∧ tm ≤ lN 4102444799) := of_decide_eq_false (bI_eq c35)
            refine vx_gon hC hFt hini (vx_ends hC hr hlk) jc_Dk_addR 38 2 (by decide) rfl ?_
            refine Vx.subL (lv' := [(0, .ref (b 0)), (1, .int kd), (2, .int to), (3, .int bz), (4, .int nu), (5, .int (bI wk)), (6, .long tm), (8, .int (bI (decide ((0 ≤ kd ∧ kd ≤ nI 5) ∧ (0 ≤ to ∧ to ≤ nI 5))))), (9, .int 0)]) [1, 2, 3, 4, 5, 6, 7, 8, 0] rfl ?_
            refine Vx.eqs rfl (lv2 := [(0, .ref (b 0)), (1, .int kd), (2, .int to), (3, .int bz), (4, .int nu), (5, .int (bI wk)), (6, .long tm), (8, .int (bI (decide ((0 ≤ kd ∧ kd ≤ nI 5) ∧ (0 ≤ to ∧ to ≤ nI 5))))), (9, .int (bI (decide ((0 ≤ bz ∧ bz ≤ nI 100000) ∧ (0 ≤ nu ∧ nu ≤ nI 9999) ∧ (0 ≤ tm ∧ tm ≤ lN 4102444799)))))]) (by rw [show (decide ((0 ≤ bz ∧ bz ≤ nI 100000) ∧ (0 ≤ nu ∧ nu ≤ nI 9999) ∧ (0 ≤ tm ∧ tm ≤ lN 4102444799))) = false from decide_eq_false (fun z => c35 z.2.2)]; rfl) rfl rfl ?_
            exact tail2 ((), ()) trivial
          · skip
            have c35 : 0 ≤ tm ∧ tm ≤ lN 4102444799 := of_decide_eq_true (bI_ne c35)
            refine vx_gon hC hFt hini (vx_ends hC hr hlk) jc_Dk_addR 39 1 (by decide) rfl ?_
            refine Vx.subL (lv' := [(0, .ref (b 0)), (1, .int kd), (2, .int to), (3, .int bz), (4, .int nu), (5, .int (bI wk)), (6, .long tm), (8, .int (bI (decide ((0 ≤ kd ∧ kd ≤ nI 5) ∧ (0 ≤ to ∧ to ≤ nI 5))))), (9, .int 1)]) [1, 2, 3, 4, 5, 6, 7, 8, 0] rfl ?_
            refine Vx.eqs rfl (lv2 := [(0, .ref (b 0)), (1, .int kd), (2, .int to), (3, .int bz), (4, .int nu), (5, .int (bI wk)), (6, .long tm), (8, .int (bI (decide ((0 ≤ kd ∧ kd ≤ nI 5) ∧ (0 ≤ to ∧ to ≤ nI 5))))), (9, .int (bI (decide ((0 ≤ bz ∧ bz ≤ nI 100000) ∧ (0 ≤ nu ∧ nu ≤ nI 9999) ∧ (0 ≤ tm ∧ tm ≤ lN 4102444799)))))]) (by rw [show (decide ((0 ≤ bz ∧ bz ≤ nI 100000) ∧ (0 ≤ nu ∧ nu ≤ nI 9999) ∧ (0 ≤ tm ∧ tm ≤ lN 4102444799))) = true from decide_eq_true ⟨c26, c31, c35⟩]; rfl) rfl rfl ?_
            exact tail2 ((), ()) trivial
    · intro u _
      refine vx_go hC hFt hini (vx_ends hC hr hlk) jc_Dk_addR 40 (by decide) rfl ?_
      refine And.intro (fun c41 => ?_) (fun c41 => ?_)
      · skip
        have c41 : ¬ ((0 ≤ kd ∧ kd ≤ nI 5) ∧ (0 ≤ to ∧ to ≤ nI 5)) := of_decide_eq_false (bI_eq c41)
        refine vx_go hC hFt hini (vx_ends hC hr hlk) jc_Dk_addR 48 (by decide) rfl ?_
        refine And.intro (trivial) (And.intro ?_ (And.intro (Nat.le_of_ble_eq_true rfl) (Nat.le_of_ble_eq_true rfl)))
        have hB : adB rp kd to bz nu tm = false := by
          unfold adB adG
          rw [decide_eq_false (fun z => c41 ⟨⟨z.1, z.2.1⟩, z.2.2.1, z.2.2.2.1⟩)]
          rfl
        exact ⟨fun _ => ⟨rfl, rfl⟩, fun z => by rw [hB] at z; cases z⟩
      · skip
        have c41 : (0 ≤ kd ∧ kd ≤ nI 5) ∧ (0 ≤ to ∧ to ≤ nI 5) := of_decide_eq_true (bI_ne c41)
        obtain ⟨k1, k2⟩ := nat_i (by decide) c41.1
        obtain ⟨k3, k4⟩ := nat_i (by decide) c41.2
        refine And.intro (fun c43 => ?_) (fun c43 => ?_)
        · skip
          have c43 := of_decide_eq_false (bI_eq c43)
          refine vx_go hC hFt hini (vx_ends hC hr hlk) jc_Dk_addR 48 (by decide) rfl ?_
          refine And.intro (trivial) (And.intro ?_ (And.intro (Nat.le_of_ble_eq_true rfl) (Nat.le_of_ble_eq_true rfl)))
          have hB : adB rp kd to bz nu tm = false := by
            unfold adB adG
            rw [decide_eq_false (fun z => c43 ⟨⟨z.2.2.2.2.1, z.2.2.2.2.2.1⟩, ⟨z.2.2.2.2.2.2.1, z.2.2.2.2.2.2.2.1⟩, z.2.2.2.2.2.2.2.2⟩)]
            rfl
          exact ⟨fun _ => ⟨rfl, rfl⟩, fun z => by rw [hB] at z; cases z⟩
        · skip
          have c43 := of_decide_eq_true (bI_ne c43)
          obtain ⟨k5, k6⟩ := nat_i (by decide) c43.1
          obtain ⟨k7, k8⟩ := nat_i (by decide) c43.2.1
          refine And.intro rfl ?_
          refine And.intro (fun c47 => ?_) (fun c47 => ?_)
          · skip
            have c47 : rp.length < 4 := (nI_ltI (b := 4) (by omega) (by decide)).mp c47
            refine vx_go hC hFt hini (vx_ends hC hr hlk) jc_Dk_addR 50 (by decide) rfl ?_
            refine And.intro rfl ?_
            refine And.intro rfl ?_
            refine sx_new hC (ci := 7) rfl wk_Dk_9 wn_Rp wz_Rp (fs := [.int 0, .null, .null, .int 0, .null, .int 0, .long 0]) (fun j hj => by rcases (show j = 0 ∨ j = 1 ∨ j = 2 ∨ j = 3 ∨ j = 4 ∨ j = 5 ∨ j = 6 by omega) with rfl | rfl | rfl | rfl | rfl | rfl | rfl <;> rfl) ⟨by decide, by decide⟩ (fun a => ?_)
            refine And.intro rfl ?_
            refine ⟨_, ⟨"OriginDesk", "TYPES", "[LOriginDesk$MediaType;", "OriginDesk", hty1, Or.inl (hC.2.2.2.2.1 _ (List.mem_cons_of_mem _ wf_Dk_70)), fun _ z => z⟩, ?_⟩
            refine sx_aaT hC hty2 rfl (show vp_in kd 6 by rw [k1]; exact vp_in_nI (by omega) (by decide)) (v := .ref (K (100 + kd.toNatClampNeg))) rfl ?_
            refine ⟨_, ⟨"OriginDesk", "TONGUES", "[LOriginDesk$Language;", "OriginDesk", hto1, Or.inl (hC.2.2.2.2.1 _ (List.mem_cons_of_mem _ wf_Dk_78)), fun _ z => z⟩, ?_⟩
            refine sx_aaT hC hto2 rfl (show vp_in to 6 by rw [k3]; exact vp_in_nI (by omega) (by decide)) (v := .ref (K (200 + to.toNatClampNeg))) rfl ?_
            refine sx_ord (sx_callI (wr := [dkC b (nI rp.length), (b 1, .inl (tcR, 4, .inr (.inr (.inr (.inr sv)))))]) (wc := [(a, .inr (7, [.int 0, .null, .null, .int 0, .null, .int 0, .long 0]))]) hC (c_Rp_init l D tys tc hty a rp.length (K (100 + kd.toNatClampNeg)) (K (200 + to.toNatClampNeg)) bz.toNatClampNeg nu.toNatClampNeg (by omega) wk tm K) (cw_I2 wm_Rp_init wl_Dk_90 wi_Rp_init rfl hC.2.2.2.2.1 ⟨by decide, by decide⟩) [2] [0, 1] rfl rfl rfl rfl (by decide) (vx_ro (wc := [(a, .inr (7, [.int 0, .null, .null, .int 0, .null, .int 0, .long 0]))]) (gtF_ro K) hC.2.2.2.2.2.2.1 hF [2] rfl) rfl (show _ = [Value.long tm, Value.int (bI wk), Value.int (nI nu.toNatClampNeg), Value.int (nI bz.toNatClampNeg), Value.ref (K (200 + to.toNatClampNeg)), Value.ref (K (100 + kd.toNatClampNeg)), Value.int (nI rp.length), Value.ref a, Value.ref a, Value.int (nI rp.length), Value.ref (b 1)] by rw [← k5, ← k7]) (Nat.le_of_ble_eq_true rfl) ⟨by decide, by decide⟩ (fun r' w' hp => ?_))
            obtain ⟨rfl, t, w2, a3, b9, v3, l3, m3, rfl, hI3⟩ := hp
            refine ⟨[0, 1, 2, 3, 6], [dkC b (nI rp.length), (b 1, .inl (tcR, 4, .inr (.inr (.inr (.inr sv)))))] ++ [(a, .inr (7, [.int (nI rp.length), .ref (K (100 + kd.toNatClampNeg)), .ref (K (200 + to.toNatClampNeg)), .int (nI bz.toNatClampNeg), .ref t, .int (bI wk), .long tm])), (t, .inr (10, [.ref w2, .int 0, .int 0, .int 0])), (w2, .inl (tc 1, (tagL nu.toNatClampNeg).length, .inl (va_cpy a3 (fun _ => 0) 0 0 (tagL nu.toNatClampNeg).length)))], rfl, rfl, ?_⟩
            refine sx_aast hC 1 4 2 7 rfl htR rfl rfl (vp_in_nI (by omega) (by decide)) ?_
            refine And.intro rfl ?_
            refine And.intro rfl ?_
            refine And.intro rfl (And.intro (And.intro rfl rfl) ?_)
            refine And.intro (trivial) (And.intro ?_ (And.intro (Nat.le_of_ble_eq_true rfl) (Nat.le_of_ble_eq_true rfl)))
            have hB : adB rp kd to bz nu tm = true := by
              unfold adB adG
              rw [decide_eq_true (show rp.length < 4 by omega), decide_eq_true ⟨c41.1.1, c41.1.2, c41.2.1, c41.2.2, c43.1.1, c43.1.2, c43.2.1.1, c43.2.1.2, c43.2.2.1, c43.2.2.2⟩]
              rfl
            refine ⟨fun z => (by rw [hB] at z; cases z), fun _ => ⟨a, t, w2, a3, rfl, ?_, hI3⟩⟩
            rw [nI_clamp (n := rp.length) (by omega), nI_1, ← (nat_l (by decide) c43.2.2).1]
            rfl
          · skip
            have c47 : ¬ rp.length < 4 := fun z => c47 ((nI_ltI (b := 4) (by omega) (by decide)).mpr z)
            refine And.intro (trivial) (And.intro ?_ (And.intro (Nat.le_of_ble_eq_true rfl) (Nat.le_of_ble_eq_true rfl)))
            have hB : adB rp kd to bz nu tm = false := by
              unfold adB
              rw [decide_eq_false (show ¬ rp.length < 4 by omega), Bool.and_false]
            exact ⟨fun _ => ⟨rfl, rfl⟩, fun z => by rw [hB] at z; cases z⟩
