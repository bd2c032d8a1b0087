/-! THE CLASS: the request, by program (wip/whole/gen/p74.py) -/
theorem cb_cls (v : BitVec 64) (q : Nat) : (v >>> q).setWidth 32 &&& BitVec.ofNat 32 255 = BitVec.ofNat 32 ((v.toNat >>> q) % 256) := by
  apply BitVec.eq_of_getLsbD_eq
  intro i hi
  rw [BitVec.getLsbD_and, t255 32 i (by decide), BitVec.getLsbD_ofNat, show 256 = 2 ^ 8 from rfl, Nat.testBit_mod_two_pow, Nat.testBit_shiftRight]
  by_cases h : i < 8
  · rw [BitVec.getLsbD_setWidth, BitVec.getLsbD_ushiftRight]; simp [h, hi, BitVec.getLsbD]
  · simp [h]
theorem cb_c {ch : Int64} {k : Nat} (h : k < 8) : ((ch.toUInt64 >>> ((((8 : Int32) * nI k).toInt64).toUInt64 &&& Int64.toUInt64 63)).toInt64.toInt32 &&& 255) = nI (cb ch k) := by
  have hk : k = 0 ∨ k = 1 ∨ k = 2 ∨ k = 3 ∨ k = 4 ∨ k = 5 ∨ k = 6 ∨ k = 7 := by omega
  have key : ∀ q : Nat, ∀ y : UInt64, (y.toBitVec % 64).toNat = q → ((ch.toUInt64 >>> y).toInt64.toInt32 &&& 255) = nI ((ch.toBitVec.toNat >>> q) % 256) := by
    intro q y hy
    apply Int32.toBitVec_inj.mp
    rw [Int32.toBitVec_and, Int64.toBitVec_toInt32, UInt64.toBitVec_toInt64, UInt64.toBitVec_shiftRight, BitVec.ushiftRight_eq', hy, Int64.toBitVec_toUInt64, BitVec.signExtend_eq_setWidth_of_le _ (by decide)]
    exact cb_cls _ q
  rcases hk with rfl | rfl | rfl | rfl | rfl | rfl | rfl | rfl <;> exact key _ _ (by decide)
/-- the request's cells: its sizes, its texts -/
def rqW (tc : Nat → ClassId) (tcA : ClassId) (q za ta : Nat) (ro : Nat → Nat) (me : Int32) (zs : Nat → Int32) (rw9 : Nat → Nat → Int32) : va_W := [(q, .inr (5, [.int me, .ref ta, .ref za])), (za, .inl (tc 0, 8, .inl zs)), (ta, .inl (tcA, 8, .inr (.inr (.inr (.inr (fun G => some (ro G))))))), (ro 0, .inl (tc 0, 96, .inl (rw9 0))), (ro 1, .inl (tc 0, 96, .inl (rw9 1))), (ro 2, .inl (tc 0, 96, .inl (rw9 2))), (ro 3, .inl (tc 0, 96, .inl (rw9 3))), (ro 4, .inl (tc 0, 96, .inl (rw9 4))), (ro 5, .inl (tc 0, 96, .inl (rw9 5))), (ro 6, .inl (tc 0, 96, .inl (rw9 6))), (ro 7, .inl (tc 0, 96, .inl (rw9 7)))]
def rqA (zs : Nat → Int32) (rw9 : Nat → Nat → Int32) (tx : Nat → List Nat) : Prop := ∀ G, G < 8 → zs G = nI (tx G).length ∧ isT (tx G) ∧ ∀ j, j < (tx G).length → rw9 G j = nI ((tx G).getD j 0)
set_option maxRecDepth 100000 in
set_option maxHeartbeats 4000000 in
theorem c_Rq_characterOf (l : Launch) (D : va_G) (tys : List (ClassId × FieldType)) (tc : Nat → ClassId) (hty : ∀ i : Nat, i < 4 → tys[i]? = some (tc i, vx_ty i)) (ch : Int64) (k : Nat) (hk : k < 8) : Kt l y_Rq_characterOf (yw y_Rq_characterOf b_Rq_characterOf 3 (some .int)) 0 0 0 0 D cls tys (fun _ _ _ => True) [.long ch, .int (nI k)] [] (fun r w => r = some (.int (nI (cb ch k))) ∧ w = []) := by
  refine Kt.of ro_true (by decide) rfl hty (Nat.le_of_ble_eq_true rfl) ?_
  intro p e s m args below meth c0 A hC hr hlk hnm hF
  have hFt : vx_Ft y_Rq_characterOf.cls (yw y_Rq_characterOf b_Rq_characterOf 3 (some .int)) cls cty [] := (fun q h => by cases h)
  have hini : false = true → meth.name = "<init>" := fun h => by cases h
  refine vx_go hC hFt hini (vx_ends hC hr hlk) jc_Rq_characterOf 0 (by decide) rfl ?_
  refine And.intro (trivial) (And.intro ?_ (And.intro (Nat.le_refl _) (Nat.le_refl _)))
  exact And.intro (congrArg (fun z => some (Value.int z)) (cb_c hk)) rfl
set_option maxRecDepth 100000 in
set_option maxHeartbeats 4000000 in
theorem c_Rq_countOf (l : Launch) (D : va_G) (tys : List (ClassId × FieldType)) (tc : Nat → ClassId) (hty : ∀ i : Nat, i < 4 → tys[i]? = some (tc i, vx_ty i)) (ch : Int64) : Kt l y_Rq_countOf (yw y_Rq_countOf b_Rq_countOf 3 (some .int)) 1 22 0 0 D cls tys (fun _ _ _ => True) [.long ch] [] (fun r w => r = some (.int (nI (chL ch).length)) ∧ w = []) := by
  refine Kt.of ro_true (by decide) rfl hty (Nat.le_of_ble_eq_true rfl) ?_
  intro p e s m args below meth c0 A hC hr hlk hnm hF
  have hFt : vx_Ft y_Rq_countOf.cls (yw y_Rq_countOf b_Rq_countOf 3 (some .int)) cls cty [] := (fun q h => by cases h)
  have hini : false = true → meth.name = "<init>" := fun h => by cases h
  refine vx_gon hC hFt hini (vx_ends hC hr hlk) jc_Rq_countOf 0 2 (by decide) rfl ?_
  refine Vx.subL (lv' := [(0, .long ch), (2, .int (nI 0))]) [1, 0] rfl ?_
  obtain ⟨n, hn0⟩ : ∃ n : Nat, n = 0 := ⟨_, rfl⟩
  refine Vx.eqs rfl (lv2 := [(0, .long ch), (2, .int (nI n))]) (by rw [hn0]) rfl rfl ?_
  have hnz : ∀ j, j < n → cb ch j ≠ 0 := fun j hj => by omega
  have hn8 : n ≤ 8 := by omega
  clear hn0
  induction hm : 8 - n using Nat.strongRecOn generalizing n with
  | _ m9 ih =>
    refine vx_go hC hFt hini (vx_ends hC hr hlk) jc_Rq_countOf 2 (by decide) rfl ?_
    refine And.intro (fun c4 => ?_) (fun c4 => ?_)
    · skip
      have c4 : 8 ≤ n := (nI_leI (a := 8) (by omega) (by omega)).mp c4
      refine vx_go hC hFt hini (vx_ends hC hr hlk) jc_Rq_countOf 11 (by decide) rfl ?_
      refine And.intro (trivial) (And.intro ?_ (And.intro (Nat.le_refl _) (Nat.le_refl _)))
      rw [chL_len hnz hn8 (Or.inl (by omega))]
      exact And.intro rfl rfl
    · skip
      have c4 : ¬ 8 ≤ n := fun z => c4 ((nI_leI (a := 8) (by omega) (by omega)).mpr z)
      refine calls0 hC (c_Rq_characterOf l D tys tc hty ch n (by omega)) trivial wm_Rq_characterOf wl_Rq_28 wt_Rq_characterOf ⟨by decide, by decide⟩ rfl rfl (Nat.le_of_ble_eq_true rfl) ⟨Nat.zero_le _, Nat.zero_le _⟩ (fun r' hp => ?_)
      subst hp
      refine And.intro (fun c8 => ?_) (fun c8 => ?_)
      · skip
        have c8 : cb ch n = 0 := (nI_eq (b := 0) (by have := cb_lt (ch := ch) (k := n); omega) (by omega)).mp c8
        refine vx_go hC hFt hini (vx_ends hC hr hlk) jc_Rq_countOf 11 (by decide) rfl ?_
        refine And.intro (trivial) (And.intro ?_ (And.intro (Nat.le_refl _) (Nat.le_refl _)))
        rw [chL_len hnz hn8 (Or.inr c8)]
        exact And.intro rfl rfl
      · skip
        have c8 : cb ch n ≠ 0 := fun z => c8 (by rw [z]; rfl)
        refine Vx.subL (lv' := [(0, .long ch), (2, .int (nI n + 1))]) [1, 0] rfl ?_
        rw [nI_1]
        exact ih (8 - (n + 1)) (by omega) (n + 1) (fun j hj => by
          by_cases e : j = n
          · rw [e]; exact c8
          · exact hnz j (by omega)) (by omega) rfl
set_option maxRecDepth 100000 in
set_option maxHeartbeats 4000000 in
theorem c_Rq_restart (l : Launch) (D : va_G) (tys : List (ClassId × FieldType)) (tc : Nat → ClassId) (hty : ∀ i : Nat, i < 4 → tys[i]? = some (tc i, vx_ty i)) (q ta za : Nat) (me mt : Int32) (zs : Nat → Int32) : Kt l y_Rq_restart (yw y_Rq_restart b_Rq_restart 3 none) 0 0 0 0 D cls tys (fun _ _ _ => True) [.ref q, .int mt] [(q, .inr (5, [.int me, .ref ta, .ref za])), (za, .inl (tc 0, 8, .inl zs))] (fun r w => r = none ∧ ∃ z2, w = [(q, .inr (5, [.int mt, .ref ta, .ref za])), (za, .inl (tc 0, 8, .inl z2))] ∧ ∀ j, j < 8 → z2 j = nI 0) := by
  refine Kt.of ro_true (by decide) rfl hty (Nat.le_of_ble_eq_true rfl) ?_
  intro p e s m args below meth c0 A hC hr hlk hnm hF
  have hFt : vx_Ft y_Rq_restart.cls (yw y_Rq_restart b_Rq_restart 3 none) cls cty ft_Rq := ft_of (fun w h => List.mem_cons_of_mem _ h) fl_Rq_in ft_Rq_b
  have hini : false = true → meth.name = "<init>" := fun h => by cases h
  refine vx_gon hC hFt hini (vx_ends hC hr hlk) jc_Rq_restart 0 5 (by decide) rfl ?_
  refine And.intro rfl (And.intro (And.intro rfl rfl) ?_)
  refine Vx.subL (lv' := [(0, .ref q), (1, .int mt), (2, .int (nI 0))]) [1, 2, 0] rfl ?_
  obtain ⟨k, hk0⟩ : ∃ k : Nat, k = 0 := ⟨_, rfl⟩
  obtain ⟨z4, hz0⟩ : ∃ z4, z4 = zs := ⟨_, rfl⟩
  refine Vx.eqs rfl (lv2 := [(0, .ref q), (1, .int mt), (2, .int (nI k))]) (by rw [hk0]) rfl (w2 := [(q, .inr (5, [.int mt, .ref ta, .ref za])), (za, .inl (tc 0, 8, .inl z4))]) (by rw [hz0]; rfl) ?_
  have hz4 : ∀ j, j < k → z4 j = nI 0 := by rw [hk0]; exact fun j hj => by omega
  have hkl : k ≤ 8 := by omega
  clear hk0 hz0
  induction hn : 8 - k using Nat.strongRecOn generalizing k z4 with
  | _ m9 ih =>
    refine vx_go hC hFt hini (vx_ends hC hr hlk) jc_Rq_restart 5 (by decide) rfl ?_
    refine And.intro (fun c7 => ?_) (fun c7 => ?_)
    · skip
      have c7 : 8 ≤ k := (nI_leI (a := 8) (by omega) (by omega)).mp c7
      refine vx_go hC hFt hini (vx_ends hC hr hlk) jc_Rq_restart 15 (by decide) rfl ?_
      refine And.intro (trivial) (And.intro ?_ (And.intro (Nat.le_refl _) (Nat.le_refl _)))
      exact ⟨rfl, z4, rfl, fun j hj => hz4 j (by omega)⟩
    · skip
      have c7 : ¬ 8 ≤ k := fun z => c7 ((nI_leI (a := 8) (by omega) (by omega)).mpr z)
      refine And.intro rfl ?_
      refine And.intro rfl (And.intro rfl (And.intro (vp_in_nI (show k < 8 by omega) (by decide)) ?_))
      refine Vx.subL (lv' := [(0, .ref q), (1, .int mt), (2, .int (nI k + 1))]) [1, 2, 0] rfl ?_
      refine Vx.eqs rfl (lv2 := [(0, .ref q), (1, .int mt), (2, .int (nI (k + 1)))]) (by rw [nI_1]) rfl (w2 := [(q, .inr (5, [.int mt, .ref ta, .ref za])), (za, .inl (tc 0, 8, .inl (upd z4 k (nI 0))))]) (by rw [nI_clamp (by omega)]; rfl) ?_
      exact ih (8 - (k + 1)) (by omega) (k + 1) (upd z4 k (nI 0)) (fun j hj => by
        by_cases e : j = k
        · rw [e]; exact pk_us
        · rw [pk_un e]; exact hz4 j (by omega)) (by omega) rfl
