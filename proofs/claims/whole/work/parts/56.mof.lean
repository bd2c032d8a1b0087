/-! THE REFERENCE: adding, asking, feeding, by program (wip/whole/gen/p56.py) -/
theorem mdA.fr {sc s2 : Nat → Int32} {ai a2 : Nat → Nat → Int32} {st : Int32} {an : Option (Nat × Nat)} {ho : Bool} {pa : List (Nat × Nat)} (h : mdA sc ai st an ho pa) (hs : ∀ k, 23 ≤ k → s2 k = sc k) (h11 : a2 11 = ai 11) (h12 : a2 12 = ai 12) : mdA s2 a2 st an ho pa := by
  obtain ⟨g1, g2, g3, g4, g5, g6⟩ := h
  exact ⟨by rw [hs 23 (by decide)]; exact g1, by rw [hs 24 (by decide)]; exact g2, by rw [hs 25 (by decide)]; exact g3, by rw [hs 26 (by decide)]; exact g4, by rw [hs 27 (by decide)]; exact g5, g6.1, by rw [h11, h12]; exact g6.2⟩
def adG (kd to bz nu : Int32) (tm : Int64) : Bool := decide (0 ≤ kd ∧ kd ≤ 5 ∧ 0 ≤ to ∧ to ≤ 5 ∧ 0 ≤ bz ∧ bz ≤ 100000 ∧ 0 ≤ nu ∧ nu ≤ 9999 ∧ 0 ≤ tm ∧ tm ≤ 4102444799)
def adR (kd to bz nu : Int32) (wk : Bool) (tm : Int64) : Rp := (kd.toNatClampNeg, to.toNatClampNeg, bz.toNatClampNeg, nu.toNatClampNeg, wk, tm.toNatClampNeg)
/-- may it be added -/
def adB (rp : List Rp) (kd to bz nu : Int32) (tm : Int64) : Bool := adG kd to bz nu tm && decide (rp.length < 4)
theorem nat_le {i : Int32} {n : Nat} (h0 : 0 ≤ i) (h : i ≤ nI n) (hn : n < 2 ^ 31) : i = nI i.toNatClampNeg ∧ i.toNatClampNeg ≤ n := by
  obtain ⟨h1, h2⟩ := i_nat (Int32.not_lt.mpr h0)
  refine ⟨h1, ?_⟩
  rw [h1] at h
  exact (nI_leI h2 hn).mp h
theorem l_nat {i : Int64} {n : Nat} (h0 : 0 ≤ i) (h : i ≤ lN n) (hn : n < 2 ^ 63) : i = lN i.toNatClampNeg ∧ i.toNatClampNeg ≤ n := by
  have h2 : (0 : Int) ≤ i.toInt := by
    have := Int64.le_iff_toInt_le.mp h0
    simpa using this
  have h3 : i.toInt ≤ n := by
    have := Int64.le_iff_toInt_le.mp h
    rwa [lW_toInt hn] at this
  have h4 : i.toNatClampNeg = i.toInt.toNat := rfl
  refine ⟨?_, by omega⟩
  apply Int64.toInt_inj.mp
  rw [lW_toInt (by omega), h4]
  omega
theorem adR_ok {kd to bz nu : Int32} {wk : Bool} {tm : Int64} (h : adG kd to bz nu tm = true) : rpOk (adR kd to bz nu wk tm) ∧ kd = nI kd.toNatClampNeg ∧ to = nI to.toNatClampNeg ∧ bz = nI bz.toNatClampNeg ∧ nu = nI nu.toNatClampNeg ∧ tm = lN tm.toNatClampNeg := by
  obtain ⟨h1, h2, h3, h4, h5, h6, h7, h8, h9, h10⟩ := of_decide_eq_true h
  obtain ⟨a1, b1⟩ := nat_le (n := 5) h1 h2 (by decide)
  obtain ⟨a2, b2⟩ := nat_le (n := 5) h3 h4 (by decide)
  obtain ⟨a3, b3⟩ := nat_le (n := 100000) h5 h6 (by decide)
  obtain ⟨a4, b4⟩ := nat_le (n := 9999) h7 h8 (by decide)
  obtain ⟨a5, b5⟩ := l_nat (n := 4102444799) h9 h10 (by decide)
  exact ⟨⟨Nat.lt_succ_of_le b1, Nat.lt_succ_of_le b2, b3, b4, b5⟩, a1, a2, a3, a4, a5⟩
def apl (a : Nat → Nat → Int64) (p : Nat) (f : Nat → Int64) : Nat → Nat → Int64 := fun q => if q = p then f else a q
theorem rpA_add {ai a2 : Nat → Nat → Int32} {al l2 : Nat → Nat → Int64} {rp : List Rp} {r : Rp} (h : rpA ai al rp) (h4 : rp.length < 4) (hr : rpOk r) (h1 : a2 1 = upd (ai 1) rp.length (nI r.1)) (h2 : a2 2 = upd (ai 2) rp.length (nI r.2.1)) (h3 : a2 3 = upd (ai 3) rp.length (nI r.2.2.1)) (h44 : a2 4 = upd (ai 4) rp.length (nI r.2.2.2.1)) (h5 : a2 5 = upd (ai 5) rp.length (bI r.2.2.2.2.1)) (h6 : ∀ j, l2 6 j = if j = rp.length then lN r.2.2.2.2.2 else al 6 j) : rpA a2 l2 (rp ++ [r]) := by
  refine ⟨by rw [List.length_append, List.length_singleton]; omega, fun i v hi => ?_⟩
  rw [h1, h2, h3, h44, h5, h6]
  by_cases e : i = rp.length
  · subst e
    rw [List.getElem?_append_right (Nat.le_refl _), Nat.sub_self] at hi
    obtain rfl := Option.some.inj hi
    rw [pk_us, pk_us, pk_us, pk_us, pk_us, if_pos rfl]; exact ⟨hr, rfl, rfl, rfl, rfl, rfl, rfl⟩
  · have hl : i < rp.length := by
      have := (List.getElem?_eq_some_iff.mp hi).1
      rw [List.length_append, List.length_singleton] at this
      omega
    rw [List.getElem?_append_left hl] at hi
    rw [pk_un e, pk_un e, pk_un e, pk_un e, pk_un e, if_neg e]; exact h.2 i v hi
theorem lc_gt {a b : Int64} : 0 < lg_cmp a b ↔ b < a := by
  unfold lg_cmp
  by_cases h : a > b
  · rw [if_pos h]; exact ⟨fun _ => h, fun _ => by decide⟩
  · rw [if_neg h]
    by_cases h2 : a = b
    · rw [if_pos h2]; exact ⟨fun z => absurd z (by decide), fun z => absurd z h⟩
    · rw [if_neg h2]; exact ⟨fun z => absurd z (by decide), fun z => absurd z h⟩
theorem nar_b (b : Bool) : vp_nar .boolean (bI b) = bI b := by cases b <;> rfl
set_option maxRecDepth 100000 in
set_option maxHeartbeats 4000000 in
theorem c_Mo_clear (l : Launch) (D : va_G) (tys : List (ClassId × FieldType)) (tc : Nat → ClassId) (hty : ∀ i : Nat, i < 4 → tys[i]? = some (tc i, vx_ty i)) (h : Nat) (ar : Nat → Nat) (now : Int64) (sc : Nat → Int32) (ai : Nat → Nat → Int32) (al : Nat → Nat → Int64) : Kt l y_Mo_clear (yw y_Mo_clear b_Mo_clear 1 none) 0 0 0 0 D cls tys (fun _ _ _ => True) [.ref h] (mdW tc h ar now sc ai al) (fun r w => r = none ∧ w = mdW tc h ar now (upd sc 1 (nI 0)) ai al) := by
  refine Kt.of ro_true (by decide) rfl hty (Nat.le_of_ble_eq_true rfl) ?_
  intro p e s m args below meth c0 A hC hr hlk hnm hF
  have hFt : vx_Ft y_Mo_clear.cls (yw y_Mo_clear b_Mo_clear 1 none) cls cty ft_Mo := ft_of (fun w h => List.mem_cons_of_mem _ h) fl_Mo_in ft_Mo_b
  have hini : false = true → meth.name = "<init>" := fun h => by cases h
  refine vx_go hC hFt hini (vx_ends hC hr hlk) jc_Mo_clear 0 (by decide) rfl ?_
  refine And.intro rfl (And.intro (And.intro rfl rfl) ?_)
  refine And.intro (trivial) (And.intro ?_ (And.intro (Nat.le_refl _) (Nat.le_refl _)))
  exact And.intro rfl rfl
set_option maxRecDepth 100000 in
set_option maxHeartbeats 4000000 in
theorem c_Mo_request (l : Launch) (D : va_G) (tys : List (ClassId × FieldType)) (tc : Nat → ClassId) (hty : ∀ i : Nat, i < 4 → tys[i]? = some (tc i, vx_ty i)) (h : Nat) (ar : Nat → Nat) (now : Int64) (sc : Nat → Int32) (ai : Nat → Nat → Int32) (al : Nat → Nat → Int64) (mt : Int32) : Kt l y_Mo_request (yw y_Mo_request b_Mo_request 3 none) 0 0 0 0 D cls tys (fun _ _ _ => True) [.ref h, .int mt] (mdW tc h ar now sc ai al) (fun r w => r = none ∧ ∃ a2, w = mdW tc h ar now (upd sc 8 mt) a2 al ∧ (∀ k, k ≠ 8 → a2 k = ai k) ∧ ∀ j, j < 8 → a2 8 j = nI 0) := by
  refine Kt.of ro_true (by decide) rfl hty (Nat.le_of_ble_eq_true rfl) ?_
  intro p e s m args below meth c0 A hC hr hlk hnm hF
  have hFt : vx_Ft y_Mo_request.cls (yw y_Mo_request b_Mo_request 3 none) cls cty ft_Mo := ft_of (fun w h => List.mem_cons_of_mem _ h) fl_Mo_in ft_Mo_b
  have hini : false = true → meth.name = "<init>" := fun h => by cases h
  refine vx_gon hC hFt hini (vx_ends hC hr hlk) jc_Mo_request 0 5 (by decide) rfl ?_
  refine And.intro rfl (And.intro (And.intro rfl rfl) ?_)
  refine Vx.subL (lv' := [(0, .ref h), (1, .int mt), (2, .int (nI 0))]) [1, 2, 0] rfl ?_
  obtain ⟨k, hk0⟩ : ∃ k : Nat, k = 0 := ⟨_, rfl⟩
  obtain ⟨a4, ha40⟩ : ∃ a4, a4 = ai := ⟨_, rfl⟩
  refine Vx.eqs rfl (lv2 := [(0, .ref h), (1, .int mt), (2, .int (nI k))]) (by rw [hk0]) rfl (w2 := mdW tc h ar now (upd sc 8 mt) a4 al) (by rw [ha40]; rfl) ?_
  have ha4 : ∀ k, k ≠ 8 → a4 k = ai k := by rw [ha40]; exact fun _ _ => rfl
  have hz4 : ∀ j, j < k → a4 8 j = nI 0 := by rw [hk0]; exact fun j hj => by omega
  have hkl : k ≤ 8 := by omega
  clear hk0 ha40
  induction hn : 8 - k using Nat.strongRecOn generalizing k a4 with
  | _ m9 ih =>
    refine vx_go hC hFt hini (vx_ends hC hr hlk) jc_Mo_request 5 (by decide) rfl ?_
    refine And.intro (fun c7 => ?_) (fun c7 => ?_)
    · skip
      have c7 := (nI_leI (a := 8) (b := k) (by omega) (by omega)).mp c7
      refine vx_go hC hFt hini (vx_ends hC hr hlk) jc_Mo_request 15 (by decide) rfl ?_
      refine And.intro (trivial) (And.intro ?_ (And.intro (Nat.le_refl _) (Nat.le_refl _)))
      exact ⟨rfl, a4, rfl, ha4, fun j hj => hz4 j (by omega)⟩
    · skip
      have c7 : ¬ (8 ≤ k) := fun z => c7 ((nI_leI (a := 8) (b := k) (by omega) (by omega)).mpr z)
      refine And.intro rfl ?_
      refine And.intro rfl (And.intro rfl (And.intro (vp_in_nI (show k < 8 by omega) (by decide)) ?_))
      refine Vx.subL (lv' := [(0, .ref h), (1, .int mt), (2, .int (nI k + 1))]) [1, 2, 0] rfl ?_
      refine Vx.eqs rfl (lv2 := [(0, .ref h), (1, .int mt), (2, .int (nI (k + 1)))]) (by rw [nI_1]) rfl (w2 := mdW tc h ar now (upd sc 8 mt) (ap a4 8 (upd (a4 8) k (nI 0))) al) (by rw [nI_clamp (by omega)]; rfl) ?_
      exact ih (8 - (k + 1)) (by omega) (k + 1) (ap a4 8 (upd (a4 8) k (nI 0))) (fun j hj => (ap_n hj).trans (ha4 j hj)) (fun j hj => by
        rw [ap_s]
        by_cases e : j = k
        · rw [e]; exact pk_us
        · rw [pk_un e]; exact hz4 j (by omega)) (by omega) rfl
set_option maxRecDepth 100000 in
set_option maxHeartbeats 4000000 in
theorem c_Mo_add (l : Launch) (D : va_G) (tys : List (ClassId × FieldType)) (tc : Nat → ClassId) (hty : ∀ i : Nat, i < 4 → tys[i]? = some (tc i, vx_ty i)) (h : Nat) (ar : Nat → Nat) (now : Int64) (sc : Nat → Int32) (ai : Nat → Nat → Int32) (al : Nat → Nat → Int64) (rp : List Rp) (hrp : rpA ai al rp) (h1c : sc 1 = nI rp.length) (kd to bz nu : Int32) (wk : Bool) (tm : Int64) : Kt l y_Mo_add (yw y_Mo_add b_Mo_add 9 (some .int)) 0 0 0 0 D cls tys (fun _ _ _ => True) [.ref h, .int kd, .int to, .int bz, .int nu, .int (bI wk), .long tm] (mdW tc h ar now sc ai al) (fun r w => r = some (.int (if adB rp kd to bz nu tm = true then nI rp.length else -1)) ∧ (adB rp kd to bz nu tm = false → w = (mdW tc h ar now sc ai al)) ∧ (adB rp kd to bz nu tm = true → ∃ s2 a2 l2, w = mdW tc h ar now s2 a2 l2 ∧ (∀ k, k ≠ 1 → s2 k = sc k) ∧ (∀ k, 6 ≤ k → a2 k = ai k) ∧ (∀ k, k ≠ 6 → l2 k = al k) ∧ s2 1 = nI (rp ++ [adR kd to bz nu wk tm]).length ∧ rpA a2 l2 (rp ++ [adR kd to bz nu wk tm]))) := by
  refine Kt.of ro_true (by decide) rfl hty (Nat.le_of_ble_eq_true rfl) ?_
  intro p e s m args below meth c0 A hC hr hlk hnm hF
  have hFt : vx_Ft y_Mo_add.cls (yw y_Mo_add b_Mo_add 9 (some .int)) cls cty ft_Mo := ft_of (fun w h => List.mem_cons_of_mem _ h) fl_Mo_in ft_Mo_b
  have hini : false = true → meth.name = "<init>" := fun h => by cases h
  have hrl := hrp.1
  refine vx_cut (α := Bool) 64 (fun u => adG kd to bz nu tm = u) (fun u => [(0, .ref h), (1, .int kd), (2, .int to), (3, .int bz), (4, .int nu), (5, .int (bI wk)), (6, .long tm), (8, .int (bI u))]) (fun u => []) (fun u => (mdW tc h ar now sc ai al)) (fun hJ32 => ?_) ?_
  · skip
    refine vx_gon hC hFt hini (vx_ends hC hr hlk) jc_Mo_add 0 32 (by decide) rfl ?_
    refine And.intro (fun c1 => ?_) (fun c1 => ?_)
    · skip
      refine vx_gon hC hFt hini (vx_ends hC hr hlk) jc_Mo_add 30 2 (by decide) rfl ?_
      refine Vx.subL (lv' := [(0, .ref h), (1, .int kd), (2, .int to), (3, .int bz), (4, .int nu), (5, .int (bI wk)), (6, .long tm), (8, .int (bI false))]) [1, 2, 3, 4, 5, 6, 7, 0] rfl ?_
      exact hJ32 false (decide_eq_false (fun z => absurd z.1 (Int32.not_le.mpr c1)))
    · skip
      refine And.intro (fun c4 => ?_) (fun c4 => ?_)
      · skip
        refine vx_gon hC hFt hini (vx_ends hC hr hlk) jc_Mo_add 30 2 (by decide) rfl ?_
        refine Vx.subL (lv' := [(0, .ref h), (1, .int kd), (2, .int to), (3, .int bz), (4, .int nu), (5, .int (bI wk)), (6, .long tm), (8, .int (bI false))]) [1, 2, 3, 4, 5, 6, 7, 0] rfl ?_
        exact hJ32 false (decide_eq_false (fun z => absurd z.2.1 (Int32.not_le.mpr c4)))
      · skip
        refine And.intro (fun c6 => ?_) (fun c6 => ?_)
        · skip
          refine vx_gon hC hFt hini (vx_ends hC hr hlk) jc_Mo_add 30 2 (by decide) rfl ?_
          refine Vx.subL (lv' := [(0, .ref h), (1, .int kd), (2, .int to), (3, .int bz), (4, .int nu), (5, .int (bI wk)), (6, .long tm), (8, .int (bI false))]) [1, 2, 3, 4, 5, 6, 7, 0] rfl ?_
          exact hJ32 false (decide_eq_false (fun z => absurd z.2.2.1 (Int32.not_le.mpr c6)))
        · skip
          refine And.intro (fun c9 => ?_) (fun c9 => ?_)
          · skip
            refine vx_gon hC hFt hini (vx_ends hC hr hlk) jc_Mo_add 30 2 (by decide) rfl ?_
            refine Vx.subL (lv' := [(0, .ref h), (1, .int kd), (2, .int to), (3, .int bz), (4, .int nu), (5, .int (bI wk)), (6, .long tm), (8, .int (bI false))]) [1, 2, 3, 4, 5, 6, 7, 0] rfl ?_
            exact hJ32 false (decide_eq_false (fun z => absurd z.2.2.2.1 (Int32.not_le.mpr c9)))
          · skip
            refine And.intro (fun c11 => ?_) (fun c11 => ?_)
            · skip
              refine vx_gon hC hFt hini (vx_ends hC hr hlk) jc_Mo_add 30 2 (by decide) rfl ?_
              refine Vx.subL (lv' := [(0, .ref h), (1, .int kd), (2, .int to), (3, .int bz), (4, .int nu), (5, .int (bI wk)), (6, .long tm), (8, .int (bI false))]) [1, 2, 3, 4, 5, 6, 7, 0] rfl ?_
              exact hJ32 false (decide_eq_false (fun z => absurd z.2.2.2.2.1 (Int32.not_le.mpr c11)))
            · skip
              refine And.intro (Or.inl ⟨_, rfl, hC.2.2.2.2.1 _ (List.mem_cons_of_mem _ wc_Mo_96)⟩) ?_
              refine And.intro (fun c14 => ?_) (fun c14 => ?_)
              · skip
                refine vx_gon hC hFt hini (vx_ends hC hr hlk) jc_Mo_add 30 2 (by decide) rfl ?_
                refine Vx.subL (lv' := [(0, .ref h), (1, .int kd), (2, .int to), (3, .int bz), (4, .int nu), (5, .int (bI wk)), (6, .long tm), (8, .int (bI false))]) [1, 2, 3, 4, 5, 6, 7, 0] rfl ?_
                exact hJ32 false (decide_eq_false (fun z => absurd z.2.2.2.2.2.1 (Int32.not_le.mpr c14)))
              · skip
                refine And.intro (fun c16 => ?_) (fun c16 => ?_)
                · skip
                  refine vx_gon hC hFt hini (vx_ends hC hr hlk) jc_Mo_add 30 2 (by decide) rfl ?_
                  refine Vx.subL (lv' := [(0, .ref h), (1, .int kd), (2, .int to), (3, .int bz), (4, .int nu), (5, .int (bI wk)), (6, .long tm), (8, .int (bI false))]) [1, 2, 3, 4, 5, 6, 7, 0] rfl ?_
                  exact hJ32 false (decide_eq_false (fun z => absurd z.2.2.2.2.2.2.1 (Int32.not_le.mpr c16)))
                · skip
                  refine And.intro (fun c19 => ?_) (fun c19 => ?_)
                  · skip
                    refine vx_gon hC hFt hini (vx_ends hC hr hlk) jc_Mo_add 30 2 (by decide) rfl ?_
                    refine Vx.subL (lv' := [(0, .ref h), (1, .int kd), (2, .int to), (3, .int bz), (4, .int nu), (5, .int (bI wk)), (6, .long tm), (8, .int (bI false))]) [1, 2, 3, 4, 5, 6, 7, 0] rfl ?_
                    exact hJ32 false (decide_eq_false (fun z => absurd z.2.2.2.2.2.2.2.1 (Int32.not_le.mpr c19)))
                  · skip
                    refine And.intro (fun c23 => ?_) (fun c23 => ?_)
                    · skip
                      refine vx_gon hC hFt hini (vx_ends hC hr hlk) jc_Mo_add 30 2 (by decide) rfl ?_
                      refine Vx.subL (lv' := [(0, .ref h), (1, .int kd), (2, .int to), (3, .int bz), (4, .int nu), (5, .int (bI wk)), (6, .long tm), (8, .int (bI false))]) [1, 2, 3, 4, 5, 6, 7, 0] rfl ?_
                      exact hJ32 false (decide_eq_false (fun z => absurd z.2.2.2.2.2.2.2.2.1 (Int64.not_le.mpr (lc_lt.mp c23))))
                    · skip
                      refine And.intro (Or.inr (Or.inl ⟨_, rfl, hC.2.2.2.2.1 _ (List.mem_cons_of_mem _ wc_Mo_60)⟩)) ?_
                      refine And.intro (fun c27 => ?_) (fun c27 => ?_)
                      · skip
                        refine vx_gon hC hFt hini (vx_ends hC hr hlk) jc_Mo_add 30 2 (by decide) rfl ?_
                        refine Vx.subL (lv' := [(0, .ref h), (1, .int kd), (2, .int to), (3, .int bz), (4, .int nu), (5, .int (bI wk)), (6, .long tm), (8, .int (bI false))]) [1, 2, 3, 4, 5, 6, 7, 0] rfl ?_
                        exact hJ32 false (decide_eq_false (fun z => absurd z.2.2.2.2.2.2.2.2.2 (Int64.not_le.mpr (lc_gt.mp c27))))
                      · skip
                        refine vx_gon hC hFt hini (vx_ends hC hr hlk) jc_Mo_add 31 1 (by decide) rfl ?_
                        refine Vx.subL (lv' := [(0, .ref h), (1, .int kd), (2, .int to), (3, .int bz), (4, .int nu), (5, .int (bI wk)), (6, .long tm), (8, .int (bI true))]) [1, 2, 3, 4, 5, 6, 7, 0] rfl ?_
                        exact hJ32 true (decide_eq_true ⟨Int32.not_lt.mp c1, Int32.not_lt.mp c4, Int32.not_lt.mp c6, Int32.not_lt.mp c9, Int32.not_lt.mp c11, Int32.not_lt.mp c14, Int32.not_lt.mp c16, Int32.not_lt.mp c19, Int64.not_lt.mp (fun z => c23 (lc_lt.mpr z)), Int64.not_lt.mp (fun z => c27 (lc_gt.mpr z))⟩)
  · intro g hg
    refine vx_go hC hFt hini (vx_ends hC hr hlk) jc_Mo_add 32 (by decide) rfl ?_
    refine And.intro (fun c33 => ?_) (fun c33 => ?_)
    · skip
      have c33 : g = false := bI_eq c33
      refine vx_go hC hFt hini (vx_ends hC hr hlk) jc_Mo_add 38 (by decide) rfl ?_
      refine And.intro (trivial) (And.intro ?_ (And.intro (Nat.le_refl _) (Nat.le_refl _)))
      subst c33
      rw [show adB rp kd to bz nu tm = false by rw [adB, hg]; rfl]
      exact ⟨rfl, fun _ => rfl, fun z => by cases z⟩
    · skip
      have c33 : g = true := bI_ne c33
      refine And.intro rfl ?_
      refine And.intro (fun c37 => ?_) (fun c37 => ?_)
      · skip
        have c37 : rp.length < 4 := by
          have : ¬ rp.length = 4 := fun z => c37 (by rw [h1c, z]; rfl)
          omega
        refine vx_go hC hFt hini (vx_ends hC hr hlk) jc_Mo_add 40 (by decide) rfl ?_
        refine And.intro rfl ?_
        refine And.intro rfl ?_
        refine And.intro rfl (And.intro rfl (And.intro (show vp_in (sc 1) 4 by rw [h1c]; exact vp_in_nI (by omega) (by decide)) ?_))
        refine And.intro rfl ?_
        refine And.intro rfl ?_
        refine And.intro rfl (And.intro rfl (And.intro (show vp_in (sc 1) 4 by rw [h1c]; exact vp_in_nI (by omega) (by decide)) ?_))
        refine And.intro rfl ?_
        refine And.intro rfl ?_
        refine And.intro rfl (And.intro rfl (And.intro (show vp_in (sc 1) 4 by rw [h1c]; exact vp_in_nI (by omega) (by decide)) ?_))
        refine And.intro rfl ?_
        refine And.intro rfl ?_
        refine And.intro rfl (And.intro rfl (And.intro (show vp_in (sc 1) 4 by rw [h1c]; exact vp_in_nI (by omega) (by decide)) ?_))
        refine And.intro rfl ?_
        refine And.intro rfl ?_
        refine And.intro rfl (And.intro rfl (And.intro (show vp_in (sc 1) 4 by rw [h1c]; exact vp_in_nI (by omega) (by decide)) ?_))
        refine And.intro rfl ?_
        refine And.intro rfl ?_
        refine And.intro rfl (And.intro rfl (And.intro (show vp_in (sc 1) 4 by rw [h1c]; exact vp_in_nI (by omega) (by decide)) ?_))
        refine And.intro rfl ?_
        refine And.intro rfl ?_
        refine And.intro rfl (And.intro (And.intro rfl rfl) ?_)
        refine And.intro rfl ?_
        refine And.intro (trivial) (And.intro ?_ (And.intro (Nat.le_refl _) (Nat.le_refl _)))
        subst c33
        rw [show adB rp kd to bz nu tm = true by rw [adB, hg, decide_eq_true c37]; rfl]
        obtain ⟨hok, e1, e2, e3, e4, e5⟩ := adR_ok (wk := wk) hg
        refine ⟨?_, (fun z => by cases z), fun _ => ⟨upd sc 1 (sc 1 + 1), (ap (ap (ap (ap (ap ai 1 (upd (ai 1) (sc 1).toNatClampNeg kd)) 2 (upd (ai 2) (sc 1).toNatClampNeg to)) 3 (upd (ai 3) (sc 1).toNatClampNeg bz)) 4 (upd (ai 4) (sc 1).toNatClampNeg nu)) 5 (upd (ai 5) (sc 1).toNatClampNeg (vp_nar .boolean (bI wk)))), apl al 6 (vp_updL (al 6) (sc 1).toNatClampNeg tm), rfl, fun k hk => pk_un hk, fun k hk => ?_, fun k hk => if_neg hk, ?_, ?_⟩⟩
        · show some (Value.int (sc 1 + nI 1 - nI 1)) = some (Value.int (nI rp.length))
          rw [h1c, nI_add, pk_sub (by omega), Nat.add_sub_cancel]
        · rw [ap_n (by omega), ap_n (by omega), ap_n (by omega), ap_n (by omega), ap_n (by omega)]
        · rw [h1c, nI_1, List.length_append]; exact pk_us
        · have hc : (sc 1).toNatClampNeg = rp.length := by rw [h1c, nI_clamp (by omega)]
          rw [hc]
          refine rpA_add hrp c37 hok ?_ ?_ ?_ ?_ ?_ ?_
          · show upd (ai 1) rp.length kd = upd (ai 1) rp.length (nI kd.toNatClampNeg)
            rw [← e1]
          · show upd (ai 2) rp.length to = upd (ai 2) rp.length (nI to.toNatClampNeg)
            rw [← e2]
          · show upd (ai 3) rp.length bz = upd (ai 3) rp.length (nI bz.toNatClampNeg)
            rw [← e3]
          · show upd (ai 4) rp.length nu = upd (ai 4) rp.length (nI nu.toNatClampNeg)
            rw [← e4]
          · show upd (ai 5) rp.length (vp_nar .boolean (bI wk)) = upd (ai 5) rp.length (bI wk)
            rw [nar_b]
          · intro j
            show vp_updL (al 6) rp.length tm j = if j = rp.length then lN tm.toNatClampNeg else al 6 j
            rw [← e5]; rfl
      · skip
        have c37 : ¬ rp.length < 4 := by
          have := (nI_eq (a := rp.length) (b := 4) (by omega) (by omega)).mp (by rw [← h1c]; exact c37)
          omega
        refine And.intro (trivial) (And.intro ?_ (And.intro (Nat.le_refl _) (Nat.le_refl _)))
        rw [show adB rp kd to bz nu tm = false by rw [adB, decide_eq_false c37, Bool.and_false]]
        exact ⟨rfl, fun _ => rfl, fun z => by cases z⟩
