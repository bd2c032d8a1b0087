/-! THE REFERENCE: bodies, by program (wip/whole/gen/p55.py) -/
theorem sub_add3 {a b c : Nat} (h : b ≤ a + c) : nI a - nI b + nI c = nI (a + c - b) := by
  rw [Int32.sub_eq_add_neg, Int32.add_assoc, Int32.add_comm (-nI b), ← Int32.add_assoc, ← Int32.sub_eq_add_neg, nI_add, pk_sub h]
theorem hdg_1 {sz : Nat} {u : Nat × Nat} {i : Nat} (h : i < 8) : (hdg sz u).getD i 0 = ([45, 45, 80, 65, 82, 84, 13, 10] : List Nat).getD i 0 := by
  rw [hdg, gd_app, if_pos (show i < hd15.length from (by show i < 15; omega)), show hd15 = ([45, 45, 80, 65, 82, 84, 13, 10] : List Nat) ++ [82, 97, 110, 103, 101, 58, 32] from rfl, gd_app]; exact if_pos h
theorem hdg_2 {sz : Nat} {u : Nat × Nat} {i : Nat} (h : ¬ i < 8) (h2 : i < 15) : (hdg sz u).getD i 0 = ([82, 97, 110, 103, 101, 58, 32] : List Nat).getD (i - 8) 0 := by
  rw [hdg, gd_app, if_pos (show i < hd15.length from h2), show hd15 = ([45, 45, 80, 65, 82, 84, 13, 10] : List Nat) ++ [82, 97, 110, 103, 101, 58, 32] from rfl, gd_app]; exact if_neg h
theorem hdg_3 {sz : Nat} {u : Nat × Nat} {i : Nat} (h : ¬ i < 15) (h2 : i < hln sz u - 4) : (hdg sz u).getD i 0 = (fgr sz u).getD (i - 15) 0 := by
  have := fgr_len (sz := sz) (u := u)
  rw [hdg, gd_app, if_neg (show ¬ i < hd15.length from h), show hd15.length = 15 from rfl, gd_app, if_pos (show i - 15 < (fgr sz u).length by omega)]
theorem hdg_4 {sz : Nat} {u : Nat × Nat} {i : Nat} (h : ¬ i < hln sz u - 4) (h2 : i < hln sz u) : (hdg sz u).getD i 0 = [13, 10].getD ((i + 4 - hln sz u) % 2) 0 := by
  have := fgr_len (sz := sz) (u := u)
  rw [hdg, gd_app, if_neg (show ¬ i < hd15.length from (by show ¬ i < 15; omega)), show hd15.length = 15 from rfl, gd_app, if_neg (show ¬ i - 15 < (fgr sz u).length by omega)]
  show [13, 10, 13, 10].getD (i - 15 - (fgr sz u).length) 0 = _
  rw [show i - 15 - (fgr sz u).length = i + 4 - hln sz u by omega]
  rcases (show i + 4 - hln sz u = 0 ∨ i + 4 - hln sz u = 1 ∨ i + 4 - hln sz u = 2 ∨ i + 4 - hln sz u = 3 by omega) with e | e | e | e <;> rw [e] <;> rfl
theorem lN_n {n : Nat} (h : n < 2 ^ 31) : (nI n).toInt64 = lN n := nI_l h
set_option maxRecDepth 100000 in
set_option maxHeartbeats 4000000 in
theorem c_Mo_partByte (l : Launch) (D : va_G) (tys : List (ClassId × FieldType)) (tc : Nat → ClassId) (hty : ∀ i : Nat, i < 4 → tys[i]? = some (tc i, vx_ty i)) (h : Nat) (ar : Nat → Nat) (now : Int64) (sc : Nat → Int32) (ai : Nat → Nat → Int32) (al : Nat → Nat → Int64) (pa : List (Nat × Nat)) (hpa : paA ai pa) (k sz : Nat) (hk : k < pa.length) (hsz : sz ≤ 100000) (h25 : sc 25 = nI sz) (i num : Nat) (hi : i < psz sz (pa.getD k (0, 0))) (hnum : num < 4) (h24n : sc 24 = nI num) : Kt l y_Mo_partByte (yw y_Mo_partByte b_Mo_partByte 5 (some .int)) 3 70 0 0 D cls tys (fun _ _ _ => True) [.ref h, .int (nI k), .int (nI i)] (mdW tc h ar now sc ai al) (fun r w => r = some (.int (nI (pbS sz num (pa.getD k (0, 0)) i))) ∧ w = (mdW tc h ar now sc ai al)) := by
  refine Kt.of ro_true (by decide) rfl hty (Nat.le_of_ble_eq_true rfl) ?_
  intro p e s m args below meth c0 A hC hr hlk hnm hF
  have hFt : vx_Ft y_Mo_partByte.cls (yw y_Mo_partByte b_Mo_partByte 5 (some .int)) cls cty ft_Mo := ft_of (fun w h => List.mem_cons_of_mem _ h) fl_Mo_in ft_Mo_b
  have hini : false = true → meth.name = "<init>" := fun h => by cases h
  have hp4 := hpa.1
  obtain ⟨hk1, hk2, hk3, hk4⟩ := hpa.2 k hk
  obtain ⟨u, hu⟩ : ∃ u, u = pa.getD k (0, 0) := ⟨_, rfl⟩
  rw [← hu] at hk1 hk2 hk3 hk4 hi ⊢
  have hl1 := dec_le (n := u.1) (by omega)
  have hl2 := dec_le (n := u.2) (by omega)
  have hl3 := dec_le (n := sz) (by omega)
  have hH : hln sz u ≤ 100 := by unfold hln; omega
  have hH2 : 19 ≤ hln sz u := by unfold hln; omega
  have hps : psz sz u = hln sz u + (u.2 - u.1 + 1) + 2 := rfl
  refine vx_go hC hFt hini (vx_ends hC hr hlk) jc_Mo_partByte 0 (by decide) rfl ?_
  refine mo_call hC (c_Mo_headOf l D tys tc hty h ar now sc ai al pa hpa k sz hk hsz h25) wm_Mo_headOf wl_Mo_360 wi_Mo_headOf ws_Mo_Mo_headOf ⟨by decide, by decide⟩ rfl rfl (Nat.le_of_ble_eq_true rfl) ⟨Nat.zero_le _, Nat.zero_le _⟩ (fun r' w1 hp => ?_)
  obtain ⟨rfl, rfl⟩ := hp
  rw [← hu]
  refine And.intro (fun c6 => ?_) (fun c6 => ?_)
  · skip
    have c6b := (nI_leI (a := 8) (b := i) (by omega) (by omega)).mp c6
    have c6 : ¬ i < 8 := by omega
    refine vx_go hC hFt hini (vx_ends hC hr hlk) jc_Mo_partByte 16 (by decide) rfl ?_
    refine And.intro (fun c18 => ?_) (fun c18 => ?_)
    · skip
      have c18b := (nI_leI (a := 15) (b := i) (by omega) (by omega)).mp c18
      have c18 : ¬ i < 15 := by omega
      refine vx_go hC hFt hini (vx_ends hC hr hlk) jc_Mo_partByte 30 (by decide) rfl ?_
      refine And.intro (fun c34 => ?_) (fun c34 => ?_)
      · skip
        have c34 : ¬ i < hln sz u - 4 := by
          have c34 : nI (hln sz u) - nI 4 ≤ nI i := c34
          rw [pk_sub (by omega)] at c34
          have := (nI_leI (a := hln sz u - 4) (b := i) (by omega) (by omega)).mp c34
          omega
        refine vx_go hC hFt hini (vx_ends hC hr hlk) jc_Mo_partByte 49 (by decide) rfl ?_
        refine And.intro (fun c51 => ?_) (fun c51 => ?_)
        · skip
          have c51b := (nI_leI (a := hln sz u) (b := i) (by omega) (by omega)).mp c51
          have c51 : ¬ i < hln sz u := by omega
          refine vx_go hC hFt hini (vx_ends hC hr hlk) jc_Mo_partByte 59 (by decide) rfl ?_
          refine And.intro rfl ?_
          refine And.intro rfl (And.intro rfl (And.intro (vp_in_nI (show k < 4 by omega) (by decide)) ?_))
          rw [nI_clamp (by omega), hk1]
          refine And.intro rfl ?_
          refine And.intro rfl (And.intro rfl (And.intro (vp_in_nI (show k < 4 by omega) (by decide)) ?_))
          rw [nI_clamp (by omega), hk2]
          refine And.intro (fun c73 => ?_) (fun c73 => ?_)
          · skip
            have c73 : u.2 < (u.1 + (i - hln sz u)) := by
              have c73 : nI u.2 < nI u.1 + nI i - nI (hln sz u) := c73
              rw [nI_add, pk_sub (by omega), show u.1 + i - hln sz u = (u.1 + (i - hln sz u)) by omega] at c73
              exact (nI_ltI (by omega) (by omega)).mp c73
            refine vx_go hC hFt hini (vx_ends hC hr hlk) jc_Mo_partByte 78 (by decide) rfl ?_
            refine And.intro rfl ?_
            refine And.intro rfl (And.intro rfl (And.intro (vp_in_nI (show k < 4 by omega) (by decide)) ?_))
            rw [nI_clamp (by omega), hk2]
            refine mo_calls hC (c_Mo_crlf l D tys tc hty ((u.1 + (i - hln sz u)) - u.2 - 1) (by omega)) wm_Mo_crlf wl_Mo_379 wt_Mo_crlf ⟨by decide, by decide⟩ rfl (show [Value.int (nI u.1 + nI i - nI (hln sz u) - nI u.2 - nI 1)] = [Value.int (nI ((u.1 + (i - hln sz u)) - u.2 - 1))] by rw [nI_add, pk_sub (by omega), show u.1 + i - hln sz u = (u.1 + (i - hln sz u)) by omega, pk_sub (by omega), pk_sub (by omega)]) (Nat.le_of_ble_eq_true rfl) ⟨Nat.zero_le _, Nat.zero_le _⟩ (fun r' hp => ?_)
            subst hp
            refine And.intro (trivial) (And.intro ?_ (And.intro (Nat.le_refl _) (Nat.le_refl _)))
            rw [show pbS sz num u i = [13, 10].getD (i - hln sz u - (u.2 - u.1 + 1)) 0 by unfold pbS; rw [if_neg c51, if_neg (by omega)], show i - hln sz u - (u.2 - u.1 + 1) = (u.1 + (i - hln sz u) - u.2 - 1) % 2 by omega]
            exact And.intro rfl rfl
          · skip
            have c73 : ¬ u.2 < (u.1 + (i - hln sz u)) := fun z => c73 (show nI u.2 < nI u.1 + nI i - nI (hln sz u) by rw [nI_add, pk_sub (by omega), show u.1 + i - hln sz u = (u.1 + (i - hln sz u)) by omega]; exact (nI_ltI (by omega) (by omega)).mpr z)
            refine mo_call hC (c_Mo_byteAt l D tys tc hty h ar now sc ai al (u.1 + (i - hln sz u)) num (by omega) hnum h24n) wm_Mo_byteAt wl_Mo_382 wi_Mo_byteAt ws_Mo_Mo_byteAt ⟨by decide, by decide⟩ rfl (show [Value.int (nI u.1 + nI i - nI (hln sz u)), Value.ref h] = [Value.int (nI (u.1 + (i - hln sz u))), Value.ref h] by rw [nI_add, pk_sub (by omega), show u.1 + i - hln sz u = (u.1 + (i - hln sz u)) by omega]) (Nat.le_of_ble_eq_true rfl) ⟨Nat.zero_le _, Nat.zero_le _⟩ (fun r' w1 hp => ?_)
            obtain ⟨rfl, rfl⟩ := hp
            refine vx_go hC hFt hini (vx_ends hC hr hlk) jc_Mo_partByte 87 (by decide) rfl ?_
            refine And.intro (trivial) (And.intro ?_ (And.intro (Nat.le_refl _) (Nat.le_refl _)))
            rw [show pbS sz num u i = bt num (u.1 + (i - hln sz u)) by unfold pbS; rw [if_neg c51, if_pos (by omega)]]
            exact And.intro rfl rfl
        · skip
          have c51b : ¬ (hln sz u ≤ i) := fun z => c51 ((nI_leI (a := hln sz u) (b := i) (by omega) (by omega)).mpr z)
          have c51 : i < hln sz u := by omega
          refine mo_calls hC (c_Mo_crlf l D tys tc hty (i + 4 - hln sz u) (by omega)) wm_Mo_crlf wl_Mo_379 wt_Mo_crlf ⟨by decide, by decide⟩ rfl (show [Value.int (nI i - nI (hln sz u) + nI 4)] = [Value.int (nI (i + 4 - hln sz u))] by rw [sub_add3 (by omega)]) (Nat.le_of_ble_eq_true rfl) ⟨Nat.zero_le _, Nat.zero_le _⟩ (fun r' hp => ?_)
          subst hp
          refine And.intro (trivial) (And.intro ?_ (And.intro (Nat.le_refl _) (Nat.le_refl _)))
          rw [show pbS sz num u i = (hdg sz u).getD i 0 from if_pos (by omega), hdg_4 c34 c51]
          exact And.intro rfl rfl
      · skip
        have c34 : i < hln sz u - 4 := Nat.lt_of_not_le (fun z => c34 (show nI (hln sz u) - nI 4 ≤ nI i by rw [pk_sub (by omega)]; exact (nI_leI (by omega) (by omega)).mpr z))
        refine And.intro rfl ?_
        refine And.intro rfl (And.intro rfl (And.intro (vp_in_nI (show k < 4 by omega) (by decide)) ?_))
        rw [nI_clamp (by omega), hk1]
        refine And.intro rfl ?_
        refine And.intro rfl (And.intro rfl (And.intro (vp_in_nI (show k < 4 by omega) (by decide)) ?_))
        rw [nI_clamp (by omega), hk2]
        refine mo_call hC (c_Mo_figures l D tys tc hty h ar now sc ai al u.1 u.2 sz (i - 15) (by omega) (by omega) hsz h25 (by have := fgr_len (sz := sz) (u := u); show i - 15 < (fgr sz u).length; omega)) wm_Mo_figures wl_Mo_375 wi_Mo_figures ws_Mo_Mo_figures ⟨by decide, by decide⟩ rfl (show [Value.int (nI i - nI 15), Value.int (nI u.2), Value.int (nI u.1), Value.ref h] = [Value.int (nI (i - 15)), Value.int (nI u.2), Value.int (nI u.1), Value.ref h] by rw [pk_sub (by omega)]) (Nat.le_of_ble_eq_true rfl) ⟨Nat.zero_le _, Nat.zero_le _⟩ (fun r' w1 hp => ?_)
        obtain ⟨rfl, rfl⟩ := hp
        refine And.intro (trivial) (And.intro ?_ (And.intro (Nat.le_refl _) (Nat.le_refl _)))
        rw [show pbS sz num u i = (hdg sz u).getD i 0 from if_pos (by omega), hdg_3 (by omega) c34]
        exact And.intro rfl rfl
    · skip
      have c18b : ¬ (15 ≤ i) := fun z => c18 ((nI_leI (a := 15) (b := i) (by omega) (by omega)).mpr z)
      have c18 : i < 15 := by omega
      refine And.intro (Or.inr (Or.inl ⟨_, rfl, hC.2.2.2.2.1 _ (List.mem_cons_of_mem _ wc_Mo_373)⟩)) ?_
      refine And.intro (Or.inr (Or.inl ⟨_, rfl, hC.2.2.2.2.1 _ (List.mem_cons_of_mem _ wc_Mo_103)⟩)) ?_
      refine And.intro (trivial) (And.intro ?_ (And.intro (Nat.le_refl _) (Nat.le_refl _)))
      rw [show pbS sz num u i = (hdg sz u).getD i 0 from if_pos (by omega), hdg_2 (by omega) c18]
      refine And.intro ?_ rfl
      show some (Value.int (((9071406456136018 : Int64) >>> (((8 : Int32) * (nI i - nI 8)).toInt64 &&& 63)) &&& 255).toInt32) = _
      rw [pk_sub (by omega), (iw_hd2.2.1 (i - 8) (show i - 8 < 7 by omega)).1, lN_i]
  · skip
    have c6b : ¬ (8 ≤ i) := fun z => c6 ((nI_leI (a := 8) (b := i) (by omega) (by omega)).mpr z)
    have c6 : i < 8 := by omega
    refine And.intro (Or.inr (Or.inl ⟨_, rfl, hC.2.2.2.2.1 _ (List.mem_cons_of_mem _ wc_Mo_371)⟩)) ?_
    refine And.intro (Or.inr (Or.inl ⟨_, rfl, hC.2.2.2.2.1 _ (List.mem_cons_of_mem _ wc_Mo_103)⟩)) ?_
    refine And.intro (trivial) (And.intro ?_ (And.intro (Nat.le_refl _) (Nat.le_refl _)))
    rw [show pbS sz num u i = (hdg sz u).getD i 0 from if_pos (by omega), hdg_1 c6]
    refine And.intro ?_ rfl
    show some (Value.int (((724327827336342829 : Int64) >>> (((8 : Int32) * nI i).toInt64 &&& 63)) &&& 255).toInt32) = _
    rw [(iw_hd1.2.1 i c6).1, lN_i]
theorem sum_take {sz : Nat} {pa : List (Nat × Nat)} {k : Nat} (h : k < pa.length) : ((pa.take (k + 1)).map (psz sz)).sum = ((pa.take k).map (psz sz)).sum + psz sz (pa.getD k (0, 0)) := by
  rw [List.take_add_one, pa_get h, List.map_append, List.sum_append]; simp
theorem psz_le {sz : Nat} {pa : List (Nat × Nat)} {a : Nat → Nat → Int32} (hpa : paA a pa) (hsz : sz ≤ 100000) {k : Nat} (h : k < pa.length) : psz sz (pa.getD k (0, 0)) ≤ 200000 := by
  have h1 := hpa.2 k h
  have hl1 := dec_le (n := (pa.getD k (0, 0)).1) (by omega)
  have hl2 := dec_le (n := (pa.getD k (0, 0)).2) (by omega)
  have hl3 := dec_le (n := sz) (by omega)
  unfold psz hln
  omega
theorem sum_le {sz : Nat} {pa : List (Nat × Nat)} {a : Nat → Nat → Int32} (hpa : paA a pa) (hsz : sz ≤ 100000) : ∀ k, k ≤ pa.length → ((pa.take k).map (psz sz)).sum ≤ 200000 * k
  | 0, _ => by simp
  | k + 1, h => by
    have h1 := sum_le hpa hsz k (by omega)
    have h2 := psz_le hpa hsz (k := k) h
    rw [sum_take h]
    omega
theorem lnS_two {st : Int32} {num sz : Nat} {pa : List (Nat × Nat)} (h : ¬ st = 200) (h2 : 2 ≤ pa.length) : lnS st (some (num, sz)) pa = 10 + (pa.map (psz sz)).sum := by
  unfold lnS
  show (if st = 200 then sz else _) = _
  rw [if_neg h]
  match pa, h2 with
  | _ :: _ :: _, _ => rfl
theorem lnS_one {st : Int32} {num sz : Nat} {pa : List (Nat × Nat)} (h : ¬ st = 200) (h2 : pa.length = 1) : lnS st (some (num, sz)) pa = (pa.getD 0 (0, 0)).2 - (pa.getD 0 (0, 0)).1 + 1 := by
  unfold lnS
  show (if st = 200 then sz else _) = _
  rw [if_neg h]
  match pa, h2 with
  | [v], _ => rfl
theorem lnS_nil {st : Int32} {an : Option (Nat × Nat)} (h : ¬ st = 200) : lnS st an [] = 0 := by
  cases an with
  | none => rfl
  | some u => exact if_neg h
theorem lnS_le {st : Int32} {an : Option (Nat × Nat)} {pa : List (Nat × Nat)} {a : Nat → Nat → Int32} (hpa : paA a pa) (hok : anOk st an pa) : lnS st an pa ≤ 1000000 := by
  cases an with
  | none => exact Nat.zero_le _
  | some u =>
    have hb := (hok.2.2.1 u rfl).2
    by_cases h : st = 200
    · rw [show lnS st (some u) pa = u.2 from if_pos h]; omega
    · by_cases h0 : pa.length = 0
      · rw [List.eq_nil_of_length_eq_zero h0, lnS_nil h]; omega
      · by_cases h1 : pa.length = 1
        · have := hpa.2 0 (by omega)
          rw [show lnS st (some u) pa = _ from lnS_one (num := u.1) (sz := u.2) h h1]; omega
        · have h4 := hpa.1
          have := sum_le hpa hb pa.length (Nat.le_refl _)
          rw [List.take_length] at this
          rw [show lnS st (some u) pa = _ from lnS_two (num := u.1) (sz := u.2) h (by omega)]; omega
set_option maxRecDepth 100000 in
set_option maxHeartbeats 4000000 in
theorem c_Mo_length (l : Launch) (D : va_G) (tys : List (ClassId × FieldType)) (tc : Nat → ClassId) (hty : ∀ i : Nat, i < 4 → tys[i]? = some (tc i, vx_ty i)) (h : Nat) (ar : Nat → Nat) (now : Int64) (sc : Nat → Int32) (ai : Nat → Nat → Int32) (al : Nat → Nat → Int64) (st : Int32) (an : Option (Nat × Nat)) (ho : Bool) (pa : List (Nat × Nat)) (hok : anOk st an pa) (hA : mdA sc ai st an ho pa) : Kt l y_Mo_length (yw y_Mo_length b_Mo_length 4 (some .long)) 3 64 0 0 D cls tys (fun _ _ _ => True) [.ref h] (mdW tc h ar now sc ai al) (fun r w => r = some (.long (lN (lnS st an pa))) ∧ w = (mdW tc h ar now sc ai al)) := by
  refine Kt.of ro_true (by decide) rfl hty (Nat.le_of_ble_eq_true rfl) ?_
  intro p e s m args below meth c0 A hC hr hlk hnm hF
  have hFt : vx_Ft y_Mo_length.cls (yw y_Mo_length b_Mo_length 4 (some .long)) cls cty ft_Mo := ft_of (fun w h => List.mem_cons_of_mem _ h) fl_Mo_in ft_Mo_b
  have hini : false = true → meth.name = "<init>" := fun h => by cases h
  obtain ⟨h23, h24, h25, h26, h27, hpa⟩ := id hA
  have hp4 := hpa.1
  refine vx_gon hC hFt hini (vx_ends hC hr hlk) jc_Mo_length 0 35 (by decide) rfl ?_
  refine And.intro rfl ?_
  refine And.intro (fun c3 => ?_) (fun c3 => ?_)
  · skip
    have c3 : ¬ st = 200 := by rw [← h23]; exact c3
    refine vx_gon hC hFt hini (vx_ends hC hr hlk) jc_Mo_length 8 27 (by decide) rfl ?_
    refine And.intro rfl ?_
    refine And.intro (fun c11 => ?_) (fun c11 => ?_)
    · skip
      have c11 : st = 206 := by rw [← h23]; exact c11
      have hne := hok.2.1.mp c11
      obtain ⟨⟨num, sz⟩, rfl⟩ : ∃ u, an = some u := by
        cases an with
        | none => exact absurd (hok.1 rfl).1 hne
        | some u => exact ⟨u, rfl⟩
      have hsz : sz ≤ 100000 := (hok.2.2.1 _ rfl).2
      replace h25 : sc 25 = nI sz := h25
      have hl0 : 0 < pa.length := List.length_pos_iff.mpr hne
      refine vx_gon hC hFt hini (vx_ends hC hr hlk) jc_Mo_length 14 21 (by decide) rfl ?_
      refine And.intro rfl ?_
      refine And.intro (fun c17 => ?_) (fun c17 => ?_)
      · skip
        have c17 : ¬ pa.length = 1 := fun z => c17 (by rw [h27, z]; rfl)
        refine vx_gon hC hFt hini (vx_ends hC hr hlk) jc_Mo_length 31 4 (by decide) rfl ?_
        refine And.intro (Or.inr (Or.inl ⟨_, rfl, hC.2.2.2.2.1 _ (List.mem_cons_of_mem _ wc_Mo_363)⟩)) ?_
        refine Vx.subL (lv' := [(0, .ref h), (1, .long (lN 10)), (3, .int (nI 0))]) [2, 1, 0] rfl ?_
        obtain ⟨k, hk0⟩ : ∃ k : Nat, k = 0 := ⟨_, rfl⟩
        obtain ⟨D9, hD0⟩ : ∃ D9 : Nat, D9 = 10 := ⟨_, rfl⟩
        refine Vx.eqs rfl (lv2 := [(0, .ref h), (1, .long (lN D9)), (3, .int (nI k))]) (by rw [hk0, hD0]) rfl rfl ?_
        have hD : D9 = 10 + ((pa.take k).map (psz sz)).sum := by rw [hk0, hD0]; rfl
        have hkl : k ≤ pa.length := by omega
        clear hk0 hD0
        induction hn : pa.length - k using Nat.strongRecOn generalizing k D9 with
        | _ m9 ih =>
          refine vx_go hC hFt hini (vx_ends hC hr hlk) jc_Mo_length 35 (by decide) rfl ?_
          refine And.intro rfl ?_
          refine And.intro (fun c38 => ?_) (fun c38 => ?_)
          · skip
            have c38 : pa.length ≤ k := by rw [h27] at c38; exact (nI_leI (by omega) (by omega)).mp c38
            refine vx_go hC hFt hini (vx_ends hC hr hlk) jc_Mo_length 48 (by decide) rfl ?_
            refine And.intro (trivial) (And.intro ?_ (And.intro (Nat.le_refl _) (Nat.le_refl _)))
            rw [List.take_of_length_le (by omega)] at hD
            rw [lnS_two c3 (by omega), ← hD]
            exact And.intro rfl rfl
          · skip
            have c38 : ¬ pa.length ≤ k := fun z => c38 (by rw [h27]; exact (nI_leI (by omega) (by omega)).mpr z)
            refine mo_call hC (c_Mo_partSize l D tys tc hty h ar now sc ai al pa hpa k sz (by omega) hsz h25) wm_Mo_partSize wl_Mo_365 wi_Mo_partSize ws_Mo_Mo_partSize ⟨by decide, by decide⟩ rfl rfl (Nat.le_of_ble_eq_true rfl) ⟨Nat.zero_le _, Nat.zero_le _⟩ (fun r' w1 hp => ?_)
            obtain ⟨rfl, rfl⟩ := hp
            refine Vx.subL (lv' := [(0, .ref h), (1, .long (lN D9 + (nI (psz sz (pa.getD k (0, 0)))).toInt64)), (3, .int (nI k + 1))]) [2, 1, 0] rfl ?_
            have hpz := psz_le hpa hsz (k := k) (by omega)
            rw [nI_1, lN_n (by omega), lN_add]
            exact ih (pa.length - (k + 1)) (by omega) (k + 1) (D9 + psz sz (pa.getD k (0, 0))) (by rw [sum_take (by omega), hD]; omega) (by omega) rfl
      · skip
        have c17 : pa.length = 1 := (nI_eq (b := 1) (by omega) (by omega)).mp (by rw [← h27]; exact c17)
        refine And.intro rfl ?_
        refine And.intro rfl (And.intro rfl (And.intro (show vp_in (nI 0) 4 from vp_in_nI (by decide) (by decide)) ?_))
        rw [show ((0, 0, 0, 0, 0) : wq_A).2.2.2.1.toNatClampNeg = 0 from rfl, (hpa.2 0 (by omega)).2.1]
        refine And.intro rfl ?_
        refine And.intro rfl (And.intro rfl (And.intro (show vp_in (nI 0) 4 from vp_in_nI (by decide) (by decide)) ?_))
        rw [show ((0, 0, 0, 0, 0) : wq_A).2.2.2.1.toNatClampNeg = 0 from rfl, (hpa.2 0 (by omega)).1]
        refine And.intro (trivial) (And.intro ?_ (And.intro (Nat.le_refl _) (Nat.le_refl _)))
        have hv := hpa.2 0 (by omega)
        refine And.intro ?_ rfl
        show some (Value.long (nI (pa.getD 0 (0, 0)).2 - nI (pa.getD 0 (0, 0)).1 + nI 1).toInt64) = _
        rw [pk_sub hv.2.2.1, nI_add, lN_n (by omega), lnS_one c3 c17]
    · skip
      have c11 : ¬ st = 206 := by rw [← h23]; exact c11
      refine And.intro (trivial) (And.intro ?_ (And.intro (Nat.le_refl _) (Nat.le_refl _)))
      have hn : pa = [] := Classical.byContradiction (fun z => c11 (hok.2.1.mpr z))
      rw [hn, lnS_nil c3]
      exact And.intro rfl rfl
  · skip
    have c3 : st = 200 := by rw [← h23]; exact c3
    refine And.intro rfl ?_
    refine And.intro (trivial) (And.intro ?_ (And.intro (Nat.le_refl _) (Nat.le_refl _)))
    obtain ⟨u, rfl⟩ : ∃ u, an = some u := by
      cases an with
      | none => exact absurd c3 (hok.1 rfl).2
      | some u => exact ⟨u, rfl⟩
    refine And.intro ?_ rfl
    rw [h25, show lnS st (some u) pa = u.2 from if_pos c3]
    exact congrArg (fun z => some (Value.long z)) (lN_n (by have := (hok.2.2.1 u rfl).2; show u.2 < _; omega))
theorem bd_neg {st : Int32} {an : Option (Nat × Nat)} {ho : Bool} {pa : List (Nat × Nat)} {i : Int32} (h : i < 0) : bdS st an ho pa i = -1 := if_pos h
theorem bd_big {st : Int32} {an : Option (Nat × Nat)} {ho : Bool} {pa : List (Nat × Nat)} {i : Int32} (h : ¬ i < 0) (h2 : lnS st an pa ≤ i.toNatClampNeg) : bdS st an ho pa i = -1 := by unfold bdS; rw [if_neg h, if_pos h2]
theorem bd_ho {st : Int32} {an : Option (Nat × Nat)} {pa : List (Nat × Nat)} {i : Int32} (h : ¬ i < 0) (h2 : ¬ lnS st an pa ≤ i.toNatClampNeg) : bdS st an true pa i = -1 := by unfold bdS; rw [if_neg h, if_neg h2, if_pos rfl]
theorem bd_go {st : Int32} {num sz : Nat} {pa : List (Nat × Nat)} {i : Int32} (h : ¬ i < 0) (h2 : ¬ lnS st (some (num, sz)) pa ≤ i.toNatClampNeg) : bdS st (some (num, sz)) false pa i = bdV st (num, sz) pa i.toNatClampNeg := by unfold bdS; rw [if_neg h, if_neg h2, if_neg (fun z => by cases z)]
theorem bdV_0 {st : Int32} {u : Nat × Nat} {pa : List (Nat × Nat)} {n : Nat} (h : st = 200) : bdV st u pa n = nI (bt u.1 n) := if_pos h
theorem bdV_1 {st : Int32} {u : Nat × Nat} {pa : List (Nat × Nat)} {n : Nat} (h : ¬ st = 200) (h1 : pa.length = 1) : bdV st u pa n = nI (bt u.1 ((pa.getD 0 (0, 0)).1 + n)) := by
  unfold bdV
  rw [if_neg h]
  match pa, h1 with
  | [v], _ => rfl
theorem bdV_2 {st : Int32} {u : Nat × Nat} {pa : List (Nat × Nat)} {n : Nat} (h : ¬ st = 200) (h1 : 2 ≤ pa.length) : bdV st u pa n = nI (bwk u.2 u.1 pa n) := by
  unfold bdV
  rw [if_neg h]
  match pa, h1 with
  | _ :: _ :: _, _ => rfl
theorem bwk_drop {sz num : Nat} {pa : List (Nat × Nat)} {k i : Nat} (h : k < pa.length) : bwk sz num (pa.drop k) i = if i < psz sz (pa.getD k (0, 0)) then pbS sz num (pa.getD k (0, 0)) i else bwk sz num (pa.drop (k + 1)) (i - psz sz (pa.getD k (0, 0))) := by
  have hg : pa.getD k (0, 0) = pa[k] := by rw [List.getD_eq_getElem?_getD, List.getElem?_eq_getElem h]; rfl
  rw [List.drop_eq_getElem_cons h, bwk, hg]
set_option maxRecDepth 100000 in
set_option maxHeartbeats 4000000 in
theorem c_Mo_body (l : Launch) (D : va_G) (tys : List (ClassId × FieldType)) (tc : Nat → ClassId) (hty : ∀ i : Nat, i < 4 → tys[i]? = some (tc i, vx_ty i)) (h : Nat) (ar : Nat → Nat) (now : Int64) (sc : Nat → Int32) (ai : Nat → Nat → Int32) (al : Nat → Nat → Int64) (st : Int32) (an : Option (Nat × Nat)) (ho : Bool) (pa : List (Nat × Nat)) (hok : anOk st an pa) (hA : mdA sc ai st an ho pa) (i : Int32) : Kt l y_Mo_body (yw y_Mo_body b_Mo_body 4 (some .int)) 4 94 0 0 D cls tys (fun _ _ _ => True) [.ref h, .int i] (mdW tc h ar now sc ai al) (fun r w => r = some (.int (bdS st an ho pa i)) ∧ w = (mdW tc h ar now sc ai al)) := by
  refine Kt.of ro_true (by decide) rfl hty (Nat.le_of_ble_eq_true rfl) ?_
  intro p e s m args below meth c0 A hC hr hlk hnm hF
  have hFt : vx_Ft y_Mo_body.cls (yw y_Mo_body b_Mo_body 4 (some .int)) cls cty ft_Mo := ft_of (fun w h => List.mem_cons_of_mem _ h) fl_Mo_in ft_Mo_b
  have hini : false = true → meth.name = "<init>" := fun h => by cases h
  obtain ⟨h23, h24, h25, h26, h27, hpa⟩ := id hA
  have hp4 := hpa.1
  have hlnb := lnS_le hpa hok
  refine vx_gon hC hFt hini (vx_ends hC hr hlk) jc_Mo_body 0 38 (by decide) rfl ?_
  refine And.intro (fun c1 => ?_) (fun c1 => ?_)
  · skip
    refine vx_gon hC hFt hini (vx_ends hC hr hlk) jc_Mo_body 11 27 (by decide) rfl ?_
    refine And.intro (trivial) (And.intro ?_ (And.intro (Nat.le_refl _) (Nat.le_refl _)))
    rw [bd_neg c1]
    exact And.intro rfl rfl
  · skip
    obtain ⟨hin, hi31⟩ := i_nat c1
    refine mo_call hC (c_Mo_length l D tys tc hty h ar now sc ai al st an ho pa hok hA) wm_Mo_length wl_Mo_385 wi_Mo_length ws_Mo_Mo_length ⟨by decide, by decide⟩ rfl rfl (Nat.le_of_ble_eq_true rfl) ⟨Nat.zero_le _, Nat.zero_le _⟩ (fun r' w1 hp => ?_)
    obtain ⟨rfl, rfl⟩ := hp
    refine And.intro (fun c7 => ?_) (fun c7 => ?_)
    · skip
      have c7 : lnS st an pa ≤ i.toNatClampNeg := Nat.le_of_not_lt (fun z => absurd (show lg_cmp i.toInt64 (lN (lnS st an pa)) < 0 by rw [hin, lN_n hi31]; exact lc_lt.mpr ((lW_lt (by omega) (by omega)).mpr z)) (Int32.not_lt.mpr c7))
      refine vx_gon hC hFt hini (vx_ends hC hr hlk) jc_Mo_body 11 27 (by decide) rfl ?_
      refine And.intro (trivial) (And.intro ?_ (And.intro (Nat.le_refl _) (Nat.le_refl _)))
      rw [bd_big c1 c7]
      exact And.intro rfl rfl
    · skip
      have c7 : ¬ lnS st an pa ≤ i.toNatClampNeg := fun z => c7 (Int32.not_lt.mp (fun y => by
        have y : lg_cmp i.toInt64 (lN (lnS st an pa)) < 0 := y
        rw [hin, lN_n hi31] at y
        have := (lW_lt (a := i.toNatClampNeg) (b := lnS st an pa) (by omega) (by omega)).mp (lc_lt.mp y)
        omega))
      refine And.intro rfl ?_
      refine And.intro (fun c10 => ?_) (fun c10 => ?_)
      · skip
        have c10 : ho = false := by rw [h26] at c10; exact bI_eq c10
        subst c10
        obtain ⟨⟨num, sz⟩, rfl⟩ : ∃ u, an = some u := by
          cases an with
          | none => exact absurd (Nat.zero_le _) c7
          | some u => exact ⟨u, rfl⟩
        have hu := hok.2.2.1 _ rfl
        have hnum : num < 4 := hu.1
        have hsz : sz ≤ 100000 := hu.2
        replace h25 : sc 25 = nI sz := h25
        replace h24 : sc 24 = nI num := h24
        refine vx_gon hC hFt hini (vx_ends hC hr hlk) jc_Mo_body 13 25 (by decide) rfl ?_
        refine And.intro rfl ?_
        refine And.intro (fun c16 => ?_) (fun c16 => ?_)
        · skip
          have c16 : ¬ st = 200 := by rw [← h23]; exact c16
          have hl0 : 0 < pa.length := Nat.pos_of_ne_zero (fun z => c7 (by rw [List.eq_nil_of_length_eq_zero z, lnS_nil c16]; exact Nat.zero_le _))
          refine vx_gon hC hFt hini (vx_ends hC hr hlk) jc_Mo_body 21 17 (by decide) rfl ?_
          refine And.intro rfl ?_
          refine And.intro (fun c24 => ?_) (fun c24 => ?_)
          · skip
            have c24 : ¬ pa.length = 1 := fun z => c24 (by rw [h27, z]; rfl)
            refine vx_gon hC hFt hini (vx_ends hC hr hlk) jc_Mo_body 34 4 (by decide) rfl ?_
            refine Vx.subL (lv' := [(0, .ref h), (2, .int (i)), (3, .int (nI 0))]) [2, 1, 0] rfl ?_
            rw [hin]
            obtain ⟨k, hk0⟩ : ∃ k : Nat, k = 0 := ⟨_, rfl⟩
            obtain ⟨q, hq0⟩ : ∃ q : Nat, q = i.toNatClampNeg := ⟨_, rfl⟩
            refine Vx.eqs rfl (lv2 := [(0, .ref h), (2, .int (nI q)), (3, .int (nI k))]) (by rw [hk0, hq0]) rfl rfl ?_
            have hinv : bwk sz num (pa.drop k) q = bwk sz num pa i.toNatClampNeg := by rw [hk0, hq0]; rfl
            have hqb : q < 10 + ((pa.drop k).map (psz sz)).sum := by
              rw [hk0, hq0]
              rw [lnS_two c16 (by omega)] at c7
              exact Nat.lt_of_not_le c7
            have hkl : k ≤ pa.length := by omega
            have hq31 : q < 2 ^ 31 := by omega
            rw [← hin]
            clear hk0 hq0
            induction hn : pa.length - k using Nat.strongRecOn generalizing k q with
            | _ m9 ih =>
              refine vx_go hC hFt hini (vx_ends hC hr hlk) jc_Mo_body 38 (by decide) rfl ?_
              refine And.intro rfl ?_
              refine And.intro (fun c41 => ?_) (fun c41 => ?_)
              · skip
                have c41 : pa.length ≤ k := by rw [h27] at c41; exact (nI_leI (by omega) (by omega)).mp c41
                refine vx_go hC hFt hini (vx_ends hC hr hlk) jc_Mo_body 60 (by decide) rfl ?_
                refine And.intro (fun c62 => ?_) (fun c62 => ?_)
                · skip
                  have c62b := (nI_leI (a := 8) (b := q) (by omega) (by omega)).mp c62
                  have c62 : ¬ q < 8 := by omega
                  refine vx_go hC hFt hini (vx_ends hC hr hlk) jc_Mo_body 72 (by decide) rfl ?_
                  refine mo_calls hC (c_Mo_crlf l D tys tc hty q (by omega)) wm_Mo_crlf wl_Mo_379 wt_Mo_crlf ⟨by decide, by decide⟩ rfl rfl (Nat.le_of_ble_eq_true rfl) ⟨Nat.zero_le _, Nat.zero_le _⟩ (fun r' hp => ?_)
                  subst hp
                  refine And.intro (trivial) (And.intro ?_ (And.intro (Nat.le_refl _) (Nat.le_refl _)))
                  have hbd : bdS st (some (num, sz)) false pa i = nI (bwk sz num pa i.toNatClampNeg) := by rw [bd_go c1 c7, bdV_2 c16 (by omega)]
                  rw [hbd, ← hinv]
                  rw [List.drop_eq_nil_iff.mpr c41, show bwk sz num [] q = [13, 10].getD (q % 2) 0 by
                    have hq10 : q < 10 := by rw [List.drop_eq_nil_iff.mpr c41] at hqb; simpa using hqb
                    rcases (show q = 8 ∨ q = 9 by omega) with rfl | rfl <;> rfl]
                  exact And.intro rfl rfl
                · skip
                  have c62b : ¬ (8 ≤ q) := fun z => c62 ((nI_leI (a := 8) (b := q) (by omega) (by omega)).mpr z)
                  have c62 : q < 8 := by omega
                  refine And.intro (Or.inr (Or.inl ⟨_, rfl, hC.2.2.2.2.1 _ (List.mem_cons_of_mem _ wc_Mo_391)⟩)) ?_
                  refine And.intro (Or.inr (Or.inl ⟨_, rfl, hC.2.2.2.2.1 _ (List.mem_cons_of_mem _ wc_Mo_103)⟩)) ?_
                  refine vx_go hC hFt hini (vx_ends hC hr hlk) jc_Mo_body 74 (by decide) rfl ?_
                  refine And.intro (trivial) (And.intro ?_ (And.intro (Nat.le_refl _) (Nat.le_refl _)))
                  have hbd : bdS st (some (num, sz)) false pa i = nI (bwk sz num pa i.toNatClampNeg) := by rw [bd_go c1 c7, bdV_2 c16 (by omega)]
                  rw [hbd, ← hinv]
                  rw [List.drop_eq_nil_iff.mpr c41, show bwk sz num [] q = ([45, 45, 80, 65, 82, 84, 45, 45] : List Nat).getD q 0 by
                    show bhp.getD q 0 = _
                    rw [show bhp = ([45, 45, 80, 65, 82, 84, 45, 45] : List Nat) ++ [13, 10] from rfl, gd_app]; exact if_pos c62]
                  refine And.intro ?_ rfl
                  show some (Value.int (((3255350817918561581 : Int64) >>> (((8 : Int32) * nI q).toInt64 &&& 63)) &&& 255).toInt32) = _
                  rw [(iw_bhp.2.1 q c62).1, lN_i]
              · skip
                have c41 : ¬ pa.length ≤ k := fun z => c41 (by rw [h27]; exact (nI_leI (by omega) (by omega)).mpr z)
                have hpz := psz_le hpa hsz (k := k) (by omega)
                refine mo_call hC (c_Mo_partSize l D tys tc hty h ar now sc ai al pa hpa k sz (by omega) hsz h25) wm_Mo_partSize wl_Mo_365 wi_Mo_partSize ws_Mo_Mo_partSize ⟨by decide, by decide⟩ rfl rfl (Nat.le_of_ble_eq_true rfl) ⟨Nat.zero_le _, Nat.zero_le _⟩ (fun r' w1 hp => ?_)
                obtain ⟨rfl, rfl⟩ := hp
                refine And.intro (fun c46 => ?_) (fun c46 => ?_)
                · skip
                  have c46b := (nI_leI (a := psz sz (pa.getD k (0, 0))) (b := q) (by omega) (by omega)).mp c46
                  have c46 : ¬ q < psz sz (pa.getD k (0, 0)) := by omega
                  refine vx_go hC hFt hini (vx_ends hC hr hlk) jc_Mo_body 52 (by decide) rfl ?_
                  refine mo_call hC (c_Mo_partSize l D tys tc hty h ar now sc ai al pa hpa k sz (by omega) hsz h25) wm_Mo_partSize wl_Mo_365 wi_Mo_partSize ws_Mo_Mo_partSize ⟨by decide, by decide⟩ rfl rfl (Nat.le_of_ble_eq_true rfl) ⟨Nat.zero_le _, Nat.zero_le _⟩ (fun r' w1 hp => ?_)
                  obtain ⟨rfl, rfl⟩ := hp
                  refine Vx.subL (lv' := [(0, .ref h), (2, .int (nI q - nI (psz sz (pa.getD k (0, 0))))), (3, .int (nI k + 1))]) [2, 1, 0] rfl ?_
                  rw [nI_1, pk_sub (by omega)]
                  rw [bwk_drop (by omega), if_neg c46] at hinv
                  have hs9 : ((pa.drop k).map (psz sz)).sum = psz sz (pa.getD k (0, 0)) + ((pa.drop (k + 1)).map (psz sz)).sum := by
                    have hg : pa.getD k (0, 0) = pa[k] := by rw [List.getD_eq_getElem?_getD, List.getElem?_eq_getElem (by omega)]; rfl
                    rw [List.drop_eq_getElem_cons (show k < pa.length by omega), List.map_cons, List.sum_cons, hg]
                  exact ih (pa.length - (k + 1)) (by omega) (k + 1) (q - psz sz (pa.getD k (0, 0))) hinv (by omega) (by omega) (by omega) rfl
                · skip
                  have c46b : ¬ (psz sz (pa.getD k (0, 0)) ≤ q) := fun z => c46 ((nI_leI (a := psz sz (pa.getD k (0, 0))) (b := q) (by omega) (by omega)).mpr z)
                  have c46 : q < psz sz (pa.getD k (0, 0)) := by omega
                  refine mo_call hC (c_Mo_partByte l D tys tc hty h ar now sc ai al pa hpa k sz (by omega) hsz h25 q num c46 hnum h24) wm_Mo_partByte wl_Mo_388 wi_Mo_partByte ws_Mo_Mo_partByte ⟨by decide, by decide⟩ rfl rfl (Nat.le_of_ble_eq_true rfl) ⟨Nat.zero_le _, Nat.zero_le _⟩ (fun r' w1 hp => ?_)
                  obtain ⟨rfl, rfl⟩ := hp
                  refine And.intro (trivial) (And.intro ?_ (And.intro (Nat.le_refl _) (Nat.le_refl _)))
                  have hbd : bdS st (some (num, sz)) false pa i = nI (bwk sz num pa i.toNatClampNeg) := by rw [bd_go c1 c7, bdV_2 c16 (by omega)]
                  rw [hbd, ← hinv]
                  rw [bwk_drop (by omega), if_pos c46]
                  exact And.intro rfl rfl
          · skip
            have c24 : pa.length = 1 := (nI_eq (b := 1) (by omega) (by omega)).mp (by rw [← h27]; exact c24)
            refine And.intro rfl ?_
            refine And.intro rfl (And.intro rfl (And.intro (show vp_in (nI 0) 4 from vp_in_nI (by decide) (by decide)) ?_))
            rw [show ((0, 0, 0, 0, 0) : wq_A).2.2.2.1.toNatClampNeg = 0 from rfl, (hpa.2 0 (by omega)).1]
            refine mo_call hC (c_Mo_byteAt l D tys tc hty h ar now sc ai al ((pa.getD 0 (0, 0)).1 + i.toNatClampNeg) num (by have h8 := lnS_one (num := num) (sz := sz) c16 c24; have := hpa.2 0 (by omega); omega) hnum h24) wm_Mo_byteAt wl_Mo_382 wi_Mo_byteAt ws_Mo_Mo_byteAt ⟨by decide, by decide⟩ rfl (show [Value.int (nI (pa.getD 0 (0, 0)).1 + i), Value.ref h] = [Value.int (nI ((pa.getD 0 (0, 0)).1 + i.toNatClampNeg)), Value.ref h] by rw [← nI_add, ← hin]) (Nat.le_of_ble_eq_true rfl) ⟨Nat.zero_le _, Nat.zero_le _⟩ (fun r' w1 hp => ?_)
            obtain ⟨rfl, rfl⟩ := hp
            refine And.intro (trivial) (And.intro ?_ (And.intro (Nat.le_refl _) (Nat.le_refl _)))
            rw [bd_go c1 c7, bdV_1 c16 c24]
            exact And.intro rfl rfl
        · skip
          have c16 : st = 200 := by rw [← h23]; exact c16
          refine mo_call hC (c_Mo_byteAt l D tys tc hty h ar now sc ai al i.toNatClampNeg num (by omega) hnum h24) wm_Mo_byteAt wl_Mo_382 wi_Mo_byteAt ws_Mo_Mo_byteAt ⟨by decide, by decide⟩ rfl (show [Value.int i, Value.ref h] = [Value.int (nI i.toNatClampNeg), Value.ref h] by rw [← hin]) (Nat.le_of_ble_eq_true rfl) ⟨Nat.zero_le _, Nat.zero_le _⟩ (fun r' w1 hp => ?_)
          obtain ⟨rfl, rfl⟩ := hp
          refine And.intro (trivial) (And.intro ?_ (And.intro (Nat.le_refl _) (Nat.le_refl _)))
          rw [bd_go c1 c7, bdV_0 c16]
          exact And.intro rfl rfl
      · skip
        have c10 : ho = true := by rw [h26] at c10; exact bI_ne c10
        refine And.intro (trivial) (And.intro ?_ (And.intro (Nat.le_refl _) (Nat.le_refl _)))
        subst c10
        rw [bd_ho c1 c7]
        exact And.intro rfl rfl
set_option maxRecDepth 100000 in
set_option maxHeartbeats 4000000 in
theorem c_Mo_parts (l : Launch) (D : va_G) (tys : List (ClassId × FieldType)) (tc : Nat → ClassId) (hty : ∀ i : Nat, i < 4 → tys[i]? = some (tc i, vx_ty i)) (h : Nat) (ar : Nat → Nat) (now : Int64) (sc : Nat → Int32) (ai : Nat → Nat → Int32) (al : Nat → Nat → Int64) (st : Int32) (an : Option (Nat × Nat)) (ho : Bool) (pa : List (Nat × Nat)) (hok : anOk st an pa) (hA : mdA sc ai st an ho pa) : Kt l y_Mo_parts (yw y_Mo_parts b_Mo_parts 1 (some .int)) 0 0 0 0 D cls tys (fun _ _ _ => True) [.ref h] (mdW tc h ar now sc ai al) (fun r w => r = some (.int (nI pa.length)) ∧ w = (mdW tc h ar now sc ai al)) := by
  refine Kt.of ro_true (by decide) rfl hty (Nat.le_of_ble_eq_true rfl) ?_
  intro p e s m args below meth c0 A hC hr hlk hnm hF
  have hFt : vx_Ft y_Mo_parts.cls (yw y_Mo_parts b_Mo_parts 1 (some .int)) cls cty ft_Mo := ft_of (fun w h => List.mem_cons_of_mem _ h) fl_Mo_in ft_Mo_b
  have hini : false = true → meth.name = "<init>" := fun h => by cases h
  obtain ⟨h23, h24, h25, h26, h27, hpa⟩ := id hA
  have hp4 := hpa.1
  refine vx_go hC hFt hini (vx_ends hC hr hlk) jc_Mo_parts 0 (by decide) rfl ?_
  refine And.intro rfl ?_
  refine And.intro (fun c3 => ?_) (fun c3 => ?_)
  · skip
    have c3 : ¬ st = 206 := by rw [← h23]; exact c3
    refine vx_go hC hFt hini (vx_ends hC hr hlk) jc_Mo_parts 7 (by decide) rfl ?_
    refine And.intro (trivial) (And.intro ?_ (And.intro (Nat.le_refl _) (Nat.le_refl _)))
    rw [show pa = [] from Classical.byContradiction (fun z => c3 (hok.2.1.mpr z))]
    exact And.intro rfl rfl
  · skip
    refine And.intro rfl ?_
    refine vx_go hC hFt hini (vx_ends hC hr hlk) jc_Mo_parts 8 (by decide) rfl ?_
    refine And.intro (trivial) (And.intro ?_ (And.intro (Nat.le_refl _) (Nat.le_refl _)))
    exact And.intro (by rw [h27]) rfl
def fsS (pa : List (Nat × Nat)) (k : Int32) : Int32 := if k < 0 then -1 else if pa.length ≤ k.toNatClampNeg then -1 else nI (pa.getD k.toNatClampNeg (0, 0)).1
def lsS (pa : List (Nat × Nat)) (k : Int32) : Int32 := if k < 0 then -1 else if pa.length ≤ k.toNatClampNeg then -1 else nI (pa.getD k.toNatClampNeg (0, 0)).2
def soS (tx : Nat → List Nat) (rp : List Rp) (k : Int32) : Int32 := if k < 0 then -1 else if rp.length ≤ k.toNatClampNeg then -1 else nI (scS tx (rp.getD k.toNatClampNeg (0, 0, 0, 0, false, 0)))
set_option maxRecDepth 100000 in
set_option maxHeartbeats 4000000 in
theorem c_Mo_first (l : Launch) (D : va_G) (tys : List (ClassId × FieldType)) (tc : Nat → ClassId) (hty : ∀ i : Nat, i < 4 → tys[i]? = some (tc i, vx_ty i)) (h : Nat) (ar : Nat → Nat) (now : Int64) (sc : Nat → Int32) (ai : Nat → Nat → Int32) (al : Nat → Nat → Int64) (st : Int32) (an : Option (Nat × Nat)) (ho : Bool) (pa : List (Nat × Nat)) (hok : anOk st an pa) (hA : mdA sc ai st an ho pa) (k : Int32) : Kt l y_Mo_first (yw y_Mo_first b_Mo_first 2 (some .int)) 1 20 0 0 D cls tys (fun _ _ _ => True) [.ref h, .int k] (mdW tc h ar now sc ai al) (fun r w => r = some (.int (fsS pa k)) ∧ w = (mdW tc h ar now sc ai al)) := by
  refine Kt.of ro_true (by decide) rfl hty (Nat.le_of_ble_eq_true rfl) ?_
  intro p e s m args below meth c0 A hC hr hlk hnm hF
  have hFt : vx_Ft y_Mo_first.cls (yw y_Mo_first b_Mo_first 2 (some .int)) cls cty ft_Mo := ft_of (fun w h => List.mem_cons_of_mem _ h) fl_Mo_in ft_Mo_b
  have hini : false = true → meth.name = "<init>" := fun h => by cases h
  obtain ⟨h23, h24, h25, h26, h27, hpa⟩ := id hA
  have hp4 := hpa.1
  refine vx_go hC hFt hini (vx_ends hC hr hlk) jc_Mo_first 0 (by decide) rfl ?_
  refine And.intro (fun c1 => ?_) (fun c1 => ?_)
  · skip
    refine vx_go hC hFt hini (vx_ends hC hr hlk) jc_Mo_first 11 (by decide) rfl ?_
    refine And.intro (trivial) (And.intro ?_ (And.intro (Nat.le_refl _) (Nat.le_refl _)))
    rw [fsS, if_pos c1]
    exact And.intro rfl rfl
  · skip
    obtain ⟨hkn, hk31⟩ := i_nat c1
    refine mo_call hC (c_Mo_parts l D tys tc hty h ar now sc ai al st an ho pa hok hA) wm_Mo_parts wl_Mo_393 wi_Mo_parts ws_Mo_Mo_parts ⟨by decide, by decide⟩ rfl rfl (Nat.le_of_ble_eq_true rfl) ⟨Nat.zero_le _, Nat.zero_le _⟩ (fun r' w1 hp => ?_)
    obtain ⟨rfl, rfl⟩ := hp
    refine And.intro (fun c5 => ?_) (fun c5 => ?_)
    · skip
      have c5 : pa.length ≤ k.toNatClampNeg := (nI_leI (by omega) hk31).mp (by rw [← hkn]; exact c5)
      refine vx_go hC hFt hini (vx_ends hC hr hlk) jc_Mo_first 11 (by decide) rfl ?_
      refine And.intro (trivial) (And.intro ?_ (And.intro (Nat.le_refl _) (Nat.le_refl _)))
      rw [fsS, if_neg c1, if_pos c5]
      exact And.intro rfl rfl
    · skip
      have c5 : ¬ pa.length ≤ k.toNatClampNeg := fun z => c5 (by rw [hkn]; exact (nI_leI (by omega) hk31).mpr z)
      refine And.intro rfl ?_
      refine And.intro rfl (And.intro rfl (And.intro (by rw [hkn]; exact vp_in_nI (by omega) (by decide)) ?_))
      rw [(hpa.2 k.toNatClampNeg (by omega)).1]
      refine vx_go hC hFt hini (vx_ends hC hr hlk) jc_Mo_first 12 (by decide) rfl ?_
      refine And.intro (trivial) (And.intro ?_ (And.intro (Nat.le_refl _) (Nat.le_refl _)))
      rw [fsS, if_neg c1, if_neg c5]
      exact And.intro rfl rfl
set_option maxRecDepth 100000 in
set_option maxHeartbeats 4000000 in
theorem c_Mo_last (l : Launch) (D : va_G) (tys : List (ClassId × FieldType)) (tc : Nat → ClassId) (hty : ∀ i : Nat, i < 4 → tys[i]? = some (tc i, vx_ty i)) (h : Nat) (ar : Nat → Nat) (now : Int64) (sc : Nat → Int32) (ai : Nat → Nat → Int32) (al : Nat → Nat → Int64) (st : Int32) (an : Option (Nat × Nat)) (ho : Bool) (pa : List (Nat × Nat)) (hok : anOk st an pa) (hA : mdA sc ai st an ho pa) (k : Int32) : Kt l y_Mo_last (yw y_Mo_last b_Mo_last 2 (some .int)) 1 20 0 0 D cls tys (fun _ _ _ => True) [.ref h, .int k] (mdW tc h ar now sc ai al) (fun r w => r = some (.int (lsS pa k)) ∧ w = (mdW tc h ar now sc ai al)) := by
  refine Kt.of ro_true (by decide) rfl hty (Nat.le_of_ble_eq_true rfl) ?_
  intro p e s m args below meth c0 A hC hr hlk hnm hF
  have hFt : vx_Ft y_Mo_last.cls (yw y_Mo_last b_Mo_last 2 (some .int)) cls cty ft_Mo := ft_of (fun w h => List.mem_cons_of_mem _ h) fl_Mo_in ft_Mo_b
  have hini : false = true → meth.name = "<init>" := fun h => by cases h
  obtain ⟨h23, h24, h25, h26, h27, hpa⟩ := id hA
  have hp4 := hpa.1
  refine vx_go hC hFt hini (vx_ends hC hr hlk) jc_Mo_last 0 (by decide) rfl ?_
  refine And.intro (fun c1 => ?_) (fun c1 => ?_)
  · skip
    refine vx_go hC hFt hini (vx_ends hC hr hlk) jc_Mo_last 11 (by decide) rfl ?_
    refine And.intro (trivial) (And.intro ?_ (And.intro (Nat.le_refl _) (Nat.le_refl _)))
    rw [lsS, if_pos c1]
    exact And.intro rfl rfl
  · skip
    obtain ⟨hkn, hk31⟩ := i_nat c1
    refine mo_call hC (c_Mo_parts l D tys tc hty h ar now sc ai al st an ho pa hok hA) wm_Mo_parts wl_Mo_393 wi_Mo_parts ws_Mo_Mo_parts ⟨by decide, by decide⟩ rfl rfl (Nat.le_of_ble_eq_true rfl) ⟨Nat.zero_le _, Nat.zero_le _⟩ (fun r' w1 hp => ?_)
    obtain ⟨rfl, rfl⟩ := hp
    refine And.intro (fun c5 => ?_) (fun c5 => ?_)
    · skip
      have c5 : pa.length ≤ k.toNatClampNeg := (nI_leI (by omega) hk31).mp (by rw [← hkn]; exact c5)
      refine vx_go hC hFt hini (vx_ends hC hr hlk) jc_Mo_last 11 (by decide) rfl ?_
      refine And.intro (trivial) (And.intro ?_ (And.intro (Nat.le_refl _) (Nat.le_refl _)))
      rw [lsS, if_neg c1, if_pos c5]
      exact And.intro rfl rfl
    · skip
      have c5 : ¬ pa.length ≤ k.toNatClampNeg := fun z => c5 (by rw [hkn]; exact (nI_leI (by omega) hk31).mpr z)
      refine And.intro rfl ?_
      refine And.intro rfl (And.intro rfl (And.intro (by rw [hkn]; exact vp_in_nI (by omega) (by decide)) ?_))
      rw [(hpa.2 k.toNatClampNeg (by omega)).2.1]
      refine vx_go hC hFt hini (vx_ends hC hr hlk) jc_Mo_last 12 (by decide) rfl ?_
      refine And.intro (trivial) (And.intro ?_ (And.intro (Nat.le_refl _) (Nat.le_refl _)))
      rw [lsS, if_neg c1, if_neg c5]
      exact And.intro rfl rfl
set_option maxRecDepth 100000 in
set_option maxHeartbeats 4000000 in
theorem c_Mo_score (l : Launch) (D : va_G) (tys : List (ClassId × FieldType)) (tc : Nat → ClassId) (hty : ∀ i : Nat, i < 4 → tys[i]? = some (tc i, vx_ty i)) (h : Nat) (ar : Nat → Nat) (now : Int64) (sc : Nat → Int32) (ai : Nat → Nat → Int32) (al : Nat → Nat → Int64) (N : Nat) (rp : List Rp) (me : Int32) (tx : Nat → List Nat) (hR : mdR now sc ai al N rp me tx) (k : Int32) : Kt l y_Mo_score (yw y_Mo_score b_Mo_score 2 (some .int)) 8 182 0 0 D cls tys (fun _ _ _ => True) [.ref h, .int k] (mdW tc h ar now sc ai al) (fun r w => r = some (.int (soS tx rp k)) ∧ ∃ s2, w = mdW tc h ar now s2 ai al ∧ gq sc s2) := by
  refine Kt.of ro_true (by decide) rfl hty (Nat.le_of_ble_eq_true rfl) ?_
  intro p e s m args below meth c0 A hC hr hlk hnm hF
  have hFt : vx_Ft y_Mo_score.cls (yw y_Mo_score b_Mo_score 2 (some .int)) cls cty ft_Mo := ft_of (fun w h => List.mem_cons_of_mem _ h) fl_Mo_in ft_Mo_b
  have hini : false = true → meth.name = "<init>" := fun h => by cases h
  obtain ⟨hN, hnow, hWd, hrp, h1c, h8m, hx⟩ := id hR
  have hrl := hrp.1
  refine vx_go hC hFt hini (vx_ends hC hr hlk) jc_Mo_score 0 (by decide) rfl ?_
  refine And.intro (fun c1 => ?_) (fun c1 => ?_)
  · skip
    refine vx_go hC hFt hini (vx_ends hC hr hlk) jc_Mo_score 10 (by decide) rfl ?_
    refine And.intro (trivial) (And.intro ?_ (And.intro (Nat.le_refl _) (Nat.le_refl _)))
    rw [soS, if_pos c1]
    exact ⟨rfl, sc, rfl, gq.refl⟩
  · skip
    obtain ⟨hkn, hk31⟩ := i_nat c1
    refine And.intro rfl ?_
    refine And.intro (fun c5 => ?_) (fun c5 => ?_)
    · skip
      have c5 : rp.length ≤ k.toNatClampNeg := (nI_leI (by omega) hk31).mp (by rw [← hkn, ← h1c]; exact c5)
      refine vx_go hC hFt hini (vx_ends hC hr hlk) jc_Mo_score 10 (by decide) rfl ?_
      refine And.intro (trivial) (And.intro ?_ (And.intro (Nat.le_refl _) (Nat.le_refl _)))
      rw [soS, if_neg c1, if_pos c5]
      exact ⟨rfl, sc, rfl, gq.refl⟩
    · skip
      have c5 : ¬ rp.length ≤ k.toNatClampNeg := fun z => c5 (by rw [h1c, hkn]; exact (nI_leI (by omega) hk31).mpr z)
      obtain ⟨r9, hi⟩ : ∃ r9, rp[k.toNatClampNeg]? = some r9 := ⟨_, List.getElem?_eq_getElem (by omega)⟩
      refine mo_call hC (c_Mo_scoreOf l D tys tc hty h ar now sc ai al N rp me tx hR k.toNatClampNeg r9 hi) wm_Mo_scoreOf wl_Mo_319 wi_Mo_scoreOf ws_Mo_Mo_scoreOf ⟨by decide, by decide⟩ rfl (show [Value.int k, Value.ref h] = [Value.int (nI k.toNatClampNeg), Value.ref h] by rw [← hkn]) (Nat.le_of_ble_eq_true rfl) ⟨Nat.zero_le _, Nat.zero_le _⟩ (fun r' w1 hp => ?_)
      obtain ⟨rfl, s2, rfl, hg2⟩ := hp
      refine vx_go hC hFt hini (vx_ends hC hr hlk) jc_Mo_score 11 (by decide) rfl ?_
      refine And.intro (trivial) (And.intro ?_ (And.intro (Nat.le_refl _) (Nat.le_refl _)))
      rw [soS, if_neg c1, if_neg c5, getD_rp hi]
      exact ⟨rfl, s2, rfl, hg2⟩
