/-! THE REFERENCE: stars, numbers, words, by program (wip/whole/gen/p34.py) -/
/-- a star among n characters from a on -/
def stq (T : List Nat) : Nat → Nat → Bool
  | 0, _ => false
  | n + 1, a => decide (T.getD a 0 = 42) || stq T n (a + 1)
/-- the bytes of a long, up to the first 0 -/
def isWd (w : Int64) (W : List Nat) : Prop := W.length ≤ 8 ∧ (∀ k, k < W.length → (w >>> (((8 : Int32) * nI k).toInt64 &&& 63)) &&& 255 = lN (W.getD k 0) ∧ 0 < W.getD k 0 ∧ W.getD k 0 < 256) ∧ (W.length < 8 → (w >>> (((8 : Int32) * nI W.length).toInt64 &&& 63)) &&& 255 = 0)
theorem lg0 {x : Int64} : lg_cmp x 0 = 0 ↔ x = 0 := by
  unfold lg_cmp
  by_cases h : x > 0
  · rw [if_pos h]
    refine ⟨fun z => absurd z (by decide), fun z => ?_⟩
    rw [z] at h
    exact absurd h (by decide)
  · rw [if_neg h]
    by_cases h2 : x = 0
    · rw [if_pos h2]; exact ⟨fun _ => h2, fun _ => rfl⟩
    · rw [if_neg h2]; exact ⟨fun z => absurd z (by decide), fun z => absurd z h2⟩
theorem lN_ne0 {x : Nat} (h0 : 0 < x) (h : x < 256) : ¬ lN x = 0 := fun z => by
  have := (lN_eq (a := x) (b := 0) (by omega) (by omega)).mp z
  omega
/-- W stands, letters alike, from p on -/
def syq (T : List Nat) : Nat → List Nat → Bool
  | _, [] => true
  | p, c :: W => decide (lwr (T.getD p 0) = c) && syq T (p + 1) W
set_option maxRecDepth 100000 in
set_option maxHeartbeats 4000000 in
theorem c_Mo_starred (l : Launch) (D : va_G) (tys : List (ClassId × FieldType)) (tc : Nat → ClassId) (hty : ∀ i : Nat, i < 4 → tys[i]? = some (tc i, vx_ty i)) (h : Nat) (ar : Nat → Nat) (now : Int64) (sc : Nat → Int32) (ai : Nat → Nat → Int32) (al : Nat → Nat → Int64) (F : Nat) (T : List Nat) (ps : Nat) (hM : mdS sc ai F T ps) (a e : Nat) (hae : a ≤ e) (he : e ≤ 500) : Kt l y_Mo_starred (yw y_Mo_starred b_Mo_starred 5 (some .boolean)) 1 21 0 0 D cls tys (fun _ _ _ => True) [.ref h, .int (nI a), .int (nI e)] (mdW tc h ar now sc ai al) (fun r w => r = some (.int (bI (stq T (e - a) a))) ∧ w = (mdW tc h ar now sc ai al)) := by
  refine Kt.of ro_true (by decide) rfl hty (Nat.le_of_ble_eq_true rfl) ?_
  intro p env s m args below meth c0 A hC hr hlk hnm hF
  have hFt : vx_Ft y_Mo_starred.cls (yw y_Mo_starred b_Mo_starred 5 (some .boolean)) cls cty ft_Mo := ft_of (fun w h => List.mem_cons_of_mem _ h) fl_Mo_in ft_Mo_b
  have hini : false = true → meth.name = "<init>" := fun h => by cases h
  obtain ⟨hF8, h11, hlenT, htx, hT, h12, hps⟩ := id hM
  have hTl := hT.1
  refine vx_gon hC hFt hini (vx_ends hC hr hlk) jc_Mo_starred 0 4 (by decide) rfl ?_
  generalize hres : stq T (e - a) a = RES
  refine Vx.subL (lv' := [(0, .ref h), (1, .int (nI a)), (2, .int (nI e)), (3, .int (bI false)), (4, .int (nI a))]) [2, 3, 4, 1, 0] rfl ?_
  obtain ⟨b, hb⟩ : ∃ b : Bool, b = false := ⟨_, rfl⟩
  obtain ⟨k, hk⟩ : ∃ k : Nat, k = a := ⟨_, rfl⟩
  obtain ⟨n, hn⟩ : ∃ n : Nat, n = e - a := ⟨_, rfl⟩
  have hkn : k + n = e := by omega
  refine Vx.eqs rfl (lv2 := [(0, .ref h), (1, .int (nI a)), (2, .int (nI e)), (3, .int (bI b)), (4, .int (nI k))]) (by rw [hb, hk]) rfl rfl ?_
  replace hres : (b || stq T n k) = RES := by rw [hb, hk, hn, Bool.false_or]; exact hres
  clear hb hk hn
  induction n using Nat.strongRecOn generalizing b k with
  | _ n ih =>
    refine vx_go hC hFt hini (vx_ends hC hr hlk) jc_Mo_starred 4 (by decide) rfl ?_
    refine And.intro (fun c6 => ?_) (fun c6 => ?_)
    · skip
      have c6 := (nI_leI (a := e) (b := k) (by omega) (by omega)).mp c6
      obtain rfl : n = 0 := by omega
      refine vx_go hC hFt hini (vx_ends hC hr hlk) jc_Mo_starred 20 (by decide) rfl ?_
      refine And.intro ((bI_narrow _)) (And.intro ?_ (And.intro (Nat.le_refl _) (Nat.le_refl _)))
      rw [← hres]
      exact And.intro (by rw [show stq T 0 k = false from rfl, Bool.or_false]) rfl
    · skip
      have c6 : ¬ (e ≤ k) := fun z => c6 ((nI_leI (a := e) (b := k) (by omega) (by omega)).mpr z)
      obtain ⟨n2, rfl⟩ : ∃ n2, n = n2 + 1 := ⟨n - 1, by omega⟩
      refine And.intro (fun c8 => ?_) (fun c8 => ?_)
      · skip
        obtain rfl : b = true := bI_ne c8
        refine vx_go hC hFt hini (vx_ends hC hr hlk) jc_Mo_starred 14 (by decide) rfl ?_
        refine vx_go hC hFt hini (vx_ends hC hr hlk) jc_Mo_starred 17 (by decide) rfl ?_
        refine Vx.subL (lv' := [(0, .ref h), (1, .int (nI a)), (2, .int (nI e)), (3, .int (bI true)), (4, .int (nI k + 1))]) [2, 3, 4, 1, 0] rfl ?_
        rw [nI_1]
        exact ih n2 (by omega) true (k + 1) (by omega) (by rw [← hres]; rfl)
      · skip
        obtain rfl : b = false := bI_eq c8
        refine mo_call hC (c_Mo_charAt l D tys tc hty h ar now sc ai al F T ps hM k (by omega)) wm_Mo_charAt wl_Mo_111 wi_Mo_charAt ws_Mo_Mo_charAt ⟨by decide, by decide⟩ rfl rfl (Nat.le_of_ble_eq_true rfl) ⟨Nat.zero_le _, Nat.zero_le _⟩ (fun r' w1 hp => ?_)
        obtain ⟨rfl, rfl⟩ := hp
        refine And.intro (fun c13 => ?_) (fun c13 => ?_)
        · skip
          have c13 : ¬ (T.getD k 0 = 42) := fun z => c13 (by rw [z]; rfl)
          refine vx_go hC hFt hini (vx_ends hC hr hlk) jc_Mo_starred 16 (by decide) rfl ?_
          refine Vx.subL (lv' := [(0, .ref h), (1, .int (nI a)), (2, .int (nI e)), (3, .int (bI false)), (4, .int (nI k + 1))]) [2, 3, 4, 1, 0] rfl ?_
          rw [nI_1]
          exact ih n2 (by omega) false (k + 1) (by omega) (by rw [← hres, stq, decide_eq_false c13]; rfl)
        · skip
          have c13 : T.getD k 0 = 42 := (nI_eq (by have := T_lt hT k; omega) (by omega)).mp c13
          refine vx_go hC hFt hini (vx_ends hC hr hlk) jc_Mo_starred 17 (by decide) rfl ?_
          refine Vx.subL (lv' := [(0, .ref h), (1, .int (nI a)), (2, .int (nI e)), (3, .int (bI true)), (4, .int (nI k + 1))]) [2, 3, 4, 1, 0] rfl ?_
          rw [nI_1]
          exact ih n2 (by omega) true (k + 1) (by omega) (by rw [← hres, stq, decide_eq_true c13]; rfl)
set_option maxRecDepth 100000 in
set_option maxHeartbeats 4000000 in
theorem c_Mo_lengthOf (l : Launch) (D : va_G) (tys : List (ClassId × FieldType)) (tc : Nat → ClassId) (hty : ∀ i : Nat, i < 4 → tys[i]? = some (tc i, vx_ty i)) (w : Int64) (W : List Nat) (hW : isWd w W) : Kt l y_Mo_lengthOf (yw y_Mo_lengthOf b_Mo_lengthOf 3 (some .int)) 0 0 0 0 D cls tys (fun _ _ _ => True) [.long w] [] (fun r w => r = some (.int (nI W.length)) ∧ w = []) := by
  refine Kt.of ro_true (by decide) rfl hty (Nat.le_of_ble_eq_true rfl) ?_
  intro p e s m args below meth c0 A hC hr hlk hnm hF
  have hFt : vx_Ft y_Mo_lengthOf.cls (yw y_Mo_lengthOf b_Mo_lengthOf 3 (some .int)) cls cty [] := (fun q h => by cases h)
  have hini : false = true → meth.name = "<init>" := fun h => by cases h
  have hWl := hW.1
  refine vx_gon hC hFt hini (vx_ends hC hr hlk) jc_Mo_lengthOf 0 2 (by decide) rfl ?_
  refine Vx.subL (lv' := [(0, .long w), (2, .int (nI 0))]) [1, 0] rfl ?_
  obtain ⟨i, hi⟩ : ∃ i : Nat, i = 0 := ⟨_, rfl⟩
  refine Vx.eqs rfl (lv2 := [(0, .long w), (2, .int (nI i))]) (by rw [hi]) rfl rfl ?_
  have hile : i ≤ W.length := by omega
  clear hi
  induction hlen : W.length - i using Nat.strongRecOn generalizing i with
  | _ n ih =>
    refine vx_go hC hFt hini (vx_ends hC hr hlk) jc_Mo_lengthOf 2 (by decide) rfl ?_
    refine And.intro (fun c4 => ?_) (fun c4 => ?_)
    · skip
      have c4 := (nI_leI (a := 8) (b := i) (by omega) (by omega)).mp c4
      refine vx_go hC hFt hini (vx_ends hC hr hlk) jc_Mo_lengthOf 17 (by decide) rfl ?_
      refine And.intro (trivial) (And.intro ?_ (And.intro (Nat.le_refl _) (Nat.le_refl _)))
      exact And.intro (by rw [show i = W.length by omega]) rfl
    · skip
      have c4 : ¬ (8 ≤ i) := fun z => c4 ((nI_leI (a := 8) (b := i) (by omega) (by omega)).mpr z)
      refine And.intro (Or.inr (Or.inl ⟨_, rfl, hC.2.2.2.2.1 _ (List.mem_cons_of_mem _ wc_Mo_103)⟩)) ?_
      refine And.intro (fun c14 => ?_) (fun c14 => ?_)
      · skip
        have c14 := lg0.mp c14
        have hil : i = W.length := by
          rcases Nat.lt_or_ge i W.length with z | z
          · have := hW.2.1 i z
            exact absurd (this.1.symm.trans c14) (lN_ne0 this.2.1 this.2.2)
          · omega
        refine vx_go hC hFt hini (vx_ends hC hr hlk) jc_Mo_lengthOf 17 (by decide) rfl ?_
        refine And.intro (trivial) (And.intro ?_ (And.intro (Nat.le_refl _) (Nat.le_refl _)))
        exact And.intro (by rw [show i = W.length by omega]) rfl
      · skip
        have hil : i < W.length := by
          rcases Nat.lt_or_ge i W.length with z | z
          · exact z
          · obtain rfl : i = W.length := by omega
            exact absurd (lg0.mpr (hW.2.2 (by omega))) c14
        refine Vx.subL (lv' := [(0, .long w), (2, .int (nI i + 1))]) [1, 0] rfl ?_
        rw [nI_1]
        exact ih (W.length - (i + 1)) (by omega) (i + 1) (by omega) rfl
set_option maxRecDepth 100000 in
set_option maxHeartbeats 4000000 in
theorem c_Mo_says (l : Launch) (D : va_G) (tys : List (ClassId × FieldType)) (tc : Nat → ClassId) (hty : ∀ i : Nat, i < 4 → tys[i]? = some (tc i, vx_ty i)) (h : Nat) (ar : Nat → Nat) (now : Int64) (sc : Nat → Int32) (ai : Nat → Nat → Int32) (al : Nat → Nat → Int64) (F : Nat) (T : List Nat) (ps : Nat) (hM : mdS sc ai F T ps) (w : Int64) (W : List Nat) (hW : isWd w W) (pl : Nat) (hpl : pl ≤ 500) : Kt l y_Mo_says (yw y_Mo_says b_Mo_says 7 (some .boolean)) 1 22 0 0 D cls tys (fun _ _ _ => True) [.ref h, .int (nI pl), .long w] (mdW tc h ar now sc ai al) (fun r w0 => r = some (.int (bI (syq T pl W))) ∧ w0 = (mdW tc h ar now sc ai al)) := by
  refine Kt.of ro_true (by decide) rfl hty (Nat.le_of_ble_eq_true rfl) ?_
  intro p e s m args below meth c0 A hC hr hlk hnm hF
  have hFt : vx_Ft y_Mo_says.cls (yw y_Mo_says b_Mo_says 7 (some .boolean)) cls cty ft_Mo := ft_of (fun w h => List.mem_cons_of_mem _ h) fl_Mo_in ft_Mo_b
  have hini : false = true → meth.name = "<init>" := fun h => by cases h
  obtain ⟨hF8, h11, hlenT, htx, hT, h12, hps⟩ := id hM
  have hTl := hT.1
  refine vx_gon hC hFt hini (vx_ends hC hr hlk) jc_Mo_says 0 7 (by decide) rfl ?_
  refine mo_calls hC (c_Mo_lengthOf l D tys tc hty w W hW) wm_Mo_lengthOf wl_Mo_135 wt_Mo_lengthOf ⟨by decide, by decide⟩ rfl rfl (Nat.le_of_ble_eq_true rfl) ⟨Nat.zero_le _, Nat.zero_le _⟩ (fun r' hp => ?_)
  subst hp
  have hWl := hW.1
  generalize hres : syq T pl W = RES
  refine Vx.subL (lv' := [(0, .ref h), (1, .int (nI pl)), (2, .long w), (4, .int (nI W.length)), (5, .int (bI true)), (6, .int (nI 0))]) [3, 4, 5, 2, 1, 0] rfl ?_
  obtain ⟨b, hb⟩ : ∃ b : Bool, b = true := ⟨_, rfl⟩
  obtain ⟨k, hk⟩ : ∃ k : Nat, k = 0 := ⟨_, rfl⟩
  refine Vx.eqs rfl (lv2 := [(0, .ref h), (1, .int (nI pl)), (2, .long w), (4, .int (nI W.length)), (5, .int (bI b)), (6, .int (nI k))]) (by rw [hb, hk]) rfl rfl ?_
  replace hres : (b && syq T (pl + k) (W.drop k)) = RES := by rw [hb, hk, Bool.true_and]; exact hres
  have hkl : k ≤ W.length := by omega
  clear hb hk
  induction hn : W.length - k using Nat.strongRecOn generalizing b k with
  | _ n ih =>
    refine vx_go hC hFt hini (vx_ends hC hr hlk) jc_Mo_says 7 (by decide) rfl ?_
    refine And.intro (fun c9 => ?_) (fun c9 => ?_)
    · skip
      have c9 := (nI_leI (a := W.length) (b := k) (by omega) (by omega)).mp c9
      refine vx_go hC hFt hini (vx_ends hC hr hlk) jc_Mo_says 33 (by decide) rfl ?_
      refine And.intro ((bI_narrow _)) (And.intro ?_ (And.intro (Nat.le_refl _) (Nat.le_refl _)))
      rw [← hres, drop_end (by omega), show syq T (pl + k) [] = true from rfl, Bool.and_true]
      exact And.intro rfl rfl
    · skip
      have c9 : ¬ (W.length ≤ k) := fun z => c9 ((nI_leI (a := W.length) (b := k) (by omega) (by omega)).mpr z)
      refine And.intro (fun c11 => ?_) (fun c11 => ?_)
      · skip
        obtain rfl : b = false := bI_eq c11
        refine vx_go hC hFt hini (vx_ends hC hr hlk) jc_Mo_says 29 (by decide) rfl ?_
        refine Vx.subL (lv' := [(0, .ref h), (1, .int (nI pl)), (2, .long w), (4, .int (nI W.length)), (5, .int (bI false)), (6, .int (nI k + 1))]) [2, 3, 4, 5, 1, 0] rfl ?_
        rw [nI_1]
        exact ih (W.length - (k + 1)) (by omega) false (k + 1) (by rw [← hres]; rfl) (by omega) rfl
      · skip
        obtain rfl : b = true := bI_ne c11
        refine mo_call hC (c_Mo_charAt l D tys tc hty h ar now sc ai al F T ps hM (pl + k) (by omega)) wm_Mo_charAt wl_Mo_111 wi_Mo_charAt ws_Mo_Mo_charAt ⟨by decide, by decide⟩ rfl (congrArg (fun z => [Value.int z, Value.ref h]) (nI_add pl k)) (Nat.le_of_ble_eq_true rfl) ⟨Nat.zero_le _, Nat.zero_le _⟩ (fun r' w1 hp => ?_)
        obtain ⟨rfl, rfl⟩ := hp
        refine mo_calls hC (c_Mo_lower l D tys tc hty (T.getD (pl + k) 0) (T_lt hT _)) wm_Mo_lower wl_Mo_139 wt_Mo_lower ⟨by decide, by decide⟩ rfl rfl (Nat.le_of_ble_eq_true rfl) ⟨Nat.zero_le _, Nat.zero_le _⟩ (fun r' hp => ?_)
        subst hp
        refine And.intro (Or.inr (Or.inl ⟨_, rfl, hC.2.2.2.2.1 _ (List.mem_cons_of_mem _ wc_Mo_103)⟩)) ?_
        refine And.intro (fun c26 => ?_) (fun c26 => ?_)
        · skip
          have hwk := hW.2.1 k (by omega)
          have c26 : ¬ (lwr (T.getD (pl + k) 0) = W.getD k 0) := fun z => c26 (by rw [z]; show _ = ((w >>> (((8 : Int32) * nI k).toInt64 &&& 63)) &&& 255).toInt32; rw [hwk.1, lN_i])
          refine vx_go hC hFt hini (vx_ends hC hr hlk) jc_Mo_says 29 (by decide) rfl ?_
          refine Vx.subL (lv' := [(0, .ref h), (1, .int (nI pl)), (2, .long w), (4, .int (nI W.length)), (5, .int (bI false)), (6, .int (nI k + 1))]) [2, 3, 4, 5, 1, 0] rfl ?_
          rw [nI_1]
          exact ih (W.length - (k + 1)) (by omega) false (k + 1) (by rw [← hres, drop_get (W := W) (i := k) (by omega), syq, decide_eq_false c26]; rfl) (by omega) rfl
        · skip
          have hwk := hW.2.1 k (by omega)
          have c26 : lwr (T.getD (pl + k) 0) = W.getD k 0 := by
            have c26 : _ = ((w >>> (((8 : Int32) * nI k).toInt64 &&& 63)) &&& 255).toInt32 := c26
            rw [hwk.1, lN_i] at c26
            exact (nI_eq (by have := lwr_lt (T_lt hT (pl + k)); omega) (by omega)).mp c26
          refine vx_go hC hFt hini (vx_ends hC hr hlk) jc_Mo_says 30 (by decide) rfl ?_
          refine Vx.subL (lv' := [(0, .ref h), (1, .int (nI pl)), (2, .long w), (4, .int (nI W.length)), (5, .int (bI true)), (6, .int (nI k + 1))]) [2, 3, 4, 5, 1, 0] rfl ?_
          rw [nI_1]
          exact ih (W.length - (k + 1)) (by omega) true (k + 1) (by rw [← hres, drop_get (W := W) (i := k) (by omega), syq, decide_eq_true c26]; rfl) (by omega) rfl
set_option maxRecDepth 100000 in
set_option maxHeartbeats 4000000 in
theorem c_Mo_isWord (l : Launch) (D : va_G) (tys : List (ClassId × FieldType)) (tc : Nat → ClassId) (hty : ∀ i : Nat, i < 4 → tys[i]? = some (tc i, vx_ty i)) (h : Nat) (ar : Nat → Nat) (now : Int64) (sc : Nat → Int32) (ai : Nat → Nat → Int32) (al : Nat → Nat → Int64) (F : Nat) (T : List Nat) (ps : Nat) (hM : mdS sc ai F T ps) (w : Int64) (W : List Nat) (hW : isWd w W) (a e : Nat) (hae : a ≤ e) (he : e ≤ 500) : Kt l y_Mo_isWord (yw y_Mo_isWord b_Mo_isWord 5 (some .boolean)) 2 48 0 0 D cls tys (fun _ _ _ => True) [.ref h, .int (nI a), .int (nI e), .long w] (mdW tc h ar now sc ai al) (fun r w0 => r = some (.int (bI (decide (e - a = W.length) && syq T a W))) ∧ w0 = (mdW tc h ar now sc ai al)) := by
  refine Kt.of ro_true (by decide) rfl hty (Nat.le_of_ble_eq_true rfl) ?_
  intro p env s m args below meth c0 A hC hr hlk hnm hF
  have hFt : vx_Ft y_Mo_isWord.cls (yw y_Mo_isWord b_Mo_isWord 5 (some .boolean)) cls cty ft_Mo := ft_of (fun w h => List.mem_cons_of_mem _ h) fl_Mo_in ft_Mo_b
  have hini : false = true → meth.name = "<init>" := fun h => by cases h
  obtain ⟨hF8, h11, hlenT, htx, hT, h12, hps⟩ := id hM
  have hTl := hT.1
  refine vx_go hC hFt hini (vx_ends hC hr hlk) jc_Mo_isWord 0 (by decide) rfl ?_
  refine mo_calls hC (c_Mo_lengthOf l D tys tc hty w W hW) wm_Mo_lengthOf wl_Mo_135 wt_Mo_lengthOf ⟨by decide, by decide⟩ rfl rfl (Nat.le_of_ble_eq_true rfl) ⟨Nat.zero_le _, Nat.zero_le _⟩ (fun r' hp => ?_)
  subst hp
  refine And.intro (fun c5 => ?_) (fun c5 => ?_)
  · skip
    have c5 : ¬ (e - a = W.length) := fun z => c5 (by rw [pk_sub hae, z])
    refine vx_go hC hFt hini (vx_ends hC hr hlk) jc_Mo_isWord 13 (by decide) rfl ?_
    refine And.intro (rfl) (And.intro ?_ (And.intro (Nat.le_refl _) (Nat.le_refl _)))
    rw [decide_eq_false c5]
    exact And.intro rfl rfl
  · skip
    have c5 : e - a = W.length := by
      rw [pk_sub hae] at c5
      exact (nI_eq (by omega) (by have := hW.1; omega)).mp c5
    refine mo_call hC (c_Mo_says l D tys tc hty h ar now sc ai al F T ps hM w W hW a (by omega)) wm_Mo_says wl_Mo_142 wi_Mo_says ws_Mo_Mo_says ⟨by decide, by decide⟩ rfl rfl (Nat.le_of_ble_eq_true rfl) ⟨Nat.zero_le _, Nat.zero_le _⟩ (fun r' w1 hp => ?_)
    obtain ⟨rfl, rfl⟩ := hp
    refine And.intro (fun c10 => ?_) (fun c10 => ?_)
    · skip
      have c10 := bI_eq c10
      refine vx_go hC hFt hini (vx_ends hC hr hlk) jc_Mo_isWord 13 (by decide) rfl ?_
      refine And.intro (rfl) (And.intro ?_ (And.intro (Nat.le_refl _) (Nat.le_refl _)))
      rw [decide_eq_true c5, c10]
      exact And.intro rfl rfl
    · skip
      have c10 := bI_ne c10
      refine vx_go hC hFt hini (vx_ends hC hr hlk) jc_Mo_isWord 14 (by decide) rfl ?_
      refine And.intro (rfl) (And.intro ?_ (And.intro (Nat.le_refl _) (Nat.le_refl _)))
      rw [decide_eq_true c5, c10]
      exact And.intro rfl rfl
