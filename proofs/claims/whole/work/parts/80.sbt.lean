/-! THE JDK's StringBuilder: texts, length, characters, a new one, its text, by program (wip/whole/gen/p80.py) -/
set_option maxRecDepth 100000 in
set_option maxHeartbeats 4000000 in
theorem c_St_getBytes147 (l : Launch) (D : va_G) (tys : List (ClassId × FieldType)) (tc : Nat → ClassId) (hty : ∀ i : Nat, i < 4 → tys[i]? = some (tc i, vx_ty i)) (t : Nat) (W : List Nat) (hWW : isW W) (v M9 : Nat) (a : Nat → Int32) (n9 : Nat) (hn : n9 + W.length ≤ M9) (hm : M9 ≤ 100) : Kt l y_St_getBytes147 (yw y_St_getBytes147 b_St_getBytes147 4 none) 1 60 0 0 D cls tys (tF t W) [.ref t, .ref v, .int (nI n9), .int 0] [(v, .inl (tc 1, M9, .inl a))] (fun r w => r = none ∧ w = [(v, .inl (tc 1, M9, .inl (va_cpy (fun j => sb_b (W.getD j 0)) a 0 n9 W.length)))]) := by
  refine Kt.of (tF_ro t W) (by decide) rfl hty (Nat.le_of_ble_eq_true rfl) ?_
  intro p e s m args below meth c0 A hC hr hlk hnm hF
  have hFt : vx_Ft y_St_getBytes147.cls (yw y_St_getBytes147 b_St_getBytes147 4 none) cls cty [] := (fun q h => by cases h)
  have hini : false = true → meth.name = "<init>" := fun h => by cases h
  have hF0 := hF
  obtain ⟨hcs, hO, hco, v9, hv, hb⟩ := hF
  refine vx_go hC hFt hini (vx_ends hC hr hlk) jc_St_getBytes147 0 (by decide) rfl ?_
  refine callv0 hC (c_St_coder152 l D tys tc hty t W hWW) hF0 hO wm_St_coder152 wl_St_335 wi_St_coder152 ws_St_St_coder152 ⟨by decide, by decide⟩ rfl rfl (Nat.le_of_ble_eq_true rfl) ⟨by decide, by decide⟩ (fun r' hp => ?_)
  subst hp
  refine And.intro (fun c3 => ?_) (fun c3 => ?_)
  · skip
    exact absurd rfl c3
  · skip
    refine ⟨_, ⟨"java/lang/String", "value", "[B", "java/lang/String", hv, Or.inl (hC.2.2.2.2.1 _ (List.mem_cons_of_mem _ wf_St_9)), fun _ z => z⟩, ?_⟩
    refine ⟨_, ⟨"java/lang/String", "value", "[B", "java/lang/String", hv, Or.inl (hC.2.2.2.2.1 _ (List.mem_cons_of_mem _ wf_St_9)), fun _ z => z⟩, ?_⟩
    refine ⟨1, _, _, hb, ?_⟩
    refine sx_copyT hC wl_St_212 0 (f := fun j => sb_b (W.getD j 0)) hb rfl (sp := 0) (dp := n9) (w := W.length) rfl (sb_shl0 _) rfl ⟨by omega, by omega⟩ ⟨hn, by omega⟩ (fun i _ => sb_fitB _) (by decide) (Nat.le_of_ble_eq_true rfl) ?_
    refine vx_go hC hFt hini (vx_ends hC hr hlk) jc_St_getBytes147 25 (by decide) rfl ?_
    refine And.intro (trivial) (And.intro ?_ (And.intro (Nat.le_refl _) (Nat.le_refl _)))
    exact And.intro rfl rfl
set_option maxRecDepth 100000 in
set_option maxHeartbeats 4000000 in
theorem c_Ab_inflateIfNeededFor71 (l : Launch) (D : va_G) (tys : List (ClassId × FieldType)) (tc : Nat → ClassId) (hty : ∀ i : Nat, i < 4 → tys[i]? = some (tc i, vx_ty i)) (b v : Nat) (ml : Int32) (n9 M9 : Nat) (a : Nat → Int32) (t : Nat) (W : List Nat) (hWW : isW W) : Kt l y_Ab_inflateIfNeededFor71 (yw y_Ab_inflateIfNeededFor71 b_Ab_inflateIfNeededFor71 2 none) 1 20 0 0 D cls tys (tF t W) [.ref b, .ref t] (sbW tc b v ml n9 M9 a) (fun r w => r = none ∧ w = (sbW tc b v ml n9 M9 a)) := by
  refine Kt.of (tF_ro t W) (by decide) rfl hty (Nat.le_of_ble_eq_true rfl) ?_
  intro p e s m args below meth c0 A hC hr hlk hnm hF
  have hFt : vx_Ft y_Ab_inflateIfNeededFor71.cls (yw y_Ab_inflateIfNeededFor71 b_Ab_inflateIfNeededFor71 2 none) cls cty ft_Ab := ft_of (fun w h => List.mem_cons_of_mem _ h) fl_Ab_in ft_Ab_b
  have hini : false = true → meth.name = "<init>" := fun h => by cases h
  have hF0 := hF
  obtain ⟨hcs, hO, hco, v9, hv, hb⟩ := hF
  refine vx_go hC hFt hini (vx_ends hC hr hlk) jc_Ab_inflateIfNeededFor71 0 (by decide) rfl ?_
  refine ⟨_, ⟨"java/lang/String", "COMPACT_STRINGS", "Z", "java/lang/String", hcs.1, Or.inl (hC.2.2.2.2.1 _ (List.mem_cons_of_mem _ wf_Ab_18)), fun _ z => z⟩, ?_⟩
  refine And.intro (fun c1 => ?_) (fun c1 => ?_)
  · skip
    exact absurd c1 (by decide)
  · skip
    refine And.intro rfl ?_
    refine callv0 hC (c_St_coder152 l D tys tc hty t W hWW) hF0 hO wm_St_coder152 wl_Ab_40 wi_St_coder152 ws_St_St_coder152 ⟨by decide, by decide⟩ rfl rfl (Nat.le_of_ble_eq_true rfl) ⟨by decide, by decide⟩ (fun r' hp => ?_)
    subst hp
    refine And.intro (fun c6 => ?_) (fun c6 => ?_)
    · skip
      refine vx_go hC hFt hini (vx_ends hC hr hlk) jc_Ab_inflateIfNeededFor71 9 (by decide) rfl ?_
      refine And.intro (trivial) (And.intro ?_ (And.intro (Nat.le_refl _) (Nat.le_refl _)))
      exact And.intro rfl rfl
    · skip
      exact absurd rfl c6
set_option maxRecDepth 100000 in
set_option maxHeartbeats 4000000 in
theorem c_Ab_putStringAt73 (l : Launch) (D : va_G) (tys : List (ClassId × FieldType)) (tc : Nat → ClassId) (hty : ∀ i : Nat, i < 4 → tys[i]? = some (tc i, vx_ty i)) (b v : Nat) (ml : Int32) (n9 M9 : Nat) (a : Nat → Int32) (t : Nat) (W : List Nat) (hWW : isW W) (hn : n9 + W.length ≤ M9) (hm : M9 ≤ 100) : Kt l y_Ab_putStringAt73 (yw y_Ab_putStringAt73 b_Ab_putStringAt73 3 none) 2 83 0 0 D cls tys (tF t W) [.ref b, .int (nI n9), .ref t] (sbW tc b v ml n9 M9 a) (fun r w => r = none ∧ w = (sbW tc b v ml n9 M9 (va_cpy (fun j => sb_b (W.getD j 0)) a 0 n9 W.length))) := by
  refine Kt.of (tF_ro t W) (by decide) rfl hty (Nat.le_of_ble_eq_true rfl) ?_
  intro p e s m args below meth c0 A hC hr hlk hnm hF
  have hFt : vx_Ft y_Ab_putStringAt73.cls (yw y_Ab_putStringAt73 b_Ab_putStringAt73 3 none) cls cty ft_Ab := ft_of (fun w h => List.mem_cons_of_mem _ h) fl_Ab_in ft_Ab_b
  have hini : false = true → meth.name = "<init>" := fun h => by cases h
  have hF0 := hF
  obtain ⟨hcs, hO, hco, v9, hv, hb⟩ := hF
  refine vx_go hC hFt hini (vx_ends hC hr hlk) jc_Ab_putStringAt73 0 (by decide) rfl ?_
  refine bx_call hC (c_Ab_inflateIfNeededFor71 l D tys tc hty b v ml n9 M9 a t W hWW) hF0 (cw_V wm_Ab_inflateIfNeededFor71 wl_Ab_397 wi_Ab_inflateIfNeededFor71 ws_Sb_Ab_inflateIfNeededFor71 hC.2.2.2.2.1 ⟨by decide, by decide⟩) rfl rfl rfl rfl (Nat.le_of_ble_eq_true rfl) ⟨by decide, by decide⟩ (fun r' w' hp => ?_)
  obtain ⟨rfl, rfl⟩ := hp
  refine And.intro rfl ?_
  refine And.intro rfl ?_
  refine callvR (wc := [(v, .inl (tc 1, M9, .inl a))]) (wr := [(b, .inr (11, [.ref v, .int 0, .int ml, .int (nI n9)]))]) hC (c_St_getBytes147 l D tys tc hty t W hWW v M9 a n9 hn hm) hF0 hO wm_St_getBytes147 wl_Ab_399 wi_St_getBytes147 ws_St_St_getBytes147 ⟨by decide, by decide⟩ [1] [0] rfl rfl rfl rfl (by decide) rfl rfl (Nat.le_of_ble_eq_true rfl) ⟨by decide, by decide⟩ (fun r' w' hp => ?_)
  obtain ⟨rfl, rfl⟩ := hp
  refine And.intro (trivial) (And.intro ?_ (And.intro (Nat.le_refl _) (Nat.le_refl _)))
  exact And.intro rfl rfl
set_option maxRecDepth 100000 in
set_option maxHeartbeats 4000000 in
theorem c_Ab_append22 (l : Launch) (D : va_G) (tys : List (ClassId × FieldType)) (tc : Nat → ClassId) (hty : ∀ i : Nat, i < 4 → tys[i]? = some (tc i, vx_ty i)) (b v : Nat) (ml : Int32) (M9 : Nat) (a : Nat → Int32) (L : List Nat) (hL : sbI a L) (hf : sb_Fit a) (hm : L.length ≤ M9 ∧ 16 ≤ M9 ∧ M9 ≤ 100) (t : Nat) (W : List Nat) (hWW : isW W) (hn : L.length + W.length ≤ 48) : Kt l y_Ab_append22 (yw y_Ab_append22 b_Ab_append22 3 (some (.object "java/lang/AbstractStringBuilder"))) 4 105 1 100 D cls tys (tF t W) [.ref b, .ref t] (sbW tc b v ml L.length M9 a) (fun r w => r = some (.ref b) ∧ sbO tc b (L ++ W) w) := by
  refine Kt.of (tF_ro t W) (by decide) rfl hty (Nat.le_of_ble_eq_true rfl) ?_
  intro p e s m args below meth c0 A hC hr hlk hnm hF
  have hFt : vx_Ft y_Ab_append22.cls (yw y_Ab_append22 b_Ab_append22 3 (some (.object "java/lang/AbstractStringBuilder"))) cls cty ft_Ab := ft_of (fun w h => List.mem_cons_of_mem _ h) fl_Ab_in ft_Ab_b
  have hini : false = true → meth.name = "<init>" := fun h => by cases h
  have hF0 := hF
  obtain ⟨hcs, hO, hco, v9, hv, hb⟩ := hF
  refine vx_go hC hFt hini (vx_ends hC hr hlk) jc_Ab_append22 0 (by decide) rfl ?_
  refine vx_go hC hFt hini (vx_ends hC hr hlk) jc_Ab_append22 5 (by decide) rfl ?_
  refine callv0 hC (c_St_length54 l D tys tc hty t W hWW) hF0 hO wm_St_length54 wl_Ab_32 wi_St_length54 ws_St_St_length54 ⟨by decide, by decide⟩ rfl rfl (Nat.le_of_ble_eq_true rfl) ⟨by decide, by decide⟩ (fun r' hp => ?_)
  subst hp
  refine And.intro rfl ?_
  refine bx_call hC (c_Ab_ensureCapacityInternal9 l D tys tc hty b v ml L.length M9 a (L.length + W.length) hm.2.2 (hn) hf) trivial (cw_V wm_Ab_ensureCapacityInternal9 wl_Ab_100 wi_Ab_ensureCapacityInternal9 ws_Sb_Ab_ensureCapacityInternal9 hC.2.2.2.2.1 ⟨by decide, by decide⟩) rfl rfl rfl (show [Value.int (nI L.length + nI W.length), Value.ref b] = [Value.int (nI (L.length + W.length)), Value.ref b] by rw [nI_add]) (Nat.le_of_ble_eq_true rfl) ⟨by decide, by decide⟩ (fun r' w' hp => ?_)
  obtain ⟨rfl, v2, m2, a2, rfl, k1, k2, k3, k4, k5⟩ := hp
  refine And.intro rfl ?_
  refine bx_call hC (c_Ab_putStringAt73 l D tys tc hty b v2 ml L.length m2 a2 t W hWW k3 k5) hF0 (cw_V wm_Ab_putStringAt73 wl_Ab_208 wi_Ab_putStringAt73 ws_Sb_Ab_putStringAt73 hC.2.2.2.2.1 ⟨by decide, by decide⟩) rfl rfl rfl rfl (Nat.le_of_ble_eq_true rfl) ⟨by decide, by decide⟩ (fun r' w' hp => ?_)
  obtain ⟨rfl, rfl⟩ := hp
  refine And.intro rfl ?_
  refine And.intro rfl ?_
  refine And.intro rfl (And.intro (And.intro rfl rfl) ?_)
  refine And.intro (trivial) (And.intro ?_ (And.intro (Nat.le_of_ble_eq_true rfl) (Nat.le_of_ble_eq_true rfl)))
  rw [nI_add]
  refine ⟨rfl, v2, ml, m2, va_cpy (fun j => sb_b (W.getD j 0)) a2 0 L.length W.length, by rw [List.length_append]; rfl, sbI_app hL hWW.2 (fun j hj => ?_) (fun i hi => ?_), sb_fitC (fun _ => sb_fitB _) k2, by rw [List.length_append]; exact k3, by omega, k5⟩
  · rw [pk_cpy_out (Or.inl hj)]; exact k1 j (by omega)
  · rw [pk_cpy_in (by omega) (by omega), show 0 + (L.length + i - L.length) = i by omega]
set_option maxRecDepth 100000 in
set_option maxHeartbeats 4000000 in
theorem c_Sb_append7 (l : Launch) (D : va_G) (tys : List (ClassId × FieldType)) (tc : Nat → ClassId) (hty : ∀ i : Nat, i < 4 → tys[i]? = some (tc i, vx_ty i)) (b v : Nat) (ml : Int32) (M9 : Nat) (a : Nat → Int32) (L : List Nat) (hL : sbI a L) (hf : sb_Fit a) (hm : L.length ≤ M9 ∧ 16 ≤ M9 ∧ M9 ≤ 100) (t : Nat) (W : List Nat) (hWW : isW W) (hn : L.length + W.length ≤ 48) : Kt l y_Sb_append7 (yw y_Sb_append7 b_Sb_append7 2 (some (.object "java/lang/StringBuilder"))) 5 127 1 100 D cls tys (tF t W) [.ref b, .ref t] (sbW tc b v ml L.length M9 a) (fun r w => r = some (.ref b) ∧ sbO tc b (L ++ W) w) := by
  refine Kt.of (tF_ro t W) (by decide) rfl hty (Nat.le_of_ble_eq_true rfl) ?_
  intro p e s m args below meth c0 A hC hr hlk hnm hF
  have hFt : vx_Ft y_Sb_append7.cls (yw y_Sb_append7 b_Sb_append7 2 (some (.object "java/lang/StringBuilder"))) cls cty [] := (fun q h => by cases h)
  have hini : false = true → meth.name = "<init>" := fun h => by cases h
  refine vx_go hC hFt hini (vx_ends hC hr hlk) jc_Sb_append7 0 (by decide) rfl ?_
  refine bx_super hC (c_Ab_append22 l D tys tc hty b v ml M9 a L hL hf hm t W hWW hn) hF (cw_SU wm_Ab_append22 wl_Sb_29 wsm_Ab_append22 wsu_Sb wi_Ab_append22 (by decide) hC.2.2.2.2.1 ⟨by decide, by decide⟩) rfl rfl rfl (Nat.le_of_ble_eq_true rfl) ⟨by decide, by decide⟩ (fun r' w' hp => ?_)
  obtain ⟨rfl, hp⟩ := hp
  refine And.intro rfl ?_
  refine And.intro (trivial) (And.intro ?_ (And.intro (Nat.le_of_ble_eq_true rfl) (Nat.le_of_ble_eq_true rfl)))
  exact ⟨rfl, hp⟩
set_option maxRecDepth 100000 in
set_option maxHeartbeats 4000000 in
theorem c_Ab_setLength13 (l : Launch) (D : va_G) (tys : List (ClassId × FieldType)) (tc : Nat → ClassId) (hty : ∀ i : Nat, i < 4 → tys[i]? = some (tc i, vx_ty i)) (b v : Nat) (ml : Int32) (M9 : Nat) (a : Nat → Int32) (L : List Nat) (hL : sbI a L) (hf : sb_Fit a) (hm : L.length ≤ M9 ∧ 16 ≤ M9 ∧ M9 ≤ 100) : Kt l y_Ab_setLength13 (yw y_Ab_setLength13 b_Ab_setLength13 2 none) 4 104 1 100 D cls tys (fun _ _ _ => True) [.ref b, .int 0] (sbW tc b v ml L.length M9 a) (fun r w => r = none ∧ sbO tc b [] w) := by
  refine Kt.of ro_true (by decide) rfl hty (Nat.le_of_ble_eq_true rfl) ?_
  intro p e s m args below meth c0 A hC hr hlk hnm hF
  have hFt : vx_Ft y_Ab_setLength13.cls (yw y_Ab_setLength13 b_Ab_setLength13 2 none) cls cty ft_Ab := ft_of (fun w h => List.mem_cons_of_mem _ h) fl_Ab_in ft_Ab_b
  have hini : false = true → meth.name = "<init>" := fun h => by cases h
  refine vx_go hC hFt hini (vx_ends hC hr hlk) jc_Ab_setLength13 0 (by decide) rfl ?_
  refine And.intro (fun c1 => ?_) (fun c1 => ?_)
  · skip
    refine vx_go hC hFt hini (vx_ends hC hr hlk) jc_Ab_setLength13 7 (by decide) rfl ?_
    refine bx_call hC (c_Ab_ensureCapacityInternal9 l D tys tc hty b v ml L.length M9 a (0) hm.2.2 (by decide) hf) trivial (cw_V wm_Ab_ensureCapacityInternal9 wl_Ab_100 wi_Ab_ensureCapacityInternal9 ws_Sb_Ab_ensureCapacityInternal9 hC.2.2.2.2.1 ⟨by decide, by decide⟩) rfl rfl rfl rfl (Nat.le_of_ble_eq_true rfl) ⟨by decide, by decide⟩ (fun r' w' hp => ?_)
    obtain ⟨rfl, v2, m2, a2, rfl, k1, k2, k3, k4, k5⟩ := hp
    refine And.intro rfl ?_
    refine And.intro (fun c13 => ?_) (fun c13 => ?_)
    · skip
      refine vx_go hC hFt hini (vx_ends hC hr hlk) jc_Ab_setLength13 31 (by decide) rfl ?_
      refine And.intro rfl ?_
      refine And.intro (fun c34 => ?_) (fun c34 => ?_)
      · skip
        refine vx_go hC hFt hini (vx_ends hC hr hlk) jc_Ab_setLength13 38 (by decide) rfl ?_
        refine And.intro rfl (And.intro (And.intro rfl rfl) ?_)
        refine And.intro (trivial) (And.intro ?_ (And.intro (Nat.le_of_ble_eq_true rfl) (Nat.le_of_ble_eq_true rfl)))
        exact ⟨rfl, v2, _, m2, a2, rfl, ⟨(fun x hx => by cases hx), (fun j hj => absurd hj (Nat.not_lt_zero _))⟩, k2, Nat.zero_le _, by omega, k5⟩
      · skip
        refine And.intro rfl (And.intro (And.intro rfl rfl) ?_)
        refine And.intro rfl (And.intro (And.intro rfl rfl) ?_)
        refine And.intro (trivial) (And.intro ?_ (And.intro (Nat.le_of_ble_eq_true rfl) (Nat.le_of_ble_eq_true rfl)))
        exact ⟨rfl, v2, _, m2, a2, rfl, ⟨(fun x hx => by cases hx), (fun j hj => absurd hj (Nat.not_lt_zero _))⟩, k2, Nat.zero_le _, by omega, k5⟩
    · skip
      exact absurd (nI_pos' (by omega)) c13
  · skip
    exact absurd (show (0 : Int32) ≤ 0 by decide) c1
set_option maxRecDepth 100000 in
set_option maxHeartbeats 4000000 in
theorem c_Sb_setLength89 (l : Launch) (D : va_G) (tys : List (ClassId × FieldType)) (tc : Nat → ClassId) (hty : ∀ i : Nat, i < 4 → tys[i]? = some (tc i, vx_ty i)) (b v : Nat) (ml : Int32) (M9 : Nat) (a : Nat → Int32) (L : List Nat) (hL : sbI a L) (hf : sb_Fit a) (hm : L.length ≤ M9 ∧ 16 ≤ M9 ∧ M9 ≤ 100) : Kt l y_Sb_setLength89 (yw y_Sb_setLength89 b_Sb_setLength89 2 none) 5 125 1 100 D cls tys (fun _ _ _ => True) [.ref b, .int 0] (sbW tc b v ml L.length M9 a) (fun r w => r = none ∧ sbO tc b [] w) := by
  refine Kt.of ro_true (by decide) rfl hty (Nat.le_of_ble_eq_true rfl) ?_
  intro p e s m args below meth c0 A hC hr hlk hnm hF
  have hFt : vx_Ft y_Sb_setLength89.cls (yw y_Sb_setLength89 b_Sb_setLength89 2 none) cls cty [] := (fun q h => by cases h)
  have hini : false = true → meth.name = "<init>" := fun h => by cases h
  refine vx_go hC hFt hini (vx_ends hC hr hlk) jc_Sb_setLength89 0 (by decide) rfl ?_
  refine bx_super hC (c_Ab_setLength13 l D tys tc hty b v ml M9 a L hL hf hm) trivial (cw_SU wm_Ab_setLength13 wl_Sb_333 wsm_Ab_setLength13 wsu_Sb wi_Ab_setLength13 (by decide) hC.2.2.2.2.1 ⟨by decide, by decide⟩) rfl rfl rfl (Nat.le_of_ble_eq_true rfl) ⟨by decide, by decide⟩ (fun r' w' hp => ?_)
  obtain ⟨rfl, hp⟩ := hp
  refine And.intro (trivial) (And.intro ?_ (And.intro (Nat.le_of_ble_eq_true rfl) (Nat.le_of_ble_eq_true rfl)))
  exact ⟨rfl, hp⟩
set_option maxRecDepth 100000 in
set_option maxHeartbeats 4000000 in
theorem c_Ab_length6 (l : Launch) (D : va_G) (tys : List (ClassId × FieldType)) (tc : Nat → ClassId) (hty : ∀ i : Nat, i < 4 → tys[i]? = some (tc i, vx_ty i)) (b v : Nat) (ml : Int32) (n9 M9 : Nat) (a : Nat → Int32) : Kt l y_Ab_length6 (yw y_Ab_length6 b_Ab_length6 1 (some .int)) 0 0 0 0 D cls tys (fun _ _ _ => True) [.ref b] (sbW tc b v ml n9 M9 a) (fun r w => r = some (.int (nI n9)) ∧ w = (sbW tc b v ml n9 M9 a)) := by
  refine Kt.of ro_true (by decide) rfl hty (Nat.le_of_ble_eq_true rfl) ?_
  intro p e s m args below meth c0 A hC hr hlk hnm hF
  have hFt : vx_Ft y_Ab_length6.cls (yw y_Ab_length6 b_Ab_length6 1 (some .int)) cls cty ft_Ab := ft_of (fun w h => List.mem_cons_of_mem _ h) fl_Ab_in ft_Ab_b
  have hini : false = true → meth.name = "<init>" := fun h => by cases h
  refine vx_go hC hFt hini (vx_ends hC hr hlk) jc_Ab_length6 0 (by decide) rfl ?_
  refine And.intro rfl ?_
  refine And.intro (trivial) (And.intro ?_ (And.intro (Nat.le_refl _) (Nat.le_refl _)))
  exact And.intro rfl rfl
set_option maxRecDepth 100000 in
set_option maxHeartbeats 4000000 in
theorem c_Sb_length93 (l : Launch) (D : va_G) (tys : List (ClassId × FieldType)) (tc : Nat → ClassId) (hty : ∀ i : Nat, i < 4 → tys[i]? = some (tc i, vx_ty i)) (b v : Nat) (ml : Int32) (n9 M9 : Nat) (a : Nat → Int32) : Kt l y_Sb_length93 (yw y_Sb_length93 b_Sb_length93 1 (some .int)) 1 20 0 0 D cls tys (fun _ _ _ => True) [.ref b] (sbW tc b v ml n9 M9 a) (fun r w => r = some (.int (nI n9)) ∧ w = (sbW tc b v ml n9 M9 a)) := by
  refine Kt.of ro_true (by decide) rfl hty (Nat.le_of_ble_eq_true rfl) ?_
  intro p e s m args below meth c0 A hC hr hlk hnm hF
  have hFt : vx_Ft y_Sb_length93.cls (yw y_Sb_length93 b_Sb_length93 1 (some .int)) cls cty [] := (fun q h => by cases h)
  have hini : false = true → meth.name = "<init>" := fun h => by cases h
  refine vx_go hC hFt hini (vx_ends hC hr hlk) jc_Sb_length93 0 (by decide) rfl ?_
  refine bx_super hC (c_Ab_length6 l D tys tc hty b v ml n9 M9 a) trivial (cw_SU wm_Ab_length6 wl_Sb_343 wsm_Ab_length6 wsu_Sb wi_Ab_length6 (by decide) hC.2.2.2.2.1 ⟨by decide, by decide⟩) rfl rfl rfl (Nat.le_of_ble_eq_true rfl) ⟨by decide, by decide⟩ (fun r' w' hp => ?_)
  obtain ⟨rfl, rfl⟩ := hp
  refine And.intro (trivial) (And.intro ?_ (And.intro (Nat.le_refl _) (Nat.le_refl _)))
  exact And.intro rfl rfl
set_option maxRecDepth 100000 in
set_option maxHeartbeats 4000000 in
theorem c_Ab_getValue64 (l : Launch) (D : va_G) (tys : List (ClassId × FieldType)) (tc : Nat → ClassId) (hty : ∀ i : Nat, i < 4 → tys[i]? = some (tc i, vx_ty i)) (b v : Nat) (ml : Int32) (n9 M9 : Nat) (a : Nat → Int32) : Kt l y_Ab_getValue64 (yw y_Ab_getValue64 b_Ab_getValue64 1 (some (.array .byte))) 0 0 0 0 D cls tys (fun _ _ _ => True) [.ref b] (sbW tc b v ml n9 M9 a) (fun r w => r = some (.ref v) ∧ w = (sbW tc b v ml n9 M9 a)) := by
  refine Kt.of ro_true (by decide) rfl hty (Nat.le_of_ble_eq_true rfl) ?_
  intro p e s m args below meth c0 A hC hr hlk hnm hF
  have hFt : vx_Ft y_Ab_getValue64.cls (yw y_Ab_getValue64 b_Ab_getValue64 1 (some (.array .byte))) cls cty ft_Ab := ft_of (fun w h => List.mem_cons_of_mem _ h) fl_Ab_in ft_Ab_b
  have hini : false = true → meth.name = "<init>" := fun h => by cases h
  refine vx_go hC hFt hini (vx_ends hC hr hlk) jc_Ab_getValue64 0 (by decide) rfl ?_
  refine And.intro rfl ?_
  refine And.intro (trivial) (And.intro ?_ (And.intro (Nat.le_refl _) (Nat.le_refl _)))
  exact And.intro rfl rfl
set_option maxRecDepth 100000 in
set_option maxHeartbeats 4000000 in
theorem c_Ab_charAt14 (l : Launch) (D : va_G) (tys : List (ClassId × FieldType)) (tc : Nat → ClassId) (hty : ∀ i : Nat, i < 4 → tys[i]? = some (tc i, vx_ty i)) (b v : Nat) (ml : Int32) (M9 : Nat) (a : Nat → Int32) (L : List Nat) (hL : sbI a L) (hf : sb_Fit a) (hm : L.length ≤ M9 ∧ 16 ≤ M9 ∧ M9 ≤ 100) (i : Nat) (hi : i < L.length) : Kt l y_Ab_charAt14 (yw y_Ab_charAt14 b_Ab_charAt14 5 (some .char)) 2 43 0 0 D cls tys csF [.ref b, .int (nI i)] (sbW tc b v ml L.length M9 a) (fun r w => r = some (.int (nI (L.getD i 0))) ∧ w = (sbW tc b v ml L.length M9 a)) := by
  refine Kt.of csF_ro (by decide) rfl hty (Nat.le_of_ble_eq_true rfl) ?_
  intro p e s m args below meth c0 A hC hr hlk hnm hF
  have hFt : vx_Ft y_Ab_charAt14.cls (yw y_Ab_charAt14 b_Ab_charAt14 5 (some .char)) cls cty ft_Ab := ft_of (fun w h => List.mem_cons_of_mem _ h) fl_Ab_in ft_Ab_b
  have hini : false = true → meth.name = "<init>" := fun h => by cases h
  have hx : L.getD i 0 < 256 := by
    rw [List.getD_eq_getElem?_getD, List.getElem?_eq_getElem hi]
    exact hL.1 _ (List.getElem_mem hi)
  refine vx_go hC hFt hini (vx_ends hC hr hlk) jc_Ab_charAt14 0 (by decide) rfl ?_
  refine And.intro rfl ?_
  refine And.intro rfl ?_
  refine And.intro rfl ?_
  refine And.intro rfl (And.intro ⟨1, by decide, rfl⟩ ?_)
  refine sx_mmin hC wl_Ab_138 (by decide) (Nat.le_of_ble_eq_true rfl) ⟨by decide, by decide⟩ ?_
  rw [sb_shr0, if_neg (nI_nlt hm.1 (by omega))]
  refine calls0 hC (c_St_checkIndex155 l D tys tc hty i L.length hi (by omega)) hF wm_St_checkIndex155 wl_Ab_144 wt_St_checkIndex155 ⟨by decide, by decide⟩ rfl rfl (Nat.le_of_ble_eq_true rfl) ⟨by decide, by decide⟩ (fun r' hp => ?_)
  subst hp
  refine And.intro (fun c18 => ?_) (fun c18 => ?_)
  · skip
    exact absurd rfl c18
  · skip
    refine And.intro rfl (And.intro rfl (And.intro (vp_in_nI (by omega) (by omega)) ?_))
    rw [nI_clamp (n := i) (by omega)]
    refine And.intro ((by rw [hL.2 i hi, (sb_byte _ hx).1, (sb_byte _ hx).2.1]; exact (pk_charN (by omega)).1)) (And.intro ?_ (And.intro (Nat.le_refl _) (Nat.le_refl _)))
    refine And.intro ?_ rfl
    rw [hL.2 i hi, (sb_byte _ hx).1, (sb_byte _ hx).2.1]
set_option maxRecDepth 100000 in
set_option maxHeartbeats 4000000 in
theorem c_Sb_charAt88 (l : Launch) (D : va_G) (tys : List (ClassId × FieldType)) (tc : Nat → ClassId) (hty : ∀ i : Nat, i < 4 → tys[i]? = some (tc i, vx_ty i)) (b v : Nat) (ml : Int32) (M9 : Nat) (a : Nat → Int32) (L : List Nat) (hL : sbI a L) (hf : sb_Fit a) (hm : L.length ≤ M9 ∧ 16 ≤ M9 ∧ M9 ≤ 100) (i : Nat) (hi : i < L.length) : Kt l y_Sb_charAt88 (yw y_Sb_charAt88 b_Sb_charAt88 2 (some .char)) 3 67 0 0 D cls tys csF [.ref b, .int (nI i)] (sbW tc b v ml L.length M9 a) (fun r w => r = some (.int (nI (L.getD i 0))) ∧ w = (sbW tc b v ml L.length M9 a)) := by
  refine Kt.of csF_ro (by decide) rfl hty (Nat.le_of_ble_eq_true rfl) ?_
  intro p e s m args below meth c0 A hC hr hlk hnm hF
  have hFt : vx_Ft y_Sb_charAt88.cls (yw y_Sb_charAt88 b_Sb_charAt88 2 (some .char)) cls cty [] := (fun q h => by cases h)
  have hini : false = true → meth.name = "<init>" := fun h => by cases h
  have hx : L.getD i 0 < 256 := by
    rw [List.getD_eq_getElem?_getD, List.getElem?_eq_getElem hi]
    exact hL.1 _ (List.getElem_mem hi)
  refine vx_go hC hFt hini (vx_ends hC hr hlk) jc_Sb_charAt88 0 (by decide) rfl ?_
  refine bx_super hC (c_Ab_charAt14 l D tys tc hty b v ml M9 a L hL hf hm i hi) hF (cw_SU wm_Ab_charAt14 wl_Sb_329 wsm_Ab_charAt14 wsu_Sb wi_Ab_charAt14 (by decide) hC.2.2.2.2.1 ⟨by decide, by decide⟩) rfl rfl rfl (Nat.le_of_ble_eq_true rfl) ⟨by decide, by decide⟩ (fun r' w' hp => ?_)
  obtain ⟨rfl, rfl⟩ := hp
  refine And.intro ((pk_charN (by omega)).1) (And.intro ?_ (And.intro (Nat.le_refl _) (Nat.le_refl _)))
  exact And.intro rfl rfl
set_option maxRecDepth 100000 in
set_option maxHeartbeats 4000000 in
theorem c_Ab_init2 (l : Launch) (D : va_G) (tys : List (ClassId × FieldType)) (tc : Nat → ClassId) (hty : ∀ i : Nat, i < 4 → tys[i]? = some (tc i, vx_ty i)) (b : Nat) : Kt l y_Ab_init2 (yw y_Ab_init2 b_Ab_init2 2 none) 1 40 1 16 D cls tys csF [.ref b, .int 16] [(b, .inr (11, [.null, .int 0, .int 0, .int 0]))] (fun r w => ∃ v, r = none ∧ w = sbW tc b v 0 0 16 (fun _ => 0)) := by
  refine Kt.of csF_ro (by decide) rfl hty (Nat.le_of_ble_eq_true rfl) ?_
  intro p e s m args below meth c0 A hC hr hlk hnm hF
  have hFt : vx_Ft y_Ab_init2.cls (yw y_Ab_init2 b_Ab_init2 2 none) cls cty ft_Ab := ft_of (fun w h => List.mem_cons_of_mem _ h) fl_Ab_in ft_Ab_b
  have hini : true = true → meth.name = "<init>" := fun _ => hnm
  refine vx_go hC hFt hini (vx_ends hC hr hlk) jc_Ab_init2 0 (by decide) rfl ?_
  refine sx_obj hC wl_Ab_3 (by decide) (Nat.le_of_ble_eq_true rfl) ?_
  refine ⟨_, ⟨"java/lang/String", "COMPACT_STRINGS", "Z", "java/lang/String", hF.1, Or.inl (hC.2.2.2.2.1 _ (List.mem_cons_of_mem _ wf_Ab_18)), fun _ z => z⟩, ?_⟩
  refine And.intro (fun c3 => ?_) (fun c3 => ?_)
  · skip
    exact absurd c3 (by decide)
  · skip
    refine sx_newI hC (y := 1) (N := 16) (by decide) rfl wa_byte rfl (fun z => z) rfl (by decide) (by decide) ⟨by decide, by decide⟩ (fun v => ?_)
    refine And.intro rfl (And.intro (And.intro rfl rfl) ?_)
    refine And.intro rfl (And.intro (And.intro rfl rfl) ?_)
    refine vx_go hC hFt hini (vx_ends hC hr hlk) jc_Ab_init2 19 (by decide) rfl ?_
    refine And.intro (trivial) (And.intro ?_ (And.intro (Nat.le_of_ble_eq_true rfl) (Nat.le_of_ble_eq_true rfl)))
    exact ⟨_, rfl, rfl⟩
set_option maxRecDepth 100000 in
set_option maxHeartbeats 4000000 in
theorem c_Sb_init1 (l : Launch) (D : va_G) (tys : List (ClassId × FieldType)) (tc : Nat → ClassId) (hty : ∀ i : Nat, i < 4 → tys[i]? = some (tc i, vx_ty i)) (b : Nat) : Kt l y_Sb_init1 (yw y_Sb_init1 b_Sb_init1 1 none) 2 61 1 16 D cls tys csF [.ref b] [(b, .inr (11, [.null, .int 0, .int 0, .int 0]))] (fun r w => ∃ v, r = none ∧ w = sbW tc b v 0 0 16 (fun _ => 0)) := by
  refine Kt.of csF_ro (by decide) rfl hty (Nat.le_of_ble_eq_true rfl) ?_
  intro p e s m args below meth c0 A hC hr hlk hnm hF
  have hFt : vx_Ft y_Sb_init1.cls (yw y_Sb_init1 b_Sb_init1 1 none) cls cty [] := (fun q h => by cases h)
  have hini : true = true → meth.name = "<init>" := fun _ => hnm
  refine vx_go hC hFt hini (vx_ends hC hr hlk) jc_Sb_init1 0 (by decide) rfl ?_
  refine sx_callI (wr := []) hC (c_Ab_init2 l D tys tc hty b) (cw_I2 wm_Ab_init2 wl_Sb_1 wi_Ab_init2 rfl hC.2.2.2.2.1 ⟨by decide, by decide⟩) [0] [] rfl rfl rfl rfl (by decide) (vx_ro (wc := [(b, .inr (11, [.null, .int 0, .int 0, .int 0]))]) csF_ro hC.2.2.2.2.2.2.1 hF [0] rfl) rfl rfl (Nat.le_of_ble_eq_true rfl) ⟨by decide, by decide⟩ (fun r' w' hp => ?_)
  obtain ⟨v, rfl, rfl⟩ := hp
  refine And.intro (trivial) (And.intro ?_ (And.intro (Nat.le_of_ble_eq_true rfl) (Nat.le_of_ble_eq_true rfl)))
  exact ⟨v, rfl, rfl⟩
set_option maxRecDepth 100000 in
set_option maxHeartbeats 4000000 in
theorem c_Ar_checkLength131 (l : Launch) (D : va_G) (tys : List (ClassId × FieldType)) (tc : Nat → ClassId) (hty : ∀ i : Nat, i < 4 → tys[i]? = some (tc i, vx_ty i)) (n9 : Nat) (hn : n9 < 2 ^ 31) : Kt l y_Ar_checkLength131 (yw y_Ar_checkLength131 b_Ar_checkLength131 2 none) 0 0 0 0 D cls tys (fun _ _ _ => True) [.int 0, .int (nI n9)] [] (fun r w => r = none ∧ w = []) := by
  refine Kt.of ro_true (by decide) rfl hty (Nat.le_of_ble_eq_true rfl) ?_
  intro p e s m args below meth c0 A hC hr hlk hnm hF
  have hFt : vx_Ft y_Ar_checkLength131.cls (yw y_Ar_checkLength131 b_Ar_checkLength131 2 none) cls cty [] := (fun q h => by cases h)
  have hini : false = true → meth.name = "<init>" := fun h => by cases h
  refine vx_go hC hFt hini (vx_ends hC hr hlk) jc_Ar_checkLength131 0 (by decide) rfl ?_
  refine And.intro (fun c2 => ?_) (fun c2 => ?_)
  · skip
    refine vx_go hC hFt hini (vx_ends hC hr hlk) jc_Ar_checkLength131 17 (by decide) rfl ?_
    refine And.intro (trivial) (And.intro ?_ (And.intro (Nat.le_refl _) (Nat.le_refl _)))
    exact And.intro rfl rfl
  · skip
    exact absurd (nI_pos' hn) c2
set_option maxRecDepth 100000 in
set_option maxHeartbeats 4000000 in
theorem c_Ar_copyOfRangeByte133 (l : Launch) (D : va_G) (tys : List (ClassId × FieldType)) (tc : Nat → ClassId) (hty : ∀ i : Nat, i < 4 → tys[i]? = some (tc i, vx_ty i)) (v M9 : Nat) (a : Nat → Int32) (n9 : Nat) (hm : n9 < M9) (hq : M9 ≤ 100) (hf : sb_Fit a) : Kt l y_Ar_copyOfRangeByte133 (yw y_Ar_copyOfRangeByte133 b_Ar_copyOfRangeByte133 5 (some (.array .byte))) 1 60 1 100 D cls tys (fun _ _ _ => True) [.ref v, .int 0, .int (nI n9)] [(v, .inl (tc 1, M9, .inl a))] (fun r w => ∃ v2, r = some (.ref v2) ∧ w = [(v, .inl (tc 1, M9, .inl a)), (v2, .inl (tc 1, n9, .inl (va_cpy a (fun _ => 0) 0 0 n9)))]) := by
  refine Kt.of ro_true (by decide) rfl hty (Nat.le_of_ble_eq_true rfl) ?_
  intro p e s m args below meth c0 A hC hr hlk hnm hF
  have hFt : vx_Ft y_Ar_copyOfRangeByte133.cls (yw y_Ar_copyOfRangeByte133 b_Ar_copyOfRangeByte133 5 (some (.array .byte))) cls cty [] := (fun q h => by cases h)
  have hini : false = true → meth.name = "<init>" := fun h => by cases h
  refine vx_go hC hFt hini (vx_ends hC hr hlk) jc_Ar_copyOfRangeByte133 0 (by decide) rfl ?_
  refine calls0 hC (c_Ar_checkLength131 l D tys tc hty n9 (by omega)) trivial wm_Ar_checkLength131 wl_Ar_343 wt_Ar_checkLength131 ⟨by decide, by decide⟩ rfl rfl (Nat.le_of_ble_eq_true rfl) ⟨by decide, by decide⟩ (fun r' hp => ?_)
  subst hp
  refine sx_newI hC (y := 1) (N := n9) (by decide) rfl wa_byte rfl (fun z => z) (Int32.sub_zero _) (by omega) (by show n9 * 1 ≤ _; omega) ⟨Nat.le_refl _, (show 0 + n9 ≤ 100 by omega)⟩ (fun v2 => ?_)
  refine And.intro rfl (And.intro ⟨1, by decide, rfl⟩ ?_)
  refine sx_mmin hC wl_Ar_304 (by decide) (Nat.le_of_ble_eq_true rfl) ⟨Nat.le_refl _, (show 0 + n9 ≤ 100 by omega)⟩ ?_
  rw [Int32.sub_zero, Int32.sub_zero, if_pos (nI_lt hm (by omega))]
  refine sx_copy hC wl_Ar_150 0 1 1 (by decide) rfl rfl rfl (sp := 0) (dp := 0) (w := n9) rfl rfl rfl ⟨by omega, by omega⟩ ⟨by omega, by omega⟩ (fun i _ => hf _) (by decide) (Nat.le_of_ble_eq_true rfl) ?_
  refine And.intro (trivial) (And.intro ?_ (And.intro (Nat.le_refl _) (show 0 + n9 ≤ 100 by omega)))
  exact ⟨_, rfl, rfl⟩
set_option maxRecDepth 100000 in
set_option maxHeartbeats 4000000 in
theorem c_Ar_copyOfRange132 (l : Launch) (D : va_G) (tys : List (ClassId × FieldType)) (tc : Nat → ClassId) (hty : ∀ i : Nat, i < 4 → tys[i]? = some (tc i, vx_ty i)) (v M9 : Nat) (a : Nat → Int32) (n9 : Nat) (hm : n9 < M9) (hq : M9 ≤ 100) (hf : sb_Fit a) : Kt l y_Ar_copyOfRange132 (yw y_Ar_copyOfRange132 b_Ar_copyOfRange132 3 (some (.array .byte))) 2 84 1 100 D cls tys (fun _ _ _ => True) [.ref v, .int 0, .int (nI n9)] [(v, .inl (tc 1, M9, .inl a))] (fun r w => ∃ v2, r = some (.ref v2) ∧ w = [(v, .inl (tc 1, M9, .inl a)), (v2, .inl (tc 1, n9, .inl (va_cpy a (fun _ => 0) 0 0 n9)))]) := by
  refine Kt.of ro_true (by decide) rfl hty (Nat.le_of_ble_eq_true rfl) ?_
  intro p e s m args below meth c0 A hC hr hlk hnm hF
  have hFt : vx_Ft y_Ar_copyOfRange132.cls (yw y_Ar_copyOfRange132 b_Ar_copyOfRange132 3 (some (.array .byte))) cls cty [] := (fun q h => by cases h)
  have hini : false = true → meth.name = "<init>" := fun h => by cases h
  refine vx_go hC hFt hini (vx_ends hC hr hlk) jc_Ar_copyOfRange132 0 (by decide) rfl ?_
  refine And.intro (fun c1 => ?_) (fun c1 => ?_)
  · skip
    exact absurd rfl c1
  · skip
    refine And.intro rfl (And.intro ⟨1, by decide, rfl⟩ ?_)
    refine And.intro (fun c5 => ?_) (fun c5 => ?_)
    · skip
      exact absurd ((nI_eq (by omega) (by omega)).mp c5) (by omega)
    · skip
      refine sx_callS (wr := []) hC (c_Ar_copyOfRangeByte133 l D tys tc hty v M9 a n9 hm hq hf) (cw_S wm_Ar_copyOfRangeByte133 wl_Ar_339 wt_Ar_copyOfRangeByte133 hC.2.2.2.2.1 ⟨by decide, by decide⟩) [0] [] rfl rfl rfl rfl (by decide) (fun _ _ _ _ _ => trivial) rfl rfl (Nat.le_of_ble_eq_true rfl) ⟨by decide, by decide⟩ (fun r' w' hp => ?_)
      obtain ⟨v2, rfl, rfl⟩ := hp
      refine And.intro (trivial) (And.intro ?_ (And.intro (Nat.le_of_ble_eq_true rfl) (Nat.le_of_ble_eq_true rfl)))
      exact ⟨v2, rfl, rfl⟩
set_option maxRecDepth 100000 in
set_option maxHeartbeats 4000000 in
theorem c_St_init150 (l : Launch) (D : va_G) (tys : List (ClassId × FieldType)) (tc : Nat → ClassId) (hty : ∀ i : Nat, i < 4 → tys[i]? = some (tc i, vx_ty i)) (t : Nat) (b v : Nat) (ml : Int32) (M9 : Nat) (a : Nat → Int32) (L : List Nat) (hL : sbI a L) (hf : sb_Fit a) (hm : L.length ≤ M9 ∧ 16 ≤ M9 ∧ M9 ≤ 100) (hn : L.length < 16) : Kt l y_St_init150 (yw y_St_init150 b_St_init150 5 none) 3 106 1 100 D cls tys csF [.ref t, .ref b, .null] [(t, .inr (10, [.null, .int 0, .int 0, .int 0])), (b, .inr (11, [.ref v, .int 0, .int ml, .int (nI L.length)])), (v, .inl (tc 1, M9, .inl a))] (fun r w => ∃ v2, r = none ∧ w = [(t, .inr (10, [.ref v2, .int 0, .int 0, .int 0])), (b, .inr (11, [.ref v, .int 0, .int ml, .int (nI L.length)])), (v, .inl (tc 1, M9, .inl a)), (v2, .inl (tc 1, L.length, .inl (va_cpy a (fun _ => 0) 0 0 L.length)))]) := by
  refine Kt.of csF_ro (by decide) rfl hty (Nat.le_of_ble_eq_true rfl) ?_
  intro p e s m args below meth c0 A hC hr hlk hnm hF
  have hFt : vx_Ft y_St_init150.cls (yw y_St_init150 b_St_init150 5 none) cls cty ft_St := ft_of (fun w h => List.mem_cons_of_mem _ h) fl_St_in ft_St_b
  have hini : true = true → meth.name = "<init>" := fun _ => hnm
  refine vx_go hC hFt hini (vx_ends hC hr hlk) jc_St_init150 0 (by decide) rfl ?_
  refine sx_obj hC wl_St_1 (by decide) (Nat.le_of_ble_eq_true rfl) ?_
  refine sx_callV (wr := [(t, .inr (10, [.null, .int 0, .int 0, .int 0]))]) (wc := (sbW tc b v ml L.length M9 a)) hC (c_Ab_getValue64 l D tys tc hty b v ml L.length M9 a) (cw_V wm_Ab_getValue64 wl_St_552 wi_Ab_getValue64 ws_Sb_Ab_getValue64 hC.2.2.2.2.1 ⟨by decide, by decide⟩) [1, 2] [0] rfl rfl rfl rfl (by decide) (q0 := 0) rfl rfl rfl (fun _ _ _ _ _ => trivial) rfl rfl (Nat.le_of_ble_eq_true rfl) ⟨by decide, by decide⟩ (fun r' w' hp => ?_)
  obtain ⟨rfl, rfl⟩ := hp
  refine sx_callU (wr := [(t, .inr (10, [.null, .int 0, .int 0, .int 0]))]) (wc := (sbW tc b v ml L.length M9 a)) hC (c_Sb_length93 l D tys tc hty b v ml L.length M9 a) (cw_U2 (owner := "java/lang/AbstractStringBuilder") wm_Sb_length93 wl_St_549 wsm_Ab_length6 wi_Sb_length93 ws_Sb_len wi_Ab_length6 wm_Ab_length6.2.1 (by decide +kernel) hC.2.2.2.2.1 ⟨by decide, by decide⟩ ⟨by decide, by decide⟩) [1, 2] [0] rfl rfl rfl rfl (by decide) (q0 := 0) rfl rfl rfl (fun _ _ _ _ _ => trivial) rfl rfl (Nat.le_of_ble_eq_true rfl) ⟨by decide, by decide⟩ (fun r' w' hp => ?_)
  obtain ⟨rfl, rfl⟩ := hp
  refine sx_callV (wr := [(t, .inr (10, [.null, .int 0, .int 0, .int 0]))]) (wc := (sbW tc b v ml L.length M9 a)) hC (c_Ab_isLatin168 l D tys tc hty b v ml L.length M9 a) (cw_V wm_Ab_isLatin168 wl_St_1047 wi_Ab_isLatin168 ws_Sb_Ab_isLatin168 hC.2.2.2.2.1 ⟨by decide, by decide⟩) [1, 2] [0] rfl rfl rfl rfl (by decide) (q0 := 0) rfl rfl rfl (vx_ro (wc := (sbW tc b v ml L.length M9 a)) csF_ro hC.2.2.2.2.2.2.1 hF [1, 2] rfl) rfl rfl (Nat.le_of_ble_eq_true rfl) ⟨by decide, by decide⟩ (fun r' w' hp => ?_)
  obtain ⟨rfl, rfl⟩ := hp
  refine And.intro (fun c10 => ?_) (fun c10 => ?_)
  · skip
    exact absurd c10 (by decide)
  · skip
    refine And.intro rfl (And.intro (And.intro rfl rfl) ?_)
    refine sx_callS (wr := [(t, .inr (10, [.null, .int 0, .int 0, .int 0])), (b, .inr (11, [.ref v, .int 0, .int ml, .int (nI L.length)]))]) hC (c_Ar_copyOfRange132 l D tys tc hty v M9 a L.length (by omega) hm.2.2 hf) (cw_S wm_Ar_copyOfRange132 wl_St_54 wt_Ar_copyOfRange132 hC.2.2.2.2.1 ⟨by decide, by decide⟩) [2] [0, 1] rfl rfl rfl rfl (by decide) (fun _ _ _ _ _ => trivial) rfl rfl (Nat.le_of_ble_eq_true rfl) ⟨by decide, by decide⟩ (fun r' w' hp => ?_)
    obtain ⟨v2, rfl, rfl⟩ := hp
    refine And.intro rfl (And.intro (And.intro rfl rfl) ?_)
    refine vx_go hC hFt hini (vx_ends hC hr hlk) jc_St_init150 50 (by decide) rfl ?_
    refine And.intro (trivial) (And.intro ?_ (And.intro (Nat.le_of_ble_eq_true rfl) (Nat.le_of_ble_eq_true rfl)))
    exact ⟨v2, rfl, rfl⟩
set_option maxRecDepth 100000 in
set_option maxHeartbeats 4000000 in
theorem c_St_init53 (l : Launch) (D : va_G) (tys : List (ClassId × FieldType)) (tc : Nat → ClassId) (hty : ∀ i : Nat, i < 4 → tys[i]? = some (tc i, vx_ty i)) (t : Nat) (b v : Nat) (ml : Int32) (M9 : Nat) (a : Nat → Int32) (L : List Nat) (hL : sbI a L) (hf : sb_Fit a) (hm : L.length ≤ M9 ∧ 16 ≤ M9 ∧ M9 ≤ 100) (hn : L.length < 16) : Kt l y_St_init53 (yw y_St_init53 b_St_init53 2 none) 4 130 1 100 D cls tys csF [.ref t, .ref b] [(t, .inr (10, [.null, .int 0, .int 0, .int 0])), (b, .inr (11, [.ref v, .int 0, .int ml, .int (nI L.length)])), (v, .inl (tc 1, M9, .inl a))] (fun r w => ∃ v2, r = none ∧ w = [(t, .inr (10, [.ref v2, .int 0, .int 0, .int 0])), (b, .inr (11, [.ref v, .int 0, .int ml, .int (nI L.length)])), (v, .inl (tc 1, M9, .inl a)), (v2, .inl (tc 1, L.length, .inl (va_cpy a (fun _ => 0) 0 0 L.length)))]) := by
  refine Kt.of csF_ro (by decide) rfl hty (Nat.le_of_ble_eq_true rfl) ?_
  intro p e s m args below meth c0 A hC hr hlk hnm hF
  have hFt : vx_Ft y_St_init53.cls (yw y_St_init53 b_St_init53 2 none) cls cty [] := (fun q h => by cases h)
  have hini : true = true → meth.name = "<init>" := fun _ => hnm
  refine vx_go hC hFt hini (vx_ends hC hr hlk) jc_St_init53 0 (by decide) rfl ?_
  refine sx_callI (wr := []) (wc := [(t, .inr (10, [.null, .int 0, .int 0, .int 0])), (b, .inr (11, [.ref v, .int 0, .int ml, .int (nI L.length)])), (v, .inl (tc 1, M9, .inl a))]) hC (c_St_init150 l D tys tc hty t b v ml M9 a L hL hf hm hn) (cw_I2 wm_St_init150 wl_St_489 wi_St_init150 rfl hC.2.2.2.2.1 ⟨by decide, by decide⟩) [0, 1, 2] [] rfl rfl rfl rfl (by decide) (vx_ro (wc := [(t, .inr (10, [.null, .int 0, .int 0, .int 0])), (b, .inr (11, [.ref v, .int 0, .int ml, .int (nI L.length)])), (v, .inl (tc 1, M9, .inl a))]) csF_ro hC.2.2.2.2.2.2.1 hF [0, 1, 2] rfl) rfl rfl (Nat.le_of_ble_eq_true rfl) ⟨by decide, by decide⟩ (fun r' w' hp => ?_)
  obtain ⟨v2, rfl, rfl⟩ := hp
  refine And.intro (trivial) (And.intro ?_ (And.intro (Nat.le_of_ble_eq_true rfl) (Nat.le_of_ble_eq_true rfl)))
  exact ⟨v2, rfl, rfl⟩
set_option maxRecDepth 100000 in
set_option maxHeartbeats 4000000 in
theorem c_Sb_toString42 (l : Launch) (D : va_G) (tys : List (ClassId × FieldType)) (tc : Nat → ClassId) (hty : ∀ i : Nat, i < 4 → tys[i]? = some (tc i, vx_ty i)) (b v : Nat) (ml : Int32) (M9 : Nat) (a : Nat → Int32) (L : List Nat) (hL : sbI a L) (hf : sb_Fit a) (hm : L.length ≤ M9 ∧ 16 ≤ M9 ∧ M9 ≤ 100) (hn : L.length < 16) : Kt l y_Sb_toString42 (yw y_Sb_toString42 b_Sb_toString42 1 (some (.object "java/lang/String"))) 5 151 2 104 D cls tys csF [.ref b] (sbW tc b v ml L.length M9 a) (fun r w => ∃ t v2, r = some (.ref t) ∧ w = [(t, .inr (10, [.ref v2, .int 0, .int 0, .int 0])), (b, .inr (11, [.ref v, .int 0, .int ml, .int (nI L.length)])), (v, .inl (tc 1, M9, .inl a)), (v2, .inl (tc 1, L.length, .inl (va_cpy a (fun _ => 0) 0 0 L.length)))]) := by
  refine Kt.of csF_ro (by decide) rfl hty (Nat.le_of_ble_eq_true rfl) ?_
  intro p e s m args below meth c0 A hC hr hlk hnm hF
  have hFt : vx_Ft y_Sb_toString42.cls (yw y_Sb_toString42 b_Sb_toString42 1 (some (.object "java/lang/String"))) cls cty [] := (fun q h => by cases h)
  have hini : false = true → meth.name = "<init>" := fun h => by cases h
  refine vx_go hC hFt hini (vx_ends hC hr hlk) jc_Sb_toString42 0 (by decide) rfl ?_
  refine sx_new hC (ci := 10) rfl wk_Sb_18 wn_St wz_St (fs := [.null, .int 0, .int 0, .int 0]) (fun j hj => by rcases (show j = 0 ∨ j = 1 ∨ j = 2 ∨ j = 3 by omega) with rfl | rfl | rfl | rfl <;> rfl) ⟨by decide, by decide⟩ (fun t => ?_)
  refine And.intro rfl ?_
  refine sx_callI (wr := []) (wc := [(t, .inr (10, [.null, .int 0, .int 0, .int 0])), (b, .inr (11, [.ref v, .int 0, .int ml, .int (nI L.length)])), (v, .inl (tc 1, M9, .inl a))]) hC (c_St_init53 l D tys tc hty t b v ml M9 a L hL hf hm hn) (cw_I2 wm_St_init53 wl_Sb_137 wi_St_init53 rfl hC.2.2.2.2.1 ⟨by decide, by decide⟩) [2, 0, 1] [] rfl rfl rfl rfl (by decide) (vx_ro (wc := [(t, .inr (10, [.null, .int 0, .int 0, .int 0])), (b, .inr (11, [.ref v, .int 0, .int ml, .int (nI L.length)])), (v, .inl (tc 1, M9, .inl a))]) csF_ro hC.2.2.2.2.2.2.1 hF [2, 0, 1] rfl) rfl rfl (Nat.le_of_ble_eq_true rfl) ⟨by decide, by decide⟩ (fun r' w' hp => ?_)
  obtain ⟨v2, rfl, rfl⟩ := hp
  refine And.intro (trivial) (And.intro ?_ (And.intro (Nat.le_of_ble_eq_true rfl) (Nat.le_of_ble_eq_true rfl)))
  exact ⟨t, v2, rfl, rfl⟩
