/-! indexOf; tokens: by program (wip/whole/gen/p18.py) -/
theorem sb_inj {a b : Nat} (ha : a < 256) (hb : b < 256) : sb_b a = sb_b b ↔ a = b := by
  refine ⟨fun h => ?_, fun h => by rw [h]⟩
  have h1 := (sb_byte a ha).1
  rw [h, (sb_byte b hb).1] at h1
  exact ((nI_eq (by omega) (by omega)).mp h1).symm
section
variable {p : Program} {l : Launch} {e : Env} {R : Room} {s : State} {m : MethodId} {args : Array Value} {below : List Frame} {meth : Method} {c : Code} {cc : ByteArray} {nL : Nat} {D : va_G} {tys : List (ClassId × FieldType)} {A : Nat → Prop} {tc : Nat → ClassId} {Q : State → Prop} {rest : List Value} {k n : Nat} {K : List Value → va_W → Nat → Nat → Prop} {y0 : MethodName} {b0 : ByteArray} {n0 index : Nat} {r0 : Option FieldType} {own : String} {ws : va_W} {x y : Int32}
theorem wm_max : Cond.static Lib.Math.max.name ∈ gw ∧ Cond.initialized "java/lang/Math" ∈ gw ∧ Cond.code Lib.Math.max.name Lib.Math.max.code 2 (some .int) ∈ gw := ⟨gw_i 345 (by decide +kernel) (by decide +kernel), gw_i 17 (by decide +kernel) (by decide +kernel), gw_i 346 (by decide +kernel) (by decide +kernel)⟩
theorem wm_min : Cond.static Lib.Math.min.name ∈ gw ∧ Cond.initialized "java/lang/Math" ∈ gw ∧ Cond.code Lib.Math.min.name Lib.Math.min.code 2 (some .int) ∈ gw := ⟨gw_i 363 (by decide +kernel) (by decide +kernel), gw_i 17 (by decide +kernel) (by decide +kernel), gw_i 364 (by decide +kernel) (by decide +kernel)⟩
theorem sx_mmax (hC : Cx p s m args c cc nL own (yw y0 b0 n0 r0) D cls tys A tc) (hl : Cond.methodLink own index Lib.Math.max.name ∈ gw) (hfr : 1 ≤ R.frames) (hlo : (rest.map fun v => v.category).sum + 13 ≤ R.locals) (hkn : k ≤ R.cells ∧ n ≤ R.slots) (kk : K (.int (if x < y then y else x) :: rest) ws k n) : vx_SX cc (Vx p l e R s m args below meth c nL D cls A Q) (.invokestatic index) 3 (.int y :: .int x :: rest) ws k n K := by
  intro pc lv hdg hK H locs ls hP hD hS hl2
  have g : ∀ {w : Cond}, w ∈ gw → w.before args s = true := fun h => hC.2.2.2.2.1 _ (List.mem_cons_of_mem _ h)
  exact va_mmax hC.1 hC.2.1 (hC.2.2.1.trans hl2.1.symm) hC.2.2.2.1 (g hl) (g wm_max.1) (g wm_max.2.1) (g wm_max.2.2) hfr hlo hkn.1 hkn.2 hdg (hK _ _ _ _ kk H locs ls hP hD hS hl2)
theorem sx_mmin (hC : Cx p s m args c cc nL own (yw y0 b0 n0 r0) D cls tys A tc) (hl : Cond.methodLink own index Lib.Math.min.name ∈ gw) (hfr : 1 ≤ R.frames) (hlo : (rest.map fun v => v.category).sum + 13 ≤ R.locals) (hkn : k ≤ R.cells ∧ n ≤ R.slots) (kk : K (.int (if y < x then y else x) :: rest) ws k n) : vx_SX cc (Vx p l e R s m args below meth c nL D cls A Q) (.invokestatic index) 3 (.int y :: .int x :: rest) ws k n K := by
  intro pc lv hdg hK H locs ls hP hD hS hl2
  have g : ∀ {w : Cond}, w ∈ gw → w.before args s = true := fun h => hC.2.2.2.2.1 _ (List.mem_cons_of_mem _ h)
  exact va_mmin hC.1 hC.2.1 (hC.2.2.1.trans hl2.1.symm) hC.2.2.2.1 (g hl) (g wm_min.1) (g wm_min.2.1) (g wm_min.2.2) hfr hlo hkn.1 hkn.2 hdg (hK _ _ _ _ kk H locs ls hP hD hS hl2)
end
/-- an index that is below 0 just when x is not in W -/
def ixP (W : List Nat) (x : Nat) (r : Option Value) : Prop := ∃ v : Int32, r = some (.int v) ∧ (v < 0 ↔ x ∉ W)
theorem ixP_at {W : List Nat} {i x : Nat} (h : i < W.length) (e : W.getD i 0 = x) (hi : i < 2 ^ 31) : ixP W x (some (.int (nI i))) := by
  refine ⟨_, rfl, ⟨fun z => absurd z (nI_pos hi), fun z => absurd ?_ z⟩⟩
  rw [← e, List.getD_eq_getElem?_getD, List.getElem?_eq_getElem h]
  exact List.getElem_mem h
theorem ixP_no {W : List Nat} {x : Nat} (h : ∀ i, i < W.length → ¬ W.getD i 0 = x) : ixP W x (some (.int (-1))) := by
  refine ⟨_, rfl, ⟨fun _ z => ?_, fun _ => by decide⟩⟩
  obtain ⟨i, hi, e⟩ := List.getElem_of_mem z
  exact h i hi (by rw [List.getD_eq_getElem?_getD, List.getElem?_eq_getElem hi]; exact e)
set_option maxRecDepth 100000 in
set_option maxHeartbeats 4000000 in
theorem c_L1_canEncode4 (l : Launch) (D : va_G) (tys : List (ClassId × FieldType)) (tc : Nat → ClassId) (hty : ∀ i : Nat, i < 4 → tys[i]? = some (tc i, vx_ty i)) (x : Nat) (hx : x < 256) : Kt l y_L1_canEncode4 (yw y_L1_canEncode4 b_L1_canEncode4 1 (some .boolean)) 0 0 0 0 D cls tys (fun _ _ _ => True) [.int (nI x)] [] (fun r w => r = some (.int 1) ∧ w = []) := by
  refine Kt.of ro_true (by decide) rfl hty (Nat.le_of_ble_eq_true rfl) ?_
  intro p e s m args below meth c0 A hC hr hlk hnm hF
  have hFt : vx_Ft y_L1_canEncode4.cls (yw y_L1_canEncode4 b_L1_canEncode4 1 (some .boolean)) cls cty [] := (fun q h => by cases h)
  have hini : false = true → meth.name = "<init>" := fun h => by cases h
  refine vx_go hC hFt hini (vx_ends hC hr hlk) jc_L1_canEncode4 0 (by decide) rfl ?_
  refine And.intro (fun c1 => ?_) (fun c1 => ?_)
  · skip
    exact absurd c1 (nI_pos (by omega))
  · skip
    refine And.intro (fun c4 => ?_) (fun c4 => ?_)
    · skip
      exact absurd ((nI_ltI (a := 255) (b := x) (by omega) (by omega)).mp c4) (by omega)
    · skip
      refine vx_go hC hFt hini (vx_ends hC hr hlk) jc_L1_canEncode4 8 (by decide) rfl ?_
      refine And.intro (rfl) (And.intro ?_ (And.intro (Nat.le_refl _) (Nat.le_refl _)))
      exact And.intro rfl rfl
set_option maxRecDepth 100000 in
set_option maxHeartbeats 4000000 in
theorem c_L1_indexOfChar23 (l : Launch) (D : va_G) (tys : List (ClassId × FieldType)) (tc : Nat → ClassId) (hty : ∀ i : Nat, i < 4 → tys[i]? = some (tc i, vx_ty i)) (v : Nat) (W : List Nat) (hWW : isW W) (x : Nat) (hx : x < 256) : Kt l y_L1_indexOfChar23 (yw y_L1_indexOfChar23 b_L1_indexOfChar23 6 (some .int)) 0 0 0 0 D cls tys (fun A U H => csF A U H ∧ bytF v W A U H) [.ref v, .int (nI x), .int (nI 0), .int (nI W.length)] [] (fun r w => ixP W x r ∧ w = []) := by
  refine Kt.of (ro_and csF_ro (bytF_ro v W)) (by decide) rfl hty (Nat.le_of_ble_eq_true rfl) ?_
  intro p e s m args below meth c0 A hC hr hlk hnm hF
  have hFt : vx_Ft y_L1_indexOfChar23.cls (yw y_L1_indexOfChar23 b_L1_indexOfChar23 6 (some .int)) cls cty [] := (fun q h => by cases h)
  have hini : false = true → meth.name = "<init>" := fun h => by cases h
  have hWl := hWW.1
  refine vx_gon hC hFt hini (vx_ends hC hr hlk) jc_L1_indexOfChar23 0 5 (by decide) rfl ?_
  refine Vx.subL (lv' := [(0, .ref v), (1, .int (nI x)), (2, .int (nI 0)), (3, .int (nI W.length)), (4, .int (sb_b x)), (5, .int (nI 0))]) [2, 3, 4, 5, 1, 0] rfl ?_
  obtain ⟨i, hi⟩ : ∃ i : Nat, i = 0 := ⟨_, rfl⟩
  refine Vx.eqs rfl (lv2 := [(0, .ref v), (1, .int (nI x)), (2, .int (nI 0)), (3, .int (nI W.length)), (4, .int (sb_b x)), (5, .int (nI i))]) (by rw [hi]) rfl rfl ?_
  have hall : ∀ j, j < i → ¬ W.getD j 0 = x := fun j hj => by omega
  have hile : i ≤ W.length := by omega
  clear hi
  induction hlen : W.length - i using Nat.strongRecOn generalizing i with
  | _ n ih =>
    refine vx_go hC hFt hini (vx_ends hC hr hlk) jc_L1_indexOfChar23 5 (by decide) rfl ?_
    refine And.intro (fun c7 => ?_) (fun c7 => ?_)
    · skip
      have c7 := (nI_leI (a := W.length) (b := i) (by omega) (by omega)).mp c7
      refine vx_go hC hFt hini (vx_ends hC hr hlk) jc_L1_indexOfChar23 17 (by decide) rfl ?_
      refine And.intro (trivial) (And.intro ?_ (And.intro (Nat.le_refl _) (Nat.le_refl _)))
      exact And.intro (ixP_no (fun j hj => hall j (by omega))) rfl
    · skip
      have c7 : ¬ (W.length ≤ i) := fun z => c7 ((nI_leI (a := W.length) (b := i) (by omega) (by omega)).mpr z)
      refine ⟨_, _, hF.2, vp_in_nI (by omega) (by omega), ?_⟩
      rw [nI_clamp (by omega)]
      refine And.intro (fun c12 => ?_) (fun c12 => ?_)
      · skip
        have c12 : ¬ (W.getD i 0 = x) := fun z => c12 (by rw [z])
        refine vx_go hC hFt hini (vx_ends hC hr hlk) jc_L1_indexOfChar23 15 (by decide) rfl ?_
        refine Vx.subL (lv' := [(0, .ref v), (1, .int (nI x)), (2, .int (nI 0)), (3, .int (nI W.length)), (4, .int (sb_b x)), (5, .int (nI i + 1))]) [1, 2, 3, 4, 5, 0] rfl ?_
        refine Vx.eqs rfl (by rw [nI_1]) rfl rfl (ih (W.length - (i + 1)) (by omega) (i + 1) (fun j hj => ?_) (by omega) rfl)
        by_cases e : j = i
        · rw [e]; exact c12
        · exact hall j (by omega)
      · skip
        have c12 : W.getD i 0 = x := (sb_inj (gd_lt hWW i) hx).mp c12
        refine And.intro (trivial) (And.intro ?_ (And.intro (Nat.le_refl _) (Nat.le_refl _)))
        exact And.intro (ixP_at (by omega) c12 (by omega)) rfl
set_option maxRecDepth 100000 in
set_option maxHeartbeats 4000000 in
theorem c_L1_indexOf22 (l : Launch) (D : va_G) (tys : List (ClassId × FieldType)) (tc : Nat → ClassId) (hty : ∀ i : Nat, i < 4 → tys[i]? = some (tc i, vx_ty i)) (v : Nat) (W : List Nat) (hWW : isW W) (x : Nat) (hx : x < 256) : Kt l y_L1_indexOf22 (yw y_L1_indexOf22 b_L1_indexOf22 4 (some .int)) 1 25 0 0 D cls tys (fun A U H => csF A U H ∧ bytF v W A U H) [.ref v, .int (nI x), .int (nI 0), .int (nI W.length)] [] (fun r w => ixP W x r ∧ w = []) := by
  refine Kt.of (ro_and csF_ro (bytF_ro v W)) (by decide) rfl hty (Nat.le_of_ble_eq_true rfl) ?_
  intro p e s m args below meth c0 A hC hr hlk hnm hF
  have hFt : vx_Ft y_L1_indexOf22.cls (yw y_L1_indexOf22 b_L1_indexOf22 4 (some .int)) cls cty [] := (fun q h => by cases h)
  have hini : false = true → meth.name = "<init>" := fun h => by cases h
  have hWl := hWW.1
  refine vx_go hC hFt hini (vx_ends hC hr hlk) jc_L1_indexOf22 0 (by decide) rfl ?_
  refine calls0 hC (c_L1_canEncode4 l D tys tc hty x hx) trivial wm_L1_canEncode4 wl_L1_88 wt_L1_canEncode4 ⟨by decide, by decide⟩ rfl rfl (Nat.le_of_ble_eq_true rfl) ⟨Nat.zero_le _, Nat.zero_le _⟩ (fun r' hp => ?_)
  subst hp
  refine And.intro (fun c2 => ?_) (fun c2 => ?_)
  · skip
    refine vx_go hC hFt hini (vx_ends hC hr hlk) jc_L1_indexOf22 5 (by decide) rfl ?_
    refine sx_mmax hC (gw_i 645 (by decide +kernel) (by decide +kernel)) (by decide) (by decide) ⟨Nat.zero_le _, Nat.zero_le _⟩ ?_
    rw [if_neg (show ¬ (nI 0 : Int32) < (0, 0, 0, 0, 0).2.2.2.1 by decide)]
    refine ⟨1, _, _, hF.2, ?_⟩
    refine sx_mmin hC (gw_i 646 (by decide +kernel) (by decide +kernel)) (by decide) (by decide) ⟨Nat.zero_le _, Nat.zero_le _⟩ ?_
    rw [ite_self]
    refine And.intro (fun c16 => ?_) (fun c16 => ?_)
    · skip
      refine vx_go hC hFt hini (vx_ends hC hr hlk) jc_L1_indexOf22 19 (by decide) rfl ?_
      refine calls0 hC (c_L1_indexOfChar23 l D tys tc hty v W hWW x hx) hF wm_L1_indexOfChar23 wl_L1_95 wt_L1_indexOfChar23 ⟨by decide, by decide⟩ rfl rfl (Nat.le_of_ble_eq_true rfl) ⟨Nat.zero_le _, Nat.zero_le _⟩ (fun r' hp => ?_)
      obtain ⟨z, rfl, hz⟩ := hp
      refine And.intro (trivial) (And.intro ?_ (And.intro (Nat.le_refl _) (Nat.le_refl _)))
      exact And.intro ⟨z, rfl, hz⟩ rfl
    · skip
      have c16 : W.length = 0 := Nat.eq_zero_of_not_pos (fun z => c16 (nI_lt z (by omega)))
      refine And.intro (trivial) (And.intro ?_ (And.intro (Nat.le_refl _) (Nat.le_refl _)))
      exact And.intro (ixP_no (fun j hj => by omega)) rfl
  · skip
    exact absurd c2 (by decide)
set_option maxRecDepth 100000 in
set_option maxHeartbeats 4000000 in
theorem c_St_indexOf80 (l : Launch) (D : va_G) (tys : List (ClassId × FieldType)) (tc : Nat → ClassId) (hty : ∀ i : Nat, i < 4 → tys[i]? = some (tc i, vx_ty i)) (a : Nat) (W : List Nat) (hWW : isW W) (x : Nat) (hx : x < 256) : Kt l y_St_indexOf80 (yw y_St_indexOf80 b_St_indexOf80 3 (some .int)) 2 48 0 0 D cls tys (tF a W) [.ref a, .int (nI x), .int (nI 0)] [] (fun r w => ixP W x r ∧ w = []) := by
  refine Kt.of (tF_ro a W) (by decide) rfl hty (Nat.le_of_ble_eq_true rfl) ?_
  intro p e s m args below meth c0 A hC hr hlk hnm hF
  have hFt : vx_Ft y_St_indexOf80.cls (yw y_St_indexOf80 b_St_indexOf80 3 (some .int)) cls cty [] := (fun q h => by cases h)
  have hini : false = true → meth.name = "<init>" := fun h => by cases h
  have hF0 := hF
  obtain ⟨hcs, hO, hco, v, hv, hb⟩ := hF
  refine vx_go hC hFt hini (vx_ends hC hr hlk) jc_St_indexOf80 0 (by decide) rfl ?_
  refine callv0 hC (c_St_isLatin1154 l D tys tc hty a W hWW) hF0 hO wm_St_isLatin1154 wl_St_492 wi_St_isLatin1154 ws_St_St_isLatin1154 ⟨by decide, by decide⟩ rfl rfl (Nat.le_of_ble_eq_true rfl) ⟨Nat.zero_le _, Nat.zero_le _⟩ (fun r' hp => ?_)
  subst hp
  refine And.intro (fun c2 => ?_) (fun c2 => ?_)
  · skip
    exact absurd c2 (by decide)
  · skip
    refine ⟨_, ⟨"java/lang/String", "value", "[B", "java/lang/String", hv, Or.inl (hC.2.2.2.2.1 _ (List.mem_cons_of_mem _ wf_St_9)), fun _ z => z⟩, ?_⟩
    refine callv0 hC (c_St_length54 l D tys tc hty a W hWW) hF0 hO wm_St_length54 wl_St_505 wi_St_length54 ws_St_St_length54 ⟨by decide, by decide⟩ rfl rfl (Nat.le_of_ble_eq_true rfl) ⟨Nat.zero_le _, Nat.zero_le _⟩ (fun r' hp => ?_)
    subst hp
    refine calls0 hC (c_L1_indexOf22 l D tys tc hty v W hWW x hx) ⟨hcs, hb⟩ wm_L1_indexOf22 wl_St_637 wt_L1_indexOf22 ⟨by decide, by decide⟩ rfl rfl (Nat.le_of_ble_eq_true rfl) ⟨Nat.zero_le _, Nat.zero_le _⟩ (fun r' hp => ?_)
    obtain ⟨z, rfl, hz⟩ := hp
    refine vx_go hC hFt hini (vx_ends hC hr hlk) jc_St_indexOf80 18 (by decide) rfl ?_
    refine And.intro (trivial) (And.intro ?_ (And.intro (Nat.le_refl _) (Nat.le_refl _)))
    exact And.intro ⟨z, rfl, hz⟩ rfl
set_option maxRecDepth 100000 in
set_option maxHeartbeats 4000000 in
theorem c_St_indexOf79 (l : Launch) (D : va_G) (tys : List (ClassId × FieldType)) (tc : Nat → ClassId) (hty : ∀ i : Nat, i < 4 → tys[i]? = some (tc i, vx_ty i)) (a : Nat) (W : List Nat) (hWW : isW W) (x : Nat) (hx : x < 256) : Kt l y_St_indexOf79 (yw y_St_indexOf79 b_St_indexOf79 2 (some .int)) 3 70 0 0 D cls tys (tF a W) [.ref a, .int (nI x)] [] (fun r w => ixP W x r ∧ w = []) := by
  refine Kt.of (tF_ro a W) (by decide) rfl hty (Nat.le_of_ble_eq_true rfl) ?_
  intro p e s m args below meth c0 A hC hr hlk hnm hF
  have hFt : vx_Ft y_St_indexOf79.cls (yw y_St_indexOf79 b_St_indexOf79 2 (some .int)) cls cty [] := (fun q h => by cases h)
  have hini : false = true → meth.name = "<init>" := fun h => by cases h
  have hF0 := hF
  obtain ⟨hcs, hO, hco, v, hv, hb⟩ := hF
  refine vx_go hC hFt hini (vx_ends hC hr hlk) jc_St_indexOf79 0 (by decide) rfl ?_
  refine callv0 hC (c_St_indexOf80 l D tys tc hty a W hWW x hx) hF0 hO wm_St_indexOf80 wl_St_633 wi_St_indexOf80 ws_St_St_indexOf80 ⟨by decide, by decide⟩ rfl rfl (Nat.le_of_ble_eq_true rfl) ⟨Nat.zero_le _, Nat.zero_le _⟩ (fun r' hp => ?_)
  obtain ⟨z, rfl, hz⟩ := hp
  refine And.intro (trivial) (And.intro ?_ (And.intro (Nat.le_refl _) (Nat.le_refl _)))
  exact And.intro ⟨z, rfl, hz⟩ rfl
/-- a constant text of a class's pool -/
def kcF (own : String) (idx : Nat) (tx : String) (q : Nat) (W : List Nat) : (Nat → Prop) → State → Heap → Prop := fun A U H => vk_R own idx tx q U ∧ tF q W A U H
theorem kcF_ro (own : String) (idx : Nat) (tx : String) (q : Nat) (W : List Nat) : RO (kcF own idx tx q W) := ⟨fun _ _ _ _ ha h => ⟨h.1.warm ha, (tF_ro q W).1 _ _ _ _ ha h.2⟩, fun _ _ _ _ hq h => ⟨h.1, (tF_ro q W).2.1 _ _ _ _ hq h.2⟩, fun _ _ _ _ hq h => ⟨h.1, (tF_ro q W).2.2 _ _ _ _ hq h.2⟩⟩
def tokS : String := "abcdefghijklmnopqrstuvwxyzABCDEFGHIJKLMNOPQRSTUVWXYZ0123456789!#$%&'*+-.^_|~`"
def tokL : List Nat := [97, 98, 99, 100, 101, 102, 103, 104, 105, 106, 107, 108, 109, 110, 111, 112, 113, 114, 115, 116, 117, 118, 119, 120, 121, 122, 65, 66, 67, 68, 69, 70, 71, 72, 73, 74, 75, 76, 77, 78, 79, 80, 81, 82, 83, 84, 85, 86, 87, 88, 89, 90, 48, 49, 50, 51, 52, 53, 54, 55, 56, 57, 33, 35, 36, 37, 38, 39, 42, 43, 45, 46, 94, 95, 124, 126, 96]
theorem tokL_ok : isW tokL := ⟨by decide, by decide⟩
def isTk (x : Nat) : Bool := decide (x ∈ tokL)
set_option maxRecDepth 100000 in
set_option maxHeartbeats 4000000 in
theorem c_Rd_takeToken (l : Launch) (D : va_G) (tys : List (ClassId × FieldType)) (tc : Nat → ClassId) (hty : ∀ i : Nat, i < 4 → tys[i]? = some (tc i, vx_ty i)) (ci : Nat) (hci : ci < 5) (h ra sa : Nat) (ex : List Value) (T rs : List Nat) (sd : Nat → Int32) (ss : Nat) (hT : isT T) (hs : rs <:+ T) (q : Nat) : Kt l y_Rd_takeToken (yw y_Rd_takeToken b_Rd_takeToken 1 (some .boolean)) 4 91 0 0 D cls tys (fun A U H => rdF ra T A U H ∧ kcF "OriginDesk$Reader" 62 tokS q tokL A U H) [.ref h] (rdW tc ci h ra sa ex T rs sd ss) (fun r w => r = some (.int (bI !(rs.takeWhile isTk).isEmpty)) ∧ ∃ sd2, sdIs sd2 (rs.takeWhile isTk) ∧ w = rdW tc ci h ra sa ex T (rs.dropWhile isTk) sd2 (rs.takeWhile isTk).length) := by
  refine Kt.of (ro_and (rdF_ro ra T) (kcF_ro _ _ _ _ _)) (by decide) rfl hty (Nat.le_of_ble_eq_true rfl) ?_
  intro p e s m args below meth c0 A hC hr hlk hnm hF
  have hFt : vx_Ft y_Rd_takeToken.cls (yw y_Rd_takeToken b_Rd_takeToken 1 (some .boolean)) cls cty ft_Rd := ft_of (fun w h => List.mem_cons_of_mem _ h) fl_Rd_in ft_Rd_b
  have hini : false = true → meth.name = "<init>" := fun h => by cases h
  have hF0 := hF.1
  have hFt0 := hF.2.2
  have hO := hF.2.2.2.1
  obtain ⟨N, f, hrow, hN, hf⟩ := hF.1
  have hTl := hT.1
  rcases (show ci = 0 ∨ ci = 1 ∨ ci = 2 ∨ ci = 3 ∨ ci = 4 by omega) with rfl | rfl | rfl | rfl | rfl
  all_goals
    refine vx_gon hC hFt hini (vx_ends hC hr hlk) jc_Rd_takeToken 0 3 (by decide) rfl ?_
    refine And.intro rfl (And.intro (And.intro rfl rfl) ?_)
    generalize hRF : rs.dropWhile isTk = RF
    generalize hSF : rs.takeWhile isTk = SF
    have hsd := sd_nil sd
    obtain ⟨S, hS0⟩ : ∃ S : List Nat, S = [] := ⟨_, rfl⟩
    rw [← hS0] at hsd
    have hSl : S.length + rs.length ≤ 96 := by have := sfx_le hs; rw [hS0]; simp; omega
    refine Vx.eqs rfl rfl rfl (w2 := rdW tc _ h ra sa ex T rs sd S.length) (by rw [hS0]; rfl) ?_
    replace hSF : S ++ rs.takeWhile isTk = SF := by rw [hS0]; exact hSF
    clear hS0
    induction hlen : rs.length using Nat.strongRecOn generalizing rs S sd with
    | _ n ih =>
      refine vx_go hC hFt hini (vx_ends hC hr hlk) jc_Rd_takeToken 3 (by decide) rfl ?_
      refine And.intro rfl ?_
      refine And.intro rfl ?_
      refine And.intro (fun c7 => ?_) (fun c7 => ?_)
      · skip
        have hle := sfx_le hs
        have hnil : rs = [] := by
          have h2 := (nI_leI (a := T.length) (b := T.length - rs.length) (by omega) (by omega)).mp c7
          exact List.eq_nil_of_length_eq_zero (by omega)
        subst hnil
        have tw_e : ([] : List Nat).takeWhile isTk = [] := rfl
        have dw_e : [] = RF := hRF
        refine vx_go hC hFt hini (vx_ends hC hr hlk) jc_Rd_takeToken 31 (by decide) rfl ?_
        refine And.intro rfl ?_
        refine And.intro (fun c33 => ?_) (fun c33 => ?_)
        · skip
          have c33 : S.length = 0 := Nat.eq_zero_of_not_pos (fun z => absurd c33 (nI_nle z (by omega)))
          refine vx_go hC hFt hini (vx_ends hC hr hlk) jc_Rd_takeToken 36 (by decide) rfl ?_
          refine And.intro (rfl) (And.intro ?_ (And.intro (Nat.le_refl _) (Nat.le_refl _)))
          have e1 : SF = S := by rw [← hSF, tw_e, List.append_nil]
          rw [e1]
          refine And.intro ?_ ⟨sd, hsd, by rw [dw_e]⟩
          rw [List.eq_nil_of_length_eq_zero c33]
          rfl
        · skip
          have c33 : 0 < S.length := Nat.pos_of_ne_zero (fun z => c33 (by rw [z]; exact nI_le (Nat.le_refl 0) (by decide)))
          refine vx_go hC hFt hini (vx_ends hC hr hlk) jc_Rd_takeToken 37 (by decide) rfl ?_
          refine And.intro (rfl) (And.intro ?_ (And.intro (Nat.le_refl _) (Nat.le_refl _)))
          have e1 : SF = S := by rw [← hSF, tw_e, List.append_nil]
          rw [e1]
          refine And.intro ?_ ⟨sd, hsd, by rw [dw_e]⟩
          rw [show S.isEmpty = false by cases S with
            | nil => simp at c33
            | cons _ _ => rfl]
          rfl
      · skip
        have hle := sfx_le hs
        obtain ⟨x, r, hrs⟩ : ∃ x r, rs = x :: r := by
          cases hrs : rs with
          | nil => subst hrs; exact absurd ((nI_leI (a := T.length) (b := T.length - 0) (by omega) (by omega)).mpr (by omega)) c7
          | cons x r => exact ⟨x, r, rfl⟩
        obtain ⟨g1, g2, g3, g4, g5⟩ := sfx_at hs hrs
        have g6 := hT.2 x g5
        subst hrs
        refine ⟨q, Or.inr (Or.inr ⟨_, _, rfl, hF.2.1⟩), ?_⟩
        refine And.intro rfl ?_
        refine And.intro rfl ?_
        refine ⟨N, f, hrow, vp_in_nI (by omega) hN.2, ?_⟩
        rw [nI_clamp (by omega), hf _ g1, g2]
        refine callv0 hC (c_St_indexOf79 l D tys tc hty q tokL tokL_ok x (by omega)) hFt0 hO wm_St_indexOf79 wl_Rd_64 wi_St_indexOf79 ws_St_St_indexOf79 ⟨by decide, by decide⟩ rfl (congrArg (fun z => [Value.int z, Value.ref q]) (sb_byte x (by omega)).2.1) (Nat.le_of_ble_eq_true rfl) ⟨Nat.zero_le _, Nat.zero_le _⟩ (fun r' hp => ?_)
        obtain ⟨z, rfl, hz⟩ := hp
        refine And.intro (fun c16 => ?_) (fun c16 => ?_)
        · skip
          have c16 : isTk x = false := by simpa [isTk] using hz.mp c16
          have tw_e := tw_f (r := r) c16
          have dw_e := (dw_f (r := r) c16).symm.trans hRF
          refine vx_go hC hFt hini (vx_ends hC hr hlk) jc_Rd_takeToken 31 (by decide) rfl ?_
          refine And.intro rfl ?_
          refine And.intro (fun c33 => ?_) (fun c33 => ?_)
          · skip
            have c33 : S.length = 0 := Nat.eq_zero_of_not_pos (fun z => absurd c33 (nI_nle z (by omega)))
            refine vx_go hC hFt hini (vx_ends hC hr hlk) jc_Rd_takeToken 36 (by decide) rfl ?_
            refine And.intro (rfl) (And.intro ?_ (And.intro (Nat.le_refl _) (Nat.le_refl _)))
            have e1 : SF = S := by rw [← hSF, tw_e, List.append_nil]
            rw [e1]
            refine And.intro ?_ ⟨sd, hsd, by rw [dw_e]⟩
            rw [List.eq_nil_of_length_eq_zero c33]
            rfl
          · skip
            have c33 : 0 < S.length := Nat.pos_of_ne_zero (fun z => c33 (by rw [z]; exact nI_le (Nat.le_refl 0) (by decide)))
            refine vx_go hC hFt hini (vx_ends hC hr hlk) jc_Rd_takeToken 37 (by decide) rfl ?_
            refine And.intro (rfl) (And.intro ?_ (And.intro (Nat.le_refl _) (Nat.le_refl _)))
            have e1 : SF = S := by rw [← hSF, tw_e, List.append_nil]
            rw [e1]
            refine And.intro ?_ ⟨sd, hsd, by rw [dw_e]⟩
            rw [show S.isEmpty = false by cases S with
              | nil => simp at c33
              | cons _ _ => rfl]
            rfl
        · skip
          have c16 : isTk x = true := by
            simp only [isTk, decide_eq_true_eq]
            exact Classical.byContradiction (fun y => c16 (hz.mpr y))
          refine And.intro rfl ?_
          refine And.intro rfl ?_
          refine ⟨N, f, hrow, vp_in_nI (by omega) hN.2, ?_⟩
          rw [nI_clamp (by omega), hf _ g1, g2]
          refine rd_call hC hF0 (c_Rd_say l D tys tc hty _ hci h ra sa ex T (x :: r) sd S.length hT hs S hsd rfl (by simp at hSl; omega) x (by omega)) wm_Rd_say wl_Rd_67 wi_Rd_say (hC.2.2.2.2.1 _ (List.mem_cons_of_mem _ (sel_say _ hci))) hci ⟨by decide, by decide⟩ rfl rfl (by decide) ⟨Nat.zero_le _, Nat.zero_le _⟩ (fun r' w1 hp => ?_)
          obtain ⟨rfl, sd2, hsd2, rfl⟩ := hp
          refine And.intro rfl ?_
          refine And.intro rfl ?_
          refine And.intro rfl (And.intro (And.intro rfl rfl) ?_)
          refine Vx.eqs rfl rfl rfl (rd_stepS g4) (ih r.length (by simp at hlen; omega) r sd2 g3 (by rw [← hRF, dw_t c16]) (S ++ [x]) hsd2 (by simp at hSl ⊢; omega) (by rw [← hSF, tw_t c16]; simp) rfl)
