/-! THE JDK's StringBuilder: it grows, it takes characters, numbers, texts, by program (wip/whole/gen/p79.py) -/
def capN (M q : Nat) : Nat := M + (if q - M < M + 2 then M + 2 else q - M)
theorem cap_if {M q : Nat} (h1 : M < q) (h2 : q ≤ 48) : (if nI (q - M) < nI (M + 2) then nI (M + 2) else nI (q - M)) = nI (if q - M < M + 2 then M + 2 else q - M) := by
  by_cases h : q - M < M + 2
  · rw [if_pos h, if_pos ((nI_ltI (by omega) (by omega)).mpr h)]
  · rw [if_neg h, if_neg (fun z => h ((nI_ltI (by omega) (by omega)).mp z))]
theorem cap_le {M q : Nat} (h1 : M < q) (h2 : q ≤ 48) : q ≤ capN M q ∧ M < capN M q ∧ capN M q ≤ 100 := by
  unfold capN
  split <;> omega
theorem sub_le0 {q M : Nat} (hq : q < 2 ^ 30) (hM : M < 2 ^ 30) : nI q - nI M ≤ 0 ↔ q ≤ M := by
  rw [Int32.le_iff_toInt_le, pk_sub_toInt hq hM, Int32.toInt_zero]
  omega
section
variable {p : Program} {l : Launch} {e : Env} {R : Room} {s : State} {m : MethodId} {args : Array Value} {below : List Frame} {meth : Method} {c : Code} {cc : ByteArray} {nL : Nat} {D : va_G} {tys : List (ClassId × FieldType)} {A : Nat → Prop} {tc : Nat → ClassId} {Q : State → Prop} {st rest : List Value} {k n mc ms : Nat} {post : Option Value → va_W → Prop} {F : (Nat → Prop) → State → Heap → Prop} {ret : Option FieldType} {K : List Value → va_W → Nat → Nat → Prop} {y y0 : MethodName} {bytes b0 : ByteArray} {maxL n0 index nA fr lo : Nat} {r0 : Option FieldType} {b : Nat} {As : List Value} {own : String} {ws wc wr : va_W}
set_option maxHeartbeats 1000000 in
/-- a virtual method on an object that is only read -/
theorem callvR (hC : Cx p s m args c cc nL own (yw y0 b0 n0 r0) D cls tys A tc) (hk : Kt l y (yw y bytes maxL ret) fr lo mc ms D cls tys F (.ref b :: As) wc post) (hFc : F A s s.heap) (hO : va_O y.cls b A s s.heap) (hwm : wm y bytes maxL ret nA) (hl : Cond.methodLink own index y ∈ gw) (hi : Cond.instanceMethod y ∈ gw) (hs : Cond.selects y.cls y y ∈ gw) (hR : fr + 1 ≤ R.frames ∧ 8 + (maxL + 11) + lo ≤ R.locals)
    (isC isR : List Nat) (hc : isC.map (fun i => ws[i]?) = wc.map some) (hr : isR.map (fun i => ws[i]?) = wr.map some) (hnC : va_nd isC = true) (hn : va_nd isR = true) (hdis : ∀ i ∈ isR, i ∉ isC) (hlen : As.length = nA) (hst : st = As.reverse ++ .ref b :: rest) (hW : (rest.map fun v => v.category).sum ≤ 8) (hkn : k + mc ≤ R.cells ∧ n + ms ≤ R.slots)
    (kk : ∀ (r : Option Value) (w1 : va_W), post r w1 → K (r.toList ++ rest) (wr ++ w1) (k + mc) (n + ms)) : vx_SX cc (Vx p l e R s m args below meth c nL D cls A Q) (.invokevirtual index) 3 st ws k n K := by
  intro pc lv hdg hK
  subst hst
  have cw := cw_V (fr := fr) (lo := lo) (mc := mc) (ms := ms) (R := R) (C := y.cls) hwm hl hi hs hC.2.2.2.2.1 hR
  have hro := vx_ro (ws := ws) (wc := wc) (D := D) (cl := cls) hk.1 hC.2.2.2.2.2.2.1 hFc isC hc
  obtain ⟨hx, hb, hml, hown, hts, hKK, hA, hty⟩ := hC
  refine vx_call hA (rest := rest) (wc := wc) (wr := wr) (mc := mc) (ms := ms) (post := post) (a := (Value.ref b :: As).toArray) (fun H locs ls hP hD hS hl => ?_) isC isR hc hr hn hdis (fun r w1 hp => hK _ _ _ _ (kk r w1 hp))
  have hPc : va_P D cls wc H := va_P.sub2 hc hP
  have hDc := hD.sub isC hnC hc
  exact va_runV (As := As) (rest := rest) ⟨hx, hb, hml, hown, hts⟩ (hk.2 H.size) cw ⟨Kp.blind hk.1, va_Orecv hO hS, fun U hU hW => ⟨rfl, by rw [hU], by rw [hU]; exact hPc, va_K.moved hW.alike hKK, hDc.weaken (fun _ _ _ _ => trivial), by rw [hU]; exact hk.1.1 _ s U H hW (hro H locs hP hD hS)⟩⟩ rfl hlen hl.1 rfl (lv_room hW) hdg hkn
end
set_option maxRecDepth 100000 in
set_option maxHeartbeats 4000000 in
theorem c_Su_newLength27 (l : Launch) (D : va_G) (tys : List (ClassId × FieldType)) (tc : Nat → ClassId) (hty : ∀ i : Nat, i < 4 → tys[i]? = some (tc i, vx_ty i)) (M9 q9 : Nat) (hm : M9 < q9) (hq : q9 ≤ 48) : Kt l y_Su_newLength27 (yw y_Su_newLength27 b_Su_newLength27 4 (some .int)) 1 30 0 0 D cls tys (fun _ _ _ => True) [.int (nI M9), .int (nI (q9 - M9)), .int (nI (M9 + 2))] [] (fun r w => r = some (.int (nI (capN M9 q9))) ∧ w = []) := by
  refine Kt.of ro_true (by decide) rfl hty (Nat.le_of_ble_eq_true rfl) ?_
  intro p e s m args below meth c0 A hC hr hlk hnm hF
  have hFt : vx_Ft y_Su_newLength27.cls (yw y_Su_newLength27 b_Su_newLength27 4 (some .int)) cls cty [] := (fun q h => by cases h)
  have hini : false = true → meth.name = "<init>" := fun h => by cases h
  have hcap := cap_le hm hq
  refine vx_go hC hFt hini (vx_ends hC hr hlk) jc_Su_newLength27 0 (by decide) rfl ?_
  refine sx_mmax hC wl_Su_194 (by decide) (Nat.le_of_ble_eq_true rfl) ⟨Nat.zero_le _, Nat.zero_le _⟩ ?_
  rw [cap_if hm hq]
  refine And.intro (fun c8 => ?_) (fun c8 => ?_)
  · skip
    rw [nI_add] at c8
    exact absurd c8 (show ¬ nI (capN M9 q9) ≤ nI 0 from nI_nle (by omega) (by omega))
  · skip
    refine And.intro (Or.inl ⟨_, rfl, hC.2.2.2.2.1 _ (List.mem_cons_of_mem _ wc_Su_200)⟩) ?_
    refine And.intro (fun c11 => ?_) (fun c11 => ?_)
    · skip
      rw [nI_add] at c11
      exact absurd c11 (show ¬ nI 2147483639 < nI (capN M9 q9) from nI_nlt (by omega) (by decide))
    · skip
      refine And.intro (trivial) (And.intro ?_ (And.intro (Nat.le_refl _) (Nat.le_refl _)))
      refine And.intro ?_ rfl
      rw [nI_add]
      rfl
set_option maxRecDepth 100000 in
set_option maxHeartbeats 4000000 in
theorem c_Ab_newCapacity10 (l : Launch) (D : va_G) (tys : List (ClassId × FieldType)) (tc : Nat → ClassId) (hty : ∀ i : Nat, i < 4 → tys[i]? = some (tc i, vx_ty i)) (b v : Nat) (ml : Int32) (n9 M9 : Nat) (a : Nat → Int32) (q9 : Nat) (hm : M9 < q9) (hq : q9 ≤ 48) : Kt l y_Ab_newCapacity10 (yw y_Ab_newCapacity10 b_Ab_newCapacity10 6 (some .int)) 2 53 0 0 D cls tys (fun _ _ _ => True) [.ref b, .int (nI q9)] (sbW tc b v ml n9 M9 a) (fun r w => r = some (.int (nI (capN M9 q9))) ∧ w = (sbW tc b v ml n9 M9 a)) := by
  refine Kt.of ro_true (by decide) rfl hty (Nat.le_of_ble_eq_true rfl) ?_
  intro p e s m args below meth c0 A hC hr hlk hnm hF
  have hFt : vx_Ft y_Ab_newCapacity10.cls (yw y_Ab_newCapacity10 b_Ab_newCapacity10 6 (some .int)) cls cty ft_Ab := ft_of (fun w h => List.mem_cons_of_mem _ h) fl_Ab_in ft_Ab_b
  have hini : false = true → meth.name = "<init>" := fun h => by cases h
  have hcap := cap_le hm hq
  refine vx_go hC hFt hini (vx_ends hC hr hlk) jc_Ab_newCapacity10 0 (by decide) rfl ?_
  refine And.intro rfl ?_
  refine And.intro rfl (And.intro ⟨1, by decide, rfl⟩ ?_)
  refine And.intro rfl ?_
  refine And.intro rfl ?_
  refine calls0 hC (c_Su_newLength27 l D tys tc hty M9 q9 hm hq) trivial wm_Su_newLength27 wl_Ab_114 wt_Su_newLength27 ⟨by decide, by decide⟩ rfl (show [Value.int (nI M9 + ((2 : Int32) <<< ((0 : Int32) &&& 31))), Value.int ((nI q9 <<< ((0 : Int32) &&& 31)) - nI M9), Value.int (nI M9)] = [Value.int (nI (M9 + 2)), Value.int (nI (q9 - M9)), Value.int (nI M9)] by rw [sb_shl0, sb_shl0, pk_sub (by omega)]; rw [show nI M9 + 2 = nI (M9 + 2) from nI_add M9 2]) (Nat.le_of_ble_eq_true rfl) ⟨Nat.zero_le _, Nat.zero_le _⟩ (fun r' hp => ?_)
  subst hp
  refine And.intro (Or.inl ⟨_, rfl, hC.2.2.2.2.1 _ (List.mem_cons_of_mem _ wc_Ab_39)⟩) ?_
  refine And.intro (fun c25 => ?_) (fun c25 => ?_)
  · skip
    refine vx_go hC hFt hini (vx_ends hC hr hlk) jc_Ab_newCapacity10 31 (by decide) rfl ?_
    refine And.intro rfl ?_
    refine And.intro (trivial) (And.intro ?_ (And.intro (Nat.le_refl _) (Nat.le_refl _)))
    refine And.intro ?_ rfl
    rw [sb_shr0]
  · skip
    exact absurd ((nI_eq (b := 2147483647) (by omega) (by decide)).mp c25) (by omega)
set_option maxRecDepth 100000 in
set_option maxHeartbeats 4000000 in
theorem c_Ar_copyOf121 (l : Launch) (D : va_G) (tys : List (ClassId × FieldType)) (tc : Nat → ClassId) (hty : ∀ i : Nat, i < 4 → tys[i]? = some (tc i, vx_ty i)) (v M9 : Nat) (a : Nat → Int32) (q9 : Nat) (hm : M9 < q9) (hq : q9 ≤ 100) (hf : sb_Fit a) : Kt l y_Ar_copyOf121 (yw y_Ar_copyOf121 b_Ar_copyOf121 3 (some (.array .byte))) 1 60 1 100 D cls tys (fun _ _ _ => True) [.ref v, .int (nI q9)] [(v, .inl (tc 1, M9, .inl a))] (fun r w => ∃ v2, r = some (.ref v2) ∧ w = [(v, .inl (tc 1, M9, .inl a)), (v2, .inl (tc 1, q9, .inl (va_cpy a (fun _ => 0) 0 0 M9)))]) := by
  refine Kt.of ro_true (by decide) rfl hty (Nat.le_of_ble_eq_true rfl) ?_
  intro p e s m args below meth c0 A hC hr hlk hnm hF
  have hFt : vx_Ft y_Ar_copyOf121.cls (yw y_Ar_copyOf121 b_Ar_copyOf121 3 (some (.array .byte))) cls cty [] := (fun q h => by cases h)
  have hini : false = true → meth.name = "<init>" := fun h => by cases h
  refine vx_go hC hFt hini (vx_ends hC hr hlk) jc_Ar_copyOf121 0 (by decide) rfl ?_
  refine And.intro rfl (And.intro ⟨1, by decide, rfl⟩ ?_)
  refine And.intro (fun c3 => ?_) (fun c3 => ?_)
  · skip
    refine vx_go hC hFt hini (vx_ends hC hr hlk) jc_Ar_copyOf121 8 (by decide) rfl ?_
    refine sx_newI hC (y := 1) (N := q9) (by decide) rfl wa_byte rfl (fun z => z) rfl (by omega) (by show q9 * 1 ≤ _; omega) ⟨Nat.le_refl _, (show 0 + q9 ≤ 100 by omega)⟩ (fun v2 => ?_)
    refine And.intro rfl (And.intro ⟨1, by decide, rfl⟩ ?_)
    refine sx_mmin hC wl_Ar_304 (by decide) (Nat.le_of_ble_eq_true rfl) ⟨Nat.le_refl _, (show 0 + q9 ≤ 100 by omega)⟩ ?_
    rw [if_neg (nI_nlt (by omega) (by omega))]
    refine sx_copy hC wl_Ar_150 0 1 1 (by decide) rfl rfl rfl (sp := 0) (dp := 0) (w := M9) rfl rfl rfl ⟨by omega, by omega⟩ ⟨by omega, by omega⟩ (fun i _ => hf _) (by decide) (Nat.le_of_ble_eq_true rfl) ?_
    refine And.intro (trivial) (And.intro ?_ (And.intro (Nat.le_refl _) (show 0 + q9 ≤ 100 by omega)))
    exact ⟨_, rfl, rfl⟩
  · skip
    exact absurd ((nI_eq (by omega) (by omega)).mp c3) (by omega)
set_option maxRecDepth 100000 in
set_option maxHeartbeats 4000000 in
theorem c_Ab_isLatin168 (l : Launch) (D : va_G) (tys : List (ClassId × FieldType)) (tc : Nat → ClassId) (hty : ∀ i : Nat, i < 4 → tys[i]? = some (tc i, vx_ty i)) (b v : Nat) (ml : Int32) (n9 M9 : Nat) (a : Nat → Int32) : Kt l y_Ab_isLatin168 (yw y_Ab_isLatin168 b_Ab_isLatin168 1 (some .boolean)) 0 0 0 0 D cls tys csF [.ref b] (sbW tc b v ml n9 M9 a) (fun r w => r = some (.int 1) ∧ w = (sbW tc b v ml n9 M9 a)) := by
  refine Kt.of csF_ro (by decide) rfl hty (Nat.le_of_ble_eq_true rfl) ?_
  intro p e s m args below meth c0 A hC hr hlk hnm hF
  have hFt : vx_Ft y_Ab_isLatin168.cls (yw y_Ab_isLatin168 b_Ab_isLatin168 1 (some .boolean)) cls cty ft_Ab := ft_of (fun w h => List.mem_cons_of_mem _ h) fl_Ab_in ft_Ab_b
  have hini : false = true → meth.name = "<init>" := fun h => by cases h
  refine vx_go hC hFt hini (vx_ends hC hr hlk) jc_Ab_isLatin168 0 (by decide) rfl ?_
  refine ⟨_, ⟨"java/lang/String", "COMPACT_STRINGS", "Z", "java/lang/String", hF.1, Or.inl (hC.2.2.2.2.1 _ (List.mem_cons_of_mem _ wf_Ab_18)), fun _ z => z⟩, ?_⟩
  refine And.intro (fun c1 => ?_) (fun c1 => ?_)
  · skip
    exact absurd c1 (by decide)
  · skip
    refine And.intro rfl ?_
    refine And.intro (fun c4 => ?_) (fun c4 => ?_)
    · skip
      exact absurd rfl c4
    · skip
      refine vx_go hC hFt hini (vx_ends hC hr hlk) jc_Ab_isLatin168 8 (by decide) rfl ?_
      refine And.intro (rfl) (And.intro ?_ (And.intro (Nat.le_refl _) (Nat.le_refl _)))
      exact And.intro rfl rfl
set_option maxRecDepth 100000 in
set_option maxHeartbeats 4000000 in
theorem c_Ab_ensureCapacityInternal9 (l : Launch) (D : va_G) (tys : List (ClassId × FieldType)) (tc : Nat → ClassId) (hty : ∀ i : Nat, i < 4 → tys[i]? = some (tc i, vx_ty i)) (b v : Nat) (ml : Int32) (n9 M9 : Nat) (a : Nat → Int32) (q9 : Nat) (hm : M9 ≤ 100) (hq : q9 ≤ 48) (hf : sb_Fit a) : Kt l y_Ab_ensureCapacityInternal9 (yw y_Ab_ensureCapacityInternal9 b_Ab_ensureCapacityInternal9 3 none) 3 82 1 100 D cls tys (fun _ _ _ => True) [.ref b, .int (nI q9)] (sbW tc b v ml n9 M9 a) (fun r w => r = none ∧ ∃ v2 m2 a2, w = (sbW tc b v2 ml n9 m2 a2) ∧ (∀ j, j < M9 → a2 j = a j) ∧ sb_Fit a2 ∧ q9 ≤ m2 ∧ M9 ≤ m2 ∧ m2 ≤ 100) := by
  refine Kt.of ro_true (by decide) rfl hty (Nat.le_of_ble_eq_true rfl) ?_
  intro p e s m args below meth c0 A hC hr hlk hnm hF
  have hFt : vx_Ft y_Ab_ensureCapacityInternal9.cls (yw y_Ab_ensureCapacityInternal9 b_Ab_ensureCapacityInternal9 3 none) cls cty ft_Ab := ft_of (fun w h => List.mem_cons_of_mem _ h) fl_Ab_in ft_Ab_b
  have hini : false = true → meth.name = "<init>" := fun h => by cases h
  refine vx_gon hC hFt hini (vx_ends hC hr hlk) jc_Ab_ensureCapacityInternal9 0 22 (by decide) rfl ?_
  refine And.intro rfl ?_
  refine And.intro rfl (And.intro ⟨1, by decide, rfl⟩ ?_)
  refine And.intro rfl ?_
  refine And.intro (fun c10 => ?_) (fun c10 => ?_)
  · skip
    have c10 : q9 ≤ M9 := by
      rw [sb_shr0] at c10
      exact (sub_le0 (by omega) (by omega)).mp c10
    refine vx_go hC hFt hini (vx_ends hC hr hlk) jc_Ab_ensureCapacityInternal9 22 (by decide) rfl ?_
    refine And.intro (trivial) (And.intro ?_ (And.intro (by decide) (by decide)))
    exact ⟨rfl, v, M9, a, rfl, fun _ _ => rfl, hf, c10, Nat.le_refl _, hm⟩
  · skip
    have c10 : M9 < q9 := Nat.not_le.mp (fun z => c10 (by rw [sb_shr0]; exact (sub_le0 (by omega) (by omega)).mpr z))
    have hcap := cap_le c10 hq
    refine And.intro rfl ?_
    refine bx_call hC (c_Ab_newCapacity10 l D tys tc hty b v ml n9 M9 a q9 c10 hq) trivial (cw_V wm_Ab_newCapacity10 wl_Ab_104 wi_Ab_newCapacity10 ws_Sb_Ab_newCapacity10 hC.2.2.2.2.1 ⟨by decide, by decide⟩) rfl rfl rfl rfl (Nat.le_of_ble_eq_true rfl) ⟨by decide, by decide⟩ (fun r' w' hp => ?_)
    obtain ⟨rfl, rfl⟩ := hp
    refine And.intro rfl ?_
    refine sx_callS (wr := [(b, .inr (11, [.ref v, .int 0, .int ml, .int (nI n9)]))]) hC (c_Ar_copyOf121 l D tys tc hty v M9 a (capN M9 q9) hcap.2.1 hcap.2.2 hf) (cw_S wm_Ar_copyOf121 wl_Ab_108 wt_Ar_copyOf121 hC.2.2.2.2.1 ⟨by decide, by decide⟩) [1] [0] rfl rfl rfl rfl (by decide) (fun _ _ _ _ _ => trivial) rfl (show [Value.int (nI (capN M9 q9) <<< ((0 : Int32) &&& 31)), Value.ref v, Value.ref b] = [Value.int (nI (capN M9 q9)), Value.ref v, Value.ref b] by rw [sb_shl0]) (Nat.le_of_ble_eq_true rfl) ⟨by decide, by decide⟩ (fun r' w' hp => ?_)
    obtain ⟨v2, rfl, rfl⟩ := hp
    refine And.intro rfl (And.intro (And.intro rfl rfl) ?_)
    refine Vx.sub [] rfl [0, 2] rfl (ws2 := (sbW tc b v2 ml n9 (capN M9 q9) (va_cpy a (fun _ => 0) 0 0 M9))) rfl ?_
    refine vx_go hC hFt hini (vx_ends hC hr hlk) jc_Ab_ensureCapacityInternal9 22 (by decide) rfl ?_
    refine And.intro (trivial) (And.intro ?_ (And.intro (by decide) (by decide)))
    exact ⟨rfl, v2, _, _, rfl, fun j hj => sb_cpy0 hj, sb_fitC hf sb_fit0, hcap.1, Nat.le_of_lt hcap.2.1, hcap.2.2⟩
set_option maxRecDepth 100000 in
set_option maxHeartbeats 4000000 in
theorem c_Ab_append31 (l : Launch) (D : va_G) (tys : List (ClassId × FieldType)) (tc : Nat → ClassId) (hty : ∀ i : Nat, i < 4 → tys[i]? = some (tc i, vx_ty i)) (b v : Nat) (ml : Int32) (M9 : Nat) (a : Nat → Int32) (L : List Nat) (hL : sbI a L) (hf : sb_Fit a) (hm : L.length ≤ M9 ∧ 16 ≤ M9 ∧ M9 ≤ 100) (c : Nat) (hc : c < 256) (hn : L.length + 1 ≤ 48) : Kt l y_Ab_append31 (yw y_Ab_append31 b_Ab_append31 2 (some (.object "java/lang/AbstractStringBuilder"))) 4 104 1 100 D cls tys csF [.ref b, .int (nI c)] (sbW tc b v ml L.length M9 a) (fun r w => r = some (.ref b) ∧ sbO tc b (L ++ [c]) w) := by
  refine Kt.of csF_ro (by decide) rfl hty (Nat.le_of_ble_eq_true rfl) ?_
  intro p e s m args below meth c0 A hC hr hlk hnm hF
  have hFt : vx_Ft y_Ab_append31.cls (yw y_Ab_append31 b_Ab_append31 2 (some (.object "java/lang/AbstractStringBuilder"))) cls cty ft_Ab := ft_of (fun w h => List.mem_cons_of_mem _ h) fl_Ab_in ft_Ab_b
  have hini : false = true → meth.name = "<init>" := fun h => by cases h
  have hcs := hF
  refine vx_go hC hFt hini (vx_ends hC hr hlk) jc_Ab_append31 0 (by decide) rfl ?_
  refine And.intro rfl ?_
  refine bx_call hC (c_Ab_ensureCapacityInternal9 l D tys tc hty b v ml L.length M9 a (L.length + 1) hm.2.2 (hn) hf) trivial (cw_V wm_Ab_ensureCapacityInternal9 wl_Ab_100 wi_Ab_ensureCapacityInternal9 ws_Sb_Ab_ensureCapacityInternal9 hC.2.2.2.2.1 ⟨by decide, by decide⟩) rfl rfl rfl (show [Value.int (nI L.length + 1), Value.ref b] = [Value.int (nI (L.length + 1)), Value.ref b] by rw [nI_1]) (Nat.le_of_ble_eq_true rfl) ⟨by decide, by decide⟩ (fun r' w' hp => ?_)
  obtain ⟨rfl, v2, m2, a2, rfl, k1, k2, k3, k4, k5⟩ := hp
  refine bx_call hC (c_Ab_isLatin168 l D tys tc hty b v2 ml L.length m2 a2) hcs (cw_V wm_Ab_isLatin168 wl_Ab_83 wi_Ab_isLatin168 ws_Sb_Ab_isLatin168 hC.2.2.2.2.1 ⟨by decide, by decide⟩) rfl rfl rfl rfl (Nat.le_of_ble_eq_true rfl) ⟨by decide, by decide⟩ (fun r' w' hp => ?_)
  obtain ⟨rfl, rfl⟩ := hp
  refine And.intro (fun c8 => ?_) (fun c8 => ?_)
  · skip
    exact absurd c8 (by decide)
  · skip
    refine calls0 hC (c_L1_canEncode3 l D tys tc hty c hc) trivial wm_L1_canEncode3 wl_Ab_191 wt_L1_canEncode3 ⟨by decide, by decide⟩ rfl rfl (Nat.le_of_ble_eq_true rfl) ⟨by decide, by decide⟩ (fun r' hp => ?_)
    subst hp
    refine And.intro (fun c11 => ?_) (fun c11 => ?_)
    · skip
      exact absurd c11 (by decide)
    · skip
      refine And.intro rfl ?_
      refine And.intro rfl ?_
      refine And.intro rfl ?_
      refine And.intro rfl (And.intro rfl ?_)
      refine And.intro rfl (And.intro (And.intro rfl rfl) ?_)
      rw [nI_1]
      refine And.intro rfl (And.intro rfl (And.intro (vp_in_nI (by omega) (by omega)) ?_))
      rw [nI_clamp (n := L.length) (by omega), show vp_nar .byte (nI c).toInt8.toInt32 = sb_b c from vb_b c]
      refine vx_go hC hFt hini (vx_ends hC hr hlk) jc_Ab_append31 41 (by decide) rfl ?_
      refine And.intro (trivial) (And.intro ?_ (And.intro (Nat.le_of_ble_eq_true rfl) (Nat.le_of_ble_eq_true rfl)))
      refine ⟨rfl, v2, ml, m2, upd a2 L.length (sb_b c), by rw [List.length_append]; rfl, sbI_app hL (fun x hx => by rw [List.mem_singleton] at hx; omega) (fun j hj => by rw [pk_un (by omega)]; exact k1 j (by omega)) (fun i hi => ?_), sb_fitU k2 (sb_fitB c), by rw [List.length_append]; exact k3, by omega, k5⟩
      have hi : i < 1 := hi
      obtain rfl : i = 0 := by omega
      exact pk_us
set_option maxRecDepth 100000 in
set_option maxHeartbeats 4000000 in
theorem c_Sb_append14 (l : Launch) (D : va_G) (tys : List (ClassId × FieldType)) (tc : Nat → ClassId) (hty : ∀ i : Nat, i < 4 → tys[i]? = some (tc i, vx_ty i)) (b v : Nat) (ml : Int32) (M9 : Nat) (a : Nat → Int32) (L : List Nat) (hL : sbI a L) (hf : sb_Fit a) (hm : L.length ≤ M9 ∧ 16 ≤ M9 ∧ M9 ≤ 100) (c : Nat) (hc : c < 256) (hn : L.length + 1 ≤ 48) : Kt l y_Sb_append14 (yw y_Sb_append14 b_Sb_append14 2 (some (.object "java/lang/StringBuilder"))) 5 125 1 100 D cls tys csF [.ref b, .int (nI c)] (sbW tc b v ml L.length M9 a) (fun r w => r = some (.ref b) ∧ sbO tc b (L ++ [c]) w) := by
  refine Kt.of csF_ro (by decide) rfl hty (Nat.le_of_ble_eq_true rfl) ?_
  intro p e s m args below meth c0 A hC hr hlk hnm hF
  have hFt : vx_Ft y_Sb_append14.cls (yw y_Sb_append14 b_Sb_append14 2 (some (.object "java/lang/StringBuilder"))) cls cty [] := (fun q h => by cases h)
  have hini : false = true → meth.name = "<init>" := fun h => by cases h
  refine vx_go hC hFt hini (vx_ends hC hr hlk) jc_Sb_append14 0 (by decide) rfl ?_
  refine bx_super hC (c_Ab_append31 l D tys tc hty b v ml M9 a L hL hf hm c hc hn) hF (cw_SU wm_Ab_append31 wl_Sb_50 wsm_Ab_append31 wsu_Sb wi_Ab_append31 (by decide) hC.2.2.2.2.1 ⟨by decide, by decide⟩) rfl rfl rfl (Nat.le_of_ble_eq_true rfl) ⟨by decide, by decide⟩ (fun r' w' hp => ?_)
  obtain ⟨rfl, hp⟩ := hp
  refine And.intro rfl ?_
  refine And.intro (trivial) (And.intro ?_ (And.intro (Nat.le_of_ble_eq_true rfl) (Nat.le_of_ble_eq_true rfl)))
  exact ⟨rfl, hp⟩
set_option maxRecDepth 100000 in
set_option maxHeartbeats 4000000 in
theorem c_Ab_append32 (l : Launch) (D : va_G) (tys : List (ClassId × FieldType)) (tc : Nat → ClassId) (hty : ∀ i : Nat, i < 4 → tys[i]? = some (tc i, vx_ty i)) (b v : Nat) (ml : Int32) (M9 : Nat) (a : Nat → Int32) (L : List Nat) (hL : sbI a L) (hf : sb_Fit a) (hm : L.length ≤ M9 ∧ 16 ≤ M9 ∧ M9 ≤ 100) (w9 : Nat) (hw9 : w9 < 2 ^ 31) (hn : L.length + (dec w9).length ≤ 48) : Kt l y_Ab_append32 (yw y_Ab_append32 b_Ab_append32 4 (some (.object "java/lang/AbstractStringBuilder"))) 4 104 1 100 D cls tys (fun A U H => csF A U H ∧ dgF A U H) [.ref b, .int (nI w9)] (sbW tc b v ml L.length M9 a) (fun r w => r = some (.ref b) ∧ sbO tc b (L ++ dec w9) w) := by
  refine Kt.of (ro_and csF_ro dgF_ro) (by decide) rfl hty (Nat.le_of_ble_eq_true rfl) ?_
  intro p e s m args below meth c0 A hC hr hlk hnm hF
  have hFt : vx_Ft y_Ab_append32.cls (yw y_Ab_append32 b_Ab_append32 4 (some (.object "java/lang/AbstractStringBuilder"))) cls cty ft_Ab := ft_of (fun w h => List.mem_cons_of_mem _ h) fl_Ab_in ft_Ab_b
  have hini : false = true → meth.name = "<init>" := fun h => by cases h
  have hcs := hF.1
  refine vx_go hC hFt hini (vx_ends hC hr hlk) jc_Ab_append32 0 (by decide) rfl ?_
  refine And.intro rfl ?_
  refine calls0 hC (c_In_stringSize13 l D tys tc hty w9 hw9) trivial wm_In_stringSize13 wl_Ab_245 wt_In_stringSize13 ⟨by decide, by decide⟩ rfl rfl (Nat.le_of_ble_eq_true rfl) ⟨by decide, by decide⟩ (fun r' hp => ?_)
  subst hp
  rw [← dec_dg w9 hw9]
  refine bx_call hC (c_Ab_ensureCapacityInternal9 l D tys tc hty b v ml L.length M9 a (L.length + (dec w9).length) hm.2.2 (hn) hf) trivial (cw_V wm_Ab_ensureCapacityInternal9 wl_Ab_100 wi_Ab_ensureCapacityInternal9 ws_Sb_Ab_ensureCapacityInternal9 hC.2.2.2.2.1 ⟨by decide, by decide⟩) rfl rfl rfl (show [Value.int (nI L.length + nI (dec w9).length), Value.ref b] = [Value.int (nI (L.length + (dec w9).length)), Value.ref b] by rw [nI_add]) (Nat.le_of_ble_eq_true rfl) ⟨by decide, by decide⟩ (fun r' w' hp => ?_)
  obtain ⟨rfl, v2, m2, a2, rfl, k1, k2, k3, k4, k5⟩ := hp
  refine bx_call hC (c_Ab_isLatin168 l D tys tc hty b v2 ml L.length m2 a2) hcs (cw_V wm_Ab_isLatin168 wl_Ab_83 wi_Ab_isLatin168 ws_Sb_Ab_isLatin168 hC.2.2.2.2.1 ⟨by decide, by decide⟩) rfl rfl rfl rfl (Nat.le_of_ble_eq_true rfl) ⟨by decide, by decide⟩ (fun r' w' hp => ?_)
  obtain ⟨rfl, rfl⟩ := hp
  refine And.intro (fun c13 => ?_) (fun c13 => ?_)
  · skip
    exact absurd c13 (by decide)
  · skip
    refine And.intro rfl ?_
    refine sx_callS (wr := [(b, .inr (11, [.ref v2, .int 0, .int ml, .int (nI L.length)]))]) hC (c_In_getChars12 l D tys tc hty v2 m2 a2 w9 (L.length + (dec w9).length) hw9 ⟨k3, by omega⟩ (by omega)) (cw_S wm_In_getChars12 wl_Ab_248 wt_In_getChars12 hC.2.2.2.2.1 ⟨by decide, by decide⟩) [1] [0] rfl rfl rfl rfl (by decide) (vx_ro (wc := [(v2, .inl (tc 1, m2, .inl a2))]) dgF_ro hC.2.2.2.2.2.2.1 hF.2 [1] rfl) rfl (show [Value.ref v2, Value.int (nI L.length + nI (dec w9).length), Value.int (nI w9)] = [Value.ref v2, Value.int (nI (L.length + (dec w9).length)), Value.int (nI w9)] by rw [nI_add]) (Nat.le_of_ble_eq_true rfl) ⟨by decide, by decide⟩ (fun r' w' hp => ?_)
    obtain ⟨⟨z9, rfl⟩, a3, rfl, g1, g2, g3⟩ := hp
    refine And.intro rfl ?_
    refine vx_go hC hFt hini (vx_ends hC hr hlk) jc_Ab_append32 28 (by decide) rfl ?_
    refine And.intro rfl (And.intro (And.intro rfl rfl) ?_)
    refine And.intro (trivial) (And.intro ?_ (And.intro (Nat.le_of_ble_eq_true rfl) (Nat.le_of_ble_eq_true rfl)))
    rw [nI_add]
    refine ⟨rfl, v2, ml, m2, a3, by rw [List.length_append]; rfl, sbI_app hL (dec_b w9 hw9) (fun j hj => ?_) (fun i hi => ?_), g3 k2, by rw [List.length_append]; exact k3, by omega, k5⟩
    · rw [g1 j (by omega)]; exact k1 j (by omega)
    · have := g2 i hi
      rw [Nat.add_sub_cancel] at this
      exact this
set_option maxRecDepth 100000 in
set_option maxHeartbeats 4000000 in
theorem c_Sb_append15 (l : Launch) (D : va_G) (tys : List (ClassId × FieldType)) (tc : Nat → ClassId) (hty : ∀ i : Nat, i < 4 → tys[i]? = some (tc i, vx_ty i)) (b v : Nat) (ml : Int32) (M9 : Nat) (a : Nat → Int32) (L : List Nat) (hL : sbI a L) (hf : sb_Fit a) (hm : L.length ≤ M9 ∧ 16 ≤ M9 ∧ M9 ≤ 100) (w9 : Nat) (hw9 : w9 < 2 ^ 31) (hn : L.length + (dec w9).length ≤ 48) : Kt l y_Sb_append15 (yw y_Sb_append15 b_Sb_append15 2 (some (.object "java/lang/StringBuilder"))) 5 127 1 100 D cls tys (fun A U H => csF A U H ∧ dgF A U H) [.ref b, .int (nI w9)] (sbW tc b v ml L.length M9 a) (fun r w => r = some (.ref b) ∧ sbO tc b (L ++ dec w9) w) := by
  refine Kt.of (ro_and csF_ro dgF_ro) (by decide) rfl hty (Nat.le_of_ble_eq_true rfl) ?_
  intro p e s m args below meth c0 A hC hr hlk hnm hF
  have hFt : vx_Ft y_Sb_append15.cls (yw y_Sb_append15 b_Sb_append15 2 (some (.object "java/lang/StringBuilder"))) cls cty [] := (fun q h => by cases h)
  have hini : false = true → meth.name = "<init>" := fun h => by cases h
  refine vx_go hC hFt hini (vx_ends hC hr hlk) jc_Sb_append15 0 (by decide) rfl ?_
  refine bx_super hC (c_Ab_append32 l D tys tc hty b v ml M9 a L hL hf hm w9 hw9 hn) hF (cw_SU wm_Ab_append32 wl_Sb_53 wsm_Ab_append32 wsu_Sb wi_Ab_append32 (by decide) hC.2.2.2.2.1 ⟨by decide, by decide⟩) rfl rfl rfl (Nat.le_of_ble_eq_true rfl) ⟨by decide, by decide⟩ (fun r' w' hp => ?_)
  obtain ⟨rfl, hp⟩ := hp
  refine And.intro rfl ?_
  refine And.intro (trivial) (And.intro ?_ (And.intro (Nat.le_of_ble_eq_true rfl) (Nat.le_of_ble_eq_true rfl)))
  exact ⟨rfl, hp⟩
