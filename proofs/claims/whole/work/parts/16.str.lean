/-! STRINGS: what is only read of them, and the JDK's own methods, by program (wip/whole/gen/p16.py) -/
theorem ro_and {F G : (Nat → Prop) → State → Heap → Prop} (hF : RO F) (hG : RO G) : RO (fun A U H => F A U H ∧ G A U H) :=
  ⟨fun A u U H ha h => ⟨hF.1 A u U H ha h.1, hG.1 A u U H ha h.2⟩, fun A U H H1 hq h => ⟨hF.2.1 A U H H1 hq h.1, hG.2.1 A U H H1 hq h.2⟩, fun A B U H hq h => ⟨hF.2.2 A B U H hq h.1, hG.2.2 A B U H hq h.2⟩⟩
def csF : (Nat → Prop) → State → Heap → Prop := fun A U H => va_Z "java/lang/String" "COMPACT_STRINGS" "Z" (.int 1) A U H ∧ va_Zq "jdk/internal/util/Preconditions" "SIOOBE_FORMATTER" "Ljava/util/function/BiFunction;" A U H
theorem csF_ro : RO csF := ⟨fun _ _ _ _ ha h => ⟨h.1.moved ha.alike, h.2.moved ha.alike⟩, fun _ _ _ _ hq h => ⟨h.1.kept hq, h.2.kept hq⟩, fun _ _ _ _ hq h => ⟨h.1.narrow hq, h.2.narrow hq⟩⟩
def isW (W : List Nat) : Prop := W.length < 2 ^ 31 ∧ ∀ x ∈ W, x < 256
/-- the bytes of a text -/
def bytF (v : Nat) (W : List Nat) : (Nat → Prop) → State → Heap → Prop := fun A U H => va_T .byte v W.length (fun j => .int (sb_b (W.getD j 0))) A U H
theorem bytF_ro (v : Nat) (W : List Nat) : RO (bytF v W) := ⟨fun _ _ _ _ ha h => va_T.moved ha.alike h, fun _ _ _ _ hq h => va_T.kept h hq, fun _ _ _ _ hq h => va_T.narrow h hq⟩
/-- a text: a String with these characters -/
def strF (a : Nat) (W : List Nat) : (Nat → Prop) → State → Heap → Prop := fun A U H => va_O "java/lang/String" a A U H ∧ va_OF "java/lang/String" "coder" "B" (.int 0) a A U H ∧ ∃ v, va_OF "java/lang/String" "value" "[B" (.ref v) a A U H ∧ bytF v W A U H
theorem strF_ro (a : Nat) (W : List Nat) : RO (strF a W) := by
  refine ⟨fun A u U H ha h => ?_, fun A U H H1 hq h => ?_, fun A B U H hq h => ?_⟩
  · obtain ⟨h1, h2, v, h3, h4⟩ := h
    exact ⟨h1.moved ha.alike, h2.moved ha.alike, v, h3.moved ha.alike, (bytF_ro v W).1 _ _ _ _ ha h4⟩
  · obtain ⟨h1, h2, v, h3, h4⟩ := h
    exact ⟨h1.kept hq, h2.kept hq, v, h3.kept hq, (bytF_ro v W).2.1 _ _ _ _ hq h4⟩
  · obtain ⟨h1, h2, v, h3, h4⟩ := h
    exact ⟨h1.narrow hq, h2.narrow hq, v, h3.narrow hq, (bytF_ro v W).2.2 _ _ _ _ hq h4⟩
def tF (a : Nat) (W : List Nat) : (Nat → Prop) → State → Heap → Prop := fun A U H => csF A U H ∧ strF a W A U H
theorem tF_ro (a : Nat) (W : List Nat) : RO (tF a W) := ro_and csF_ro (strF_ro a W)
theorem gd_lt {W : List Nat} (h : isW W) (k : Nat) : W.getD k 0 < 256 := by
  by_cases e : k < W.length
  · rw [List.getD_eq_getElem?_getD, List.getElem?_eq_getElem e]; exact h.2 _ (List.getElem_mem e)
  · rw [List.getD_eq_getElem?_getD, List.getElem?_eq_none (by omega)]; decide
section
variable {p : Program} {l : Launch} {e : Env} {R : Room} {s : State} {m : MethodId} {args : Array Value} {below : List Frame} {meth : Method} {c : Code} {cc : ByteArray} {nL : Nat} {D : va_G} {tys : List (ClassId × FieldType)} {A : Nat → Prop} {tc : Nat → ClassId} {Q : State → Prop} {st rest : List Value} {k n : Nat} {post : Option Value → Prop} {F : (Nat → Prop) → State → Heap → Prop} {ret : Option FieldType} {K : List Value → va_W → Nat → Nat → Prop} {y y0 : MethodName} {bytes b0 : ByteArray} {maxL n0 index nA fr lo : Nat} {r0 : Option FieldType} {b : Nat} {As : List Value} {own : String} {ws : va_W}
theorem idx_all (ws : va_W) : (List.range ws.length).map (fun i => ws[i]?) = ws.map some := by
  apply List.ext_getElem?
  intro i
  simp only [List.getElem?_map]
  by_cases h : i < ws.length
  · simp [h]
  · simp [h]
theorem nd_range (n : Nat) : va_nd (List.range n) = true := by
  have : ∀ (L : List Nat), L.Nodup → va_nd L = true := by
    intro L hL
    induction L with
    | nil => rfl
    | cons a t ih => rw [va_nd, Bool.and_eq_true]; exact ⟨by simpa using (List.nodup_cons.mp hL).1, ih (List.nodup_cons.mp hL).2⟩
  exact this _ List.nodup_range
/-- a static method that owns no cell -/
theorem calls0 (hC : Cx p s m args c cc nL own (yw y0 b0 n0 r0) D cls tys A tc) (hk : Kt l y (yw y bytes maxL ret) fr lo 0 0 D cls tys F As [] (fun r w => post r ∧ w = [])) (hFc : F A s s.heap) (hwm : wm y bytes maxL ret nA) (hl : Cond.methodLink own index y ∈ gw) (hi : Cond.static y ∈ gw) (hR : fr + 1 ≤ R.frames ∧ 8 + (maxL + 11) + lo ≤ R.locals) (hlen : As.length = nA) (hst : st = As.reverse ++ rest) (hW : (rest.map fun v => v.category).sum ≤ 8) (hkn : k ≤ R.cells ∧ n ≤ R.slots)
    (kk : ∀ (r : Option Value), post r → K (r.toList ++ rest) ws k n) : vx_SX cc (Vx p l e R s m args below meth c nL D cls A Q) (.invokestatic index) 3 st ws k n K := by
  refine sx_callS (wr := ws) (wc := []) hC hk (cw_S hwm hl hi hC.2.2.2.2.1 hR) [] (List.range ws.length) rfl (idx_all ws) rfl (nd_range _) (by simp) (vx_ro hk.1 hC.2.2.2.2.2.2.1 hFc [] rfl) hlen hst hW hkn (fun r w1 hp => ?_)
  obtain ⟨h1, rfl⟩ := hp
  rw [List.append_nil]
  exact kk r h1
/-- a virtual method that owns no cell, on an object that is only read -/
theorem callv0 (hC : Cx p s m args c cc nL own (yw y0 b0 n0 r0) D cls tys A tc) (hk : Kt l y (yw y bytes maxL ret) fr lo 0 0 D cls tys F (.ref b :: As) [] (fun r w => post r ∧ w = [])) (hFc : F A s s.heap) (hO : va_O y.cls b A s s.heap) (hwm : wm y bytes maxL ret nA) (hl : Cond.methodLink own index y ∈ gw) (hi : Cond.instanceMethod y ∈ gw) (hs : Cond.selects y.cls y y ∈ gw) (hR : fr + 1 ≤ R.frames ∧ 8 + (maxL + 11) + lo ≤ R.locals) (hlen : As.length = nA) (hst : st = As.reverse ++ .ref b :: rest) (hW : (rest.map fun v => v.category).sum ≤ 8) (hkn : k ≤ R.cells ∧ n ≤ R.slots)
    (kk : ∀ (r : Option Value), post r → K (r.toList ++ rest) ws k n) : vx_SX cc (Vx p l e R s m args below meth c nL D cls A Q) (.invokevirtual index) 3 st ws k n K := by
  intro pc lv hdg hK
  subst hst
  have cw := cw_V (fr := fr) (lo := lo) (mc := 0) (ms := 0) (R := R) (C := y.cls) hwm hl hi hs hC.2.2.2.2.1 hR
  have hro := vx_ro (ws := ws) (wc := []) (D := D) (cl := cls) hk.1 hC.2.2.2.2.2.2.1 hFc [] rfl
  obtain ⟨hx, hb, hml, hown, hts, hKK, hA, hty⟩ := hC
  refine vx_call hA (rest := rest) (wc := []) (wr := ws) (mc := 0) (ms := 0) (post := fun r w => post r ∧ w = []) (a := (Value.ref b :: As).toArray) (fun H locs ls hP hD hS hl => ?_) [] (List.range ws.length) rfl (idx_all ws) (nd_range _) (by simp) (fun r w1 hp => ?_)
  · have hPc : va_P D cls [] H := fun k q h => by simp at h
    have hDc : va_D A [] := ⟨fun i j p q h => by simp at h, fun k q h => by simp at h⟩
    exact va_runV (As := As) (rest := rest) ⟨hx, hb, hml, hown, hts⟩ (hk.2 H.size) cw ⟨Kp.blind hk.1, va_Orecv hO hS, fun U hU hW => ⟨rfl, by rw [hU], by rw [hU]; exact hPc, va_K.moved hW.alike hKK, hDc.weaken (fun _ _ _ _ => trivial), by rw [hU]; exact hk.1.1 _ s U H hW (hro H locs hP hD hS)⟩⟩ rfl hlen hl.1 rfl (lv_room hW) hdg hkn
  · obtain ⟨h1, rfl⟩ := hp
    rw [List.append_nil]
    exact hK _ _ _ _ (kk r h1)
end
set_option maxRecDepth 100000 in
set_option maxHeartbeats 4000000 in
theorem c_St_coder152 (l : Launch) (D : va_G) (tys : List (ClassId × FieldType)) (tc : Nat → ClassId) (hty : ∀ i : Nat, i < 4 → tys[i]? = some (tc i, vx_ty i)) (a : Nat) (W : List Nat) (hWW : isW W) : Kt l y_St_coder152 (yw y_St_coder152 b_St_coder152 1 (some .byte)) 0 0 0 0 D cls tys (tF a W) [.ref a] [] (fun r w => r = some (.int 0) ∧ w = []) := by
  refine Kt.of (tF_ro a W) (by decide) rfl hty (Nat.le_of_ble_eq_true rfl) ?_
  intro p e s m args below meth c0 A hC hr hlk hnm hF
  have hFt : vx_Ft y_St_coder152.cls (yw y_St_coder152 b_St_coder152 1 (some .byte)) cls cty [] := (fun q h => by cases h)
  have hini : false = true → meth.name = "<init>" := fun h => by cases h
  have hF0 := hF
  obtain ⟨hcs, hO, hco, v, hv, hb⟩ := hF
  refine vx_go hC hFt hini (vx_ends hC hr hlk) jc_St_coder152 0 (by decide) rfl ?_
  refine ⟨_, ⟨"java/lang/String", "COMPACT_STRINGS", "Z", "java/lang/String", hcs.1, Or.inl (hC.2.2.2.2.1 _ (List.mem_cons_of_mem _ wf_St_38)), fun _ z => z⟩, ?_⟩
  refine And.intro (fun c1 => ?_) (fun c1 => ?_)
  · skip
    exact absurd c1 (by decide)
  · skip
    refine ⟨_, ⟨"java/lang/String", "coder", "B", "java/lang/String", hco, Or.inl (hC.2.2.2.2.1 _ (List.mem_cons_of_mem _ wf_St_15)), fun _ z => z⟩, ?_⟩
    refine vx_go hC hFt hini (vx_ends hC hr hlk) jc_St_coder152 6 (by decide) rfl ?_
    refine And.intro (rfl) (And.intro ?_ (And.intro (Nat.le_refl _) (Nat.le_refl _)))
    exact And.intro rfl rfl
set_option maxRecDepth 100000 in
set_option maxHeartbeats 4000000 in
theorem c_St_isLatin1154 (l : Launch) (D : va_G) (tys : List (ClassId × FieldType)) (tc : Nat → ClassId) (hty : ∀ i : Nat, i < 4 → tys[i]? = some (tc i, vx_ty i)) (a : Nat) (W : List Nat) (hWW : isW W) : Kt l y_St_isLatin1154 (yw y_St_isLatin1154 b_St_isLatin1154 1 (some .boolean)) 0 0 0 0 D cls tys (tF a W) [.ref a] [] (fun r w => r = some (.int 1) ∧ w = []) := by
  refine Kt.of (tF_ro a W) (by decide) rfl hty (Nat.le_of_ble_eq_true rfl) ?_
  intro p e s m args below meth c0 A hC hr hlk hnm hF
  have hFt : vx_Ft y_St_isLatin1154.cls (yw y_St_isLatin1154 b_St_isLatin1154 1 (some .boolean)) cls cty [] := (fun q h => by cases h)
  have hini : false = true → meth.name = "<init>" := fun h => by cases h
  have hF0 := hF
  obtain ⟨hcs, hO, hco, v, hv, hb⟩ := hF
  refine vx_go hC hFt hini (vx_ends hC hr hlk) jc_St_isLatin1154 0 (by decide) rfl ?_
  refine ⟨_, ⟨"java/lang/String", "COMPACT_STRINGS", "Z", "java/lang/String", hcs.1, Or.inl (hC.2.2.2.2.1 _ (List.mem_cons_of_mem _ wf_St_38)), fun _ z => z⟩, ?_⟩
  refine And.intro (fun c1 => ?_) (fun c1 => ?_)
  · skip
    exact absurd c1 (by decide)
  · skip
    refine ⟨_, ⟨"java/lang/String", "coder", "B", "java/lang/String", hco, Or.inl (hC.2.2.2.2.1 _ (List.mem_cons_of_mem _ wf_St_15)), fun _ z => z⟩, ?_⟩
    refine And.intro (fun c4 => ?_) (fun c4 => ?_)
    · skip
      exact absurd rfl c4
    · skip
      refine vx_go hC hFt hini (vx_ends hC hr hlk) jc_St_isLatin1154 8 (by decide) rfl ?_
      refine And.intro (rfl) (And.intro ?_ (And.intro (Nat.le_refl _) (Nat.le_refl _)))
      exact And.intro rfl rfl
set_option maxRecDepth 100000 in
set_option maxHeartbeats 4000000 in
theorem c_St_length54 (l : Launch) (D : va_G) (tys : List (ClassId × FieldType)) (tc : Nat → ClassId) (hty : ∀ i : Nat, i < 4 → tys[i]? = some (tc i, vx_ty i)) (a : Nat) (W : List Nat) (hWW : isW W) : Kt l y_St_length54 (yw y_St_length54 b_St_length54 1 (some .int)) 1 20 0 0 D cls tys (tF a W) [.ref a] [] (fun r w => r = some (.int (nI W.length)) ∧ w = []) := by
  refine Kt.of (tF_ro a W) (by decide) rfl hty (Nat.le_of_ble_eq_true rfl) ?_
  intro p e s m args below meth c0 A hC hr hlk hnm hF
  have hFt : vx_Ft y_St_length54.cls (yw y_St_length54 b_St_length54 1 (some .int)) cls cty [] := (fun q h => by cases h)
  have hini : false = true → meth.name = "<init>" := fun h => by cases h
  have hF0 := hF
  obtain ⟨hcs, hO, hco, v, hv, hb⟩ := hF
  refine vx_go hC hFt hini (vx_ends hC hr hlk) jc_St_length54 0 (by decide) rfl ?_
  refine ⟨_, ⟨"java/lang/String", "value", "[B", "java/lang/String", hv, Or.inl (hC.2.2.2.2.1 _ (List.mem_cons_of_mem _ wf_St_9)), fun _ z => z⟩, ?_⟩
  refine ⟨1, _, _, hb, ?_⟩
  refine callv0 hC (c_St_coder152 l D tys tc hty a W hWW) hF0 hO wm_St_coder152 wl_St_335 wi_St_coder152 ws_St_St_coder152 ⟨by decide, by decide⟩ rfl rfl (Nat.le_of_ble_eq_true rfl) ⟨Nat.zero_le _, Nat.zero_le _⟩ (fun r' hp => ?_)
  subst hp
  refine And.intro (trivial) (And.intro ?_ (And.intro (Nat.le_refl _) (Nat.le_refl _)))
  refine And.intro ?_ rfl
  rw [sb_shr0]
set_option maxRecDepth 100000 in
set_option maxHeartbeats 4000000 in
theorem c_Pr_checkIndex11 (l : Launch) (D : va_G) (tys : List (ClassId × FieldType)) (tc : Nat → ClassId) (hty : ∀ i : Nat, i < 4 → tys[i]? = some (tc i, vx_ty i)) (i n : Nat) (g : Option Nat) (hi : i < n) (hn : n < 2 ^ 31) : Kt l y_Pr_checkIndex11 (yw y_Pr_checkIndex11 b_Pr_checkIndex11 3 (some .int)) 0 0 0 0 D cls tys (fun _ _ _ => True) [.int (nI i), .int (nI n), va_rf g] [] (fun r w => r = some (.int (nI i)) ∧ w = []) := by
  cases g
  all_goals
    refine Kt.of ro_true (by decide) rfl hty (Nat.le_of_ble_eq_true rfl) ?_
    intro p e s m args below meth c0 A hC hr hlk hnm hF
    have hFt : vx_Ft y_Pr_checkIndex11.cls (yw y_Pr_checkIndex11 b_Pr_checkIndex11 3 (some .int)) cls cty [] := (fun q h => by cases h)
    have hini : false = true → meth.name = "<init>" := fun h => by cases h
    refine vx_go hC hFt hini (vx_ends hC hr hlk) jc_Pr_checkIndex11 0 (by decide) rfl ?_
    refine And.intro (fun c1 => ?_) (fun c1 => ?_)
    · skip
      exact absurd c1 (nI_pos (by omega))
    · skip
      refine And.intro (fun c4 => ?_) (fun c4 => ?_)
      · skip
        refine vx_go hC hFt hini (vx_ends hC hr hlk) jc_Pr_checkIndex11 10 (by decide) rfl ?_
        refine And.intro (trivial) (And.intro ?_ (And.intro (Nat.le_refl _) (Nat.le_refl _)))
        exact And.intro rfl rfl
      · skip
        exact absurd (nI_lt hi hn) c4
set_option maxRecDepth 100000 in
set_option maxHeartbeats 4000000 in
theorem c_St_checkIndex155 (l : Launch) (D : va_G) (tys : List (ClassId × FieldType)) (tc : Nat → ClassId) (hty : ∀ i : Nat, i < 4 → tys[i]? = some (tc i, vx_ty i)) (i n : Nat) (hi : i < n) (hn : n < 2 ^ 31) : Kt l y_St_checkIndex155 (yw y_St_checkIndex155 b_St_checkIndex155 2 none) 1 22 0 0 D cls tys csF [.int (nI i), .int (nI n)] [] (fun r w => r = none ∧ w = []) := by
  refine Kt.of csF_ro (by decide) rfl hty (Nat.le_of_ble_eq_true rfl) ?_
  intro p e s m args below meth c0 A hC hr hlk hnm hF
  have hFt : vx_Ft y_St_checkIndex155.cls (yw y_St_checkIndex155 b_St_checkIndex155 2 none) cls cty [] := (fun q h => by cases h)
  have hini : false = true → meth.name = "<init>" := fun h => by cases h
  refine vx_go hC hFt hini (vx_ends hC hr hlk) jc_St_checkIndex155 0 (by decide) rfl ?_
  obtain ⟨g, hg⟩ : ∃ g : Option Nat, va_Z "jdk/internal/util/Preconditions" "SIOOBE_FORMATTER" "Ljava/util/function/BiFunction;" (va_rf g) A s s.heap := by
    rcases hF.2 with z | ⟨t, z⟩
    · exact ⟨none, z⟩
    · exact ⟨some t, z⟩
  refine ⟨_, ⟨"jdk/internal/util/Preconditions", "SIOOBE_FORMATTER", "Ljava/util/function/BiFunction;", "jdk/internal/util/Preconditions", hg, Or.inl (hC.2.2.2.2.1 _ (List.mem_cons_of_mem _ wf_St_1053)), fun _ z => z⟩, ?_⟩
  refine calls0 hC (c_Pr_checkIndex11 l D tys tc hty i n g hi hn) trivial wm_Pr_checkIndex11 wl_St_1059 wt_Pr_checkIndex11 ⟨by decide, by decide⟩ rfl rfl (Nat.le_of_ble_eq_true rfl) ⟨Nat.zero_le _, Nat.zero_le _⟩ (fun r' hp => ?_)
  subst hp
  refine And.intro rfl ?_
  refine And.intro (trivial) (And.intro ?_ (And.intro (Nat.le_refl _) (Nat.le_refl _)))
  exact And.intro rfl rfl
set_option maxRecDepth 100000 in
set_option maxHeartbeats 4000000 in
theorem c_L1_charAt2 (l : Launch) (D : va_G) (tys : List (ClassId × FieldType)) (tc : Nat → ClassId) (hty : ∀ i : Nat, i < 4 → tys[i]? = some (tc i, vx_ty i)) (v : Nat) (W : List Nat) (hWW : isW W) (k : Nat) (hk : k < W.length) : Kt l y_L1_charAt2 (yw y_L1_charAt2 b_L1_charAt2 2 (some .char)) 2 43 0 0 D cls tys (fun A U H => csF A U H ∧ bytF v W A U H) [.ref v, .int (nI k)] [] (fun r w => r = some (.int (nI (W.getD k 0))) ∧ w = []) := by
  refine Kt.of (ro_and csF_ro (bytF_ro v W)) (by decide) rfl hty (Nat.le_of_ble_eq_true rfl) ?_
  intro p e s m args below meth c0 A hC hr hlk hnm hF
  have hFt : vx_Ft y_L1_charAt2.cls (yw y_L1_charAt2 b_L1_charAt2 2 (some .char)) cls cty [] := (fun q h => by cases h)
  have hini : false = true → meth.name = "<init>" := fun h => by cases h
  refine vx_go hC hFt hini (vx_ends hC hr hlk) jc_L1_charAt2 0 (by decide) rfl ?_
  refine ⟨1, _, _, hF.2, ?_⟩
  refine calls0 hC (c_St_checkIndex155 l D tys tc hty k W.length hk hWW.1) hF.1 wm_St_checkIndex155 wl_L1_9 wt_St_checkIndex155 ⟨by decide, by decide⟩ rfl rfl (Nat.le_of_ble_eq_true rfl) ⟨Nat.zero_le _, Nat.zero_le _⟩ (fun r' hp => ?_)
  subst hp
  refine ⟨_, _, hF.2, vp_in_nI hk hWW.1, ?_⟩
  rw [nI_clamp (by have := hWW.1; omega)]
  refine And.intro ((by rw [(sb_byte _ (gd_lt hWW k)).1, (sb_byte _ (gd_lt hWW k)).2.1]; exact (pk_charN (by have := gd_lt hWW k; omega)).1)) (And.intro ?_ (And.intro (Nat.le_refl _) (Nat.le_refl _)))
  refine And.intro ?_ rfl
  rw [(sb_byte _ (gd_lt hWW k)).1, (sb_byte _ (gd_lt hWW k)).2.1]
set_option maxRecDepth 100000 in
set_option maxHeartbeats 4000000 in
theorem c_St_charAt56 (l : Launch) (D : va_G) (tys : List (ClassId × FieldType)) (tc : Nat → ClassId) (hty : ∀ i : Nat, i < 4 → tys[i]? = some (tc i, vx_ty i)) (a : Nat) (W : List Nat) (hWW : isW W) (k : Nat) (hk : k < W.length) : Kt l y_St_charAt56 (yw y_St_charAt56 b_St_charAt56 2 (some .char)) 3 64 0 0 D cls tys (tF a W) [.ref a, .int (nI k)] [] (fun r w => r = some (.int (nI (W.getD k 0))) ∧ w = []) := by
  refine Kt.of (tF_ro a W) (by decide) rfl hty (Nat.le_of_ble_eq_true rfl) ?_
  intro p e s m args below meth c0 A hC hr hlk hnm hF
  have hFt : vx_Ft y_St_charAt56.cls (yw y_St_charAt56 b_St_charAt56 2 (some .char)) cls cty [] := (fun q h => by cases h)
  have hini : false = true → meth.name = "<init>" := fun h => by cases h
  have hF0 := hF
  obtain ⟨hcs, hO, hco, v, hv, hb⟩ := hF
  refine vx_go hC hFt hini (vx_ends hC hr hlk) jc_St_charAt56 0 (by decide) rfl ?_
  refine callv0 hC (c_St_isLatin1154 l D tys tc hty a W hWW) hF0 hO wm_St_isLatin1154 wl_St_492 wi_St_isLatin1154 ws_St_St_isLatin1154 ⟨by decide, by decide⟩ rfl rfl (Nat.le_of_ble_eq_true rfl) ⟨Nat.zero_le _, Nat.zero_le _⟩ (fun r' hp => ?_)
  subst hp
  refine And.intro (fun c2 => ?_) (fun c2 => ?_)
  · skip
    exact absurd c2 (by decide)
  · skip
    refine ⟨_, ⟨"java/lang/String", "value", "[B", "java/lang/String", hv, Or.inl (hC.2.2.2.2.1 _ (List.mem_cons_of_mem _ wf_St_9)), fun _ z => z⟩, ?_⟩
    refine calls0 hC (c_L1_charAt2 l D tys tc hty v W hWW k hk) ⟨hcs, hb⟩ wm_L1_charAt2 wl_St_495 wt_L1_charAt2 ⟨by decide, by decide⟩ rfl rfl (Nat.le_of_ble_eq_true rfl) ⟨Nat.zero_le _, Nat.zero_le _⟩ (fun r' hp => ?_)
    subst hp
    refine And.intro (((pk_charN (by have := gd_lt hWW k; omega)).1)) (And.intro ?_ (And.intro (Nat.le_refl _) (Nat.le_refl _)))
    exact And.intro rfl rfl
