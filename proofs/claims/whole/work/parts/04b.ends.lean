/-! ENDS, the middle of a method, calls as steps -/
def vx_rt (ret : Option FieldType) (r : Option Value) : Prop := match ret, r with
  | none, none => True
  | some .int, some (.int _) => True
  | some .boolean, some (.int v) => narrow .boolean (.int v) = .int v
  | some .char, some (.int v) => narrow .char (.int v) = .int v
  | some .byte, some (.int v) => narrow .byte (.int v) = .int v
  | some .long, some (.long _) => True
  | some (.object _), some (.ref _) => True
  | some (.object _), some .null => True
  | some (.array _), some (.ref _) => True
  | _, _ => False
def vx_E (ret : Option FieldType) (post : Option Value → va_W → Prop) (mc ms : Nat) : Option Value → va_W → Nat → Nat → Prop := fun r ws k n => vx_rt ret r ∧ post r ws ∧ k ≤ mc ∧ n ≤ ms
def wq_pc : wq_J → Nat → Nat
  | _, 0 => 0
  | [], _ + 1 => 0
  | (ins, an) :: r, i + 1 => wq_il an ins + wq_pc r i
theorem wq_c_drop {cc : ByteArray} {nL : Nat} : ∀ (i : Nat) (j : wq_J) (b : Nat), i ≤ j.length → wq_c cc nL j b = true → wq_c cc nL (j.drop i) (b + wq_pc j i) = true
  | 0, j, b, _, h => by rw [List.drop_zero]; cases j <;> exact h
  | i + 1, [], b, hi, h => by simp at hi
  | i + 1, (ins, an) :: r, b, hi, h => by
    rw [wq_c, Bool.and_eq_true] at h
    have := wq_c_drop i r (b + wq_il an ins) (by simpa using hi) h.2
    rw [List.drop_succ_cons, wq_pc, ← Nat.add_assoc]
    exact this
section
variable {p : Program} {l : Launch} {e : Env} {R : Room} {s : State} {m : MethodId} {args : Array Value} {below : List Frame} {meth : Method} {c : Code} {cc : ByteArray} {nL : Nat} {own : String} {Ts : List Cond} {D : va_G} {cl : List vw_C} {tys : List (ClassId × FieldType)} {A : Nat → Prop} {tc : Nat → ClassId} {Q : State → Prop} {st rest : List Value} {ws wc wr : va_W} {k n mc ms : Nat} {post : Option Value → va_W → Prop} {F : (Nat → Prop) → State → Heap → Prop} {ret : Option FieldType} {ini : Bool} {EN : Option Value → va_W → Nat → Nat → Prop} {ft : List (Nat × Nat × Nat × Nat)} {ty : Nat → Nat → FieldType} {K : List Value → va_W → Nat → Nat → Prop}
theorem vx_ends (hC : Cx p s m args c cc nL own Ts D cl tys A tc) (hr : meth.sig.returnType = ret) (hlk : meth.locks = false) : vx_EN cc (vx_E ret post mc ms) (Vx p l e R s m args below meth c nL D cl A (MQ below (Qp D cl A post) args s mc ms A)) := by
  intro r ws k n pc lv h hd
  obtain ⟨h1, h2, h3, h4⟩ := h
  cases r with
  | none =>
    unfold vx_rt at h1
    split at h1 <;> first | (exact vx_vret hC hr hlk h2 h3 h4 hd) | (exact h1.elim) | skip
    all_goals (rename_i e1 e2; first | cases e2 | skip)
  | some v =>
    cases v with
    | int v =>
      unfold vx_rt at h1
      split at h1
      any_goals (rename_i e2; cases e2)
      · exact vx_zret hC hr hlk rfl h2 h3 h4 hd
      · exact vx_zret hC hr hlk h1 h2 h3 h4 hd
      · exact vx_zret hC hr hlk h1 h2 h3 h4 hd
      · exact vx_zret hC hr hlk h1 h2 h3 h4 hd
      · exact h1.elim
    | long v =>
      unfold vx_rt at h1
      split at h1
      any_goals (rename_i e2; cases e2)
      · exact vx_lret hC hr hlk h2 h3 h4 hd
      · exact h1.elim
    | ref v =>
      unfold vx_rt at h1
      split at h1
      any_goals (rename_i e2; cases e2)
      · exact vx_aret hC hr (Or.inl ⟨_, rfl⟩) hlk (Or.inr ⟨_, rfl⟩) h2 h3 h4 hd
      · exact vx_aret hC hr (Or.inr ⟨_, rfl⟩) hlk (Or.inr ⟨_, rfl⟩) h2 h3 h4 hd
      · exact h1.elim
    | null =>
      unfold vx_rt at h1
      split at h1
      any_goals (rename_i e2; cases e2)
      · exact vx_aret hC hr (Or.inl ⟨_, rfl⟩) hlk (Or.inl rfl) h2 h3 h4 hd
      · exact h1.elim
    | float v => unfold vx_rt at h1; split at h1 <;> first | exact h1.elim | (rename_i e2; cases e2)
    | double v => unfold vx_rt at h1; split at h1 <;> first | exact h1.elim | (rename_i e2; cases e2)
    | retAddr v => unfold vx_rt at h1; split at h1 <;> first | exact h1.elim | (rename_i e2; cases e2)
/-- from any place of a method's list on -/
theorem vx_go {j : wq_J} (hC : Cx p s m args c cc nL own Ts D cl tys A tc) (hF : vx_Ft own Ts cl ty ft) (hini : ini = true → meth.name = "<init>") (hE : vx_EN cc EN (Vx p l e R s m args below meth c nL D cl A Q)) (hj : wq_c cc nL j 0 = true) (i : Nat) {pc : Nat} (hi : i ≤ j.length) (hpc : wq_pc j i = pc) {lv : wq_L}
    (h : wq nL ini tc ft ty (vx_RT A s) (vx_RF own args A s) (vx_RZ own args A s) (vx_RS own args s) (vx_SX cc (Vx p l e R s m args below meth c nL D cl A Q)) EN (Vx p l e R s m args below meth c nL D cl A Q) (j.drop i) pc lv st ws k n) : Vx p l e R s m args below meth c nL D cl A Q pc lv st ws k n := by
  subst hpc
  have h1 := wq_c_drop i j 0 hi hj
  rw [Nat.zero_add] at h1
  exact wq_sound hC hF hini hE _ _ _ _ _ _ _ h1 h
variable {y x : MethodName} {bytes : ByteArray} {maxL index nA fr lo : Nat} {wds : List Cond} {C owner : String} {b : Nat} {As : List Value}
theorem va_P.sub2 {H : Heap} {isC : List Nat} (hc : isC.map (fun i => ws[i]?) = wc.map some) (hP : va_P D cl ws H) : va_P D cl wc H := by
  intro j q hq
  have h1 : (isC.map (fun i => ws[i]?))[j]? = some (some q) := by rw [hc, List.getElem?_map, hq]; rfl
  rw [List.getElem?_map] at h1
  cases hi : isC[j]? with
  | none => rw [hi] at h1; cases h1
  | some i => rw [hi] at h1; exact hP i q (Option.some.inj h1)
theorem sx_callV (hC : Cx p s m args c cc nL own Ts D cl tys A tc) (hk : Kt l y wds fr lo mc ms D cl tys F (.ref b :: As) wc post) (cw : CallW R s args own C index y bytes maxL ret wds { frames := fr, cells := mc, slots := ms, locals := lo } mc ms nA)
    (isC isR : List Nat) (hc : isC.map (fun i => ws[i]?) = wc.map some) (hr : isR.map (fun i => ws[i]?) = wr.map some) (hnC : va_nd isC = true) (hn : va_nd isR = true) (hdis : ∀ i ∈ isR, i ∉ isC)
    {q0 ci : Nat} {fs : List Value} {rc : vw_C} (hq : wc[q0]? = some (b, .inr (ci, fs))) (hci : cl[ci]? = some rc) (hrc : rc.1 = C) (hF : ∀ (H : Heap) (locs : List Loc), va_P D cl ws H → va_D A ws → va_S A s.heap H locs → F (va_A wc H.size) s H)
    (hlen : As.length = nA) (hst : st = As.reverse ++ .ref b :: rest) (hW : (rest.map fun v => v.category).sum ≤ 8) (hf : k + mc ≤ R.cells ∧ n + ms ≤ R.slots)
    (kk : ∀ (r : Option Value) (w1 : va_W), post r w1 → K (r.toList ++ rest) (wr ++ w1) (k + mc) (n + ms)) :
    vx_SX cc (Vx p l e R s m args below meth c nL D cl A Q) (.invokevirtual index) 3 st ws k n K :=
  fun pc lv hdg hK => vx_callV hC hk cw isC isR hc hr hnC hn hdis hq hci hrc hF hlen hst hW hdg hf (fun r w1 hp => hK _ _ _ _ (kk r w1 hp))
set_option maxHeartbeats 1000000 in
theorem sx_callU (hC : Cx p s m args c cc nL own Ts D cl tys A tc) (hk : Kt l y wds fr lo mc ms D cl tys F (.ref b :: As) wc post) (cw : va_CU R s args own C owner index x y bytes maxL ret wds { frames := fr, cells := mc, slots := ms, locals := lo } mc ms nA)
    (isC isR : List Nat) (hc : isC.map (fun i => ws[i]?) = wc.map some) (hr : isR.map (fun i => ws[i]?) = wr.map some) (hnC : va_nd isC = true) (hn : va_nd isR = true) (hdis : ∀ i ∈ isR, i ∉ isC)
    {q0 ci : Nat} {fs : List Value} {rc : vw_C} (hq : wc[q0]? = some (b, .inr (ci, fs))) (hci : cl[ci]? = some rc) (hrc : rc.1 = C) (hF : ∀ (H : Heap) (locs : List Loc), va_P D cl ws H → va_D A ws → va_S A s.heap H locs → F (va_A wc H.size) s H)
    (hlen : As.length = nA) (hst : st = As.reverse ++ .ref b :: rest) (hW : (rest.map fun v => v.category).sum ≤ 8) (hf : k + mc ≤ R.cells ∧ n + ms ≤ R.slots)
    (kk : ∀ (r : Option Value) (w1 : va_W), post r w1 → K (r.toList ++ rest) (wr ++ w1) (k + mc) (n + ms)) :
    vx_SX cc (Vx p l e R s m args below meth c nL D cl A Q) (.invokevirtual index) 3 st ws k n K := by
  intro pc lv hdg hK
  subst hst
  subst hrc
  obtain ⟨hx, hb, hml, hown, hts, hKK, hA, hty⟩ := hC
  refine vx_call hA (post := post) (a := (Value.ref b :: As).toArray) (fun H locs ls hP hD hS hl => ?_) isC isR hc hr hn hdis (fun r w1 hp => hK _ _ _ _ (kk r w1 hp))
  have hPc : va_P D cl wc H := va_P.sub2 hc hP
  have hDc := hD.sub isC hnC hc
  exact va_runU (As := As) (rest := rest) ⟨hx, hb, hml, hown, hts⟩ (hk.2 H.size) cw ⟨Kp.blind hk.1, va_recv hKK hPc hci hq, fun U hU hW => ⟨rfl, by rw [hU], by rw [hU]; exact hPc, va_K.moved hW.alike hKK, hDc.weaken (fun _ _ _ _ => trivial), by rw [hU]; exact hk.1.1 _ s U H hW (hF H locs hP hD hS)⟩⟩ rfl hlen hl.1 rfl (lv_room hW) hdg hf
set_option maxHeartbeats 1000000 in
theorem sx_callS (hC : Cx p s m args c cc nL own Ts D cl tys A tc) (hk : Kt l y wds fr lo mc ms D cl tys F As wc post) (cw : CallB R s args own index y bytes maxL ret wds { frames := fr, cells := mc, slots := ms, locals := lo } mc ms nA ∧ (Cond.static y).before args s = true)
    (isC isR : List Nat) (hc : isC.map (fun i => ws[i]?) = wc.map some) (hr : isR.map (fun i => ws[i]?) = wr.map some) (hnC : va_nd isC = true) (hn : va_nd isR = true) (hdis : ∀ i ∈ isR, i ∉ isC)
    (hF : ∀ (H : Heap) (locs : List Loc), va_P D cl ws H → va_D A ws → va_S A s.heap H locs → F (va_A wc H.size) s H)
    (hlen : As.length = nA) (hst : st = As.reverse ++ rest) (hW : (rest.map fun v => v.category).sum ≤ 8) (hf : k + mc ≤ R.cells ∧ n + ms ≤ R.slots)
    (kk : ∀ (r : Option Value) (w1 : va_W), post r w1 → K (r.toList ++ rest) (wr ++ w1) (k + mc) (n + ms)) :
    vx_SX cc (Vx p l e R s m args below meth c nL D cl A Q) (.invokestatic index) 3 st ws k n K := by
  intro pc lv hdg hK
  subst hst
  obtain ⟨hx, hb, hml, hown, hts, hKK, hA, hty⟩ := hC
  refine vx_call hA (post := post) (a := As.toArray) (fun H locs ls hP hD hS hl => ?_) isC isR hc hr hn hdis (fun r w1 hp => hK _ _ _ _ (kk r w1 hp))
  have hPc : va_P D cl wc H := va_P.sub2 hc hP
  have hDc := hD.sub isC hnC hc
  exact va_runS (As := As) (rest := rest) ⟨hx, hb, hml, hown, hts⟩ (hk.2 H.size) cw ⟨Kp.blind hk.1, fun U hU hW => ⟨rfl, by rw [hU], by rw [hU]; exact hPc, va_K.moved hW.alike hKK, hDc.weaken (fun _ _ _ _ => trivial), by rw [hU]; exact hk.1.1 _ s U H hW (hF H locs hP hD hS)⟩⟩ rfl hlen hl.1 rfl (lv_room hW) hdg hf
set_option maxHeartbeats 1000000 in
theorem sx_callI (hC : Cx p s m args c cc nL own Ts D cl tys A tc) (hk : Kt l y wds fr lo mc ms D cl tys F (.ref b :: As) wc post) (cw : CallB R s args own index y bytes maxL none wds { frames := fr, cells := mc, slots := ms, locals := lo } mc ms nA ∧ y.name = "<init>" ∧ (Cond.instanceMethod y).before args s = true)
    (isC isR : List Nat) (hc : isC.map (fun i => ws[i]?) = wc.map some) (hr : isR.map (fun i => ws[i]?) = wr.map some) (hnC : va_nd isC = true) (hn : va_nd isR = true) (hdis : ∀ i ∈ isR, i ∉ isC)
    (hF : ∀ (H : Heap) (locs : List Loc), va_P D cl ws H → va_D A ws → va_S A s.heap H locs → F (va_A wc H.size) s H)
    (hlen : As.length = nA) (hst : st = As.reverse ++ .ref b :: rest) (hW : (rest.map fun v => v.category).sum ≤ 8) (hf : k + mc ≤ R.cells ∧ n + ms ≤ R.slots)
    (kk : ∀ (r : Option Value) (w1 : va_W), post r w1 → K (r.toList ++ rest) (wr ++ w1) (k + mc) (n + ms)) :
    vx_SX cc (Vx p l e R s m args below meth c nL D cl A Q) (.invokespecial index) 3 st ws k n K := by
  intro pc lv hdg hK
  subst hst
  obtain ⟨hx, hb, hml, hown, hts, hKK, hA, hty⟩ := hC
  refine vx_call hA (post := post) (a := (Value.ref b :: As).toArray) (fun H locs ls hP hD hS hl => ?_) isC isR hc hr hn hdis (fun r w1 hp => hK _ _ _ _ (kk r w1 hp))
  have hPc : va_P D cl wc H := va_P.sub2 hc hP
  have hDc := hD.sub isC hnC hc
  exact va_runI (As := As) (rest := rest) ⟨hx, hb, hml, hown, hts⟩ (hk.2 H.size) cw ⟨Kp.blind hk.1, fun U hU hW => ⟨rfl, by rw [hU], by rw [hU]; exact hPc, va_K.moved hW.alike hKK, hDc.weaken (fun _ _ _ _ => trivial), by rw [hU]; exact hk.1.1 _ s U H hW (hF H locs hP hD hS)⟩⟩ rfl hlen hl.1 rfl (lv_room hW) hdg hf
end
