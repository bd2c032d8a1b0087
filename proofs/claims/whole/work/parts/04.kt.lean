/-! CONTRACTS over cells, and calls by them -/
def Qp (D : va_G) (cl : List vw_C) (A : Nat → Prop) (post : Option Value → va_W → Prop) : Array Value → State → Outcome → State → Prop := fun _ st oc t => (∃ (r : Option Value) (w1 : va_W), oc = .returned r ∧ post r w1 ∧ va_P D cl w1 t.heap ∧ va_D A w1) ∧ va_F A st t
/-- facts about cells that are only read: they don't mind frames, writes elsewhere, fewer writes -/
def RO (F : (Nat → Prop) → State → Heap → Prop) : Prop := (∀ (A : Nat → Prop) (u U : State) (H : Heap), u.WarmedH U.vm → F A u H → F A U H) ∧ (∀ (A : Nat → Prop) (U : State) (H H1 : Heap), (∀ a : Nat, a < H.size → ¬ A a → H1[a]? = H[a]?) → F A U H → F A U H1) ∧ (∀ (A B : Nat → Prop) (U : State) (H : Heap), (∀ q, B q → A q) → F A U H → F B U H)
def Kp (D : va_G) (cl : List vw_C) (tys : List (ClassId × FieldType)) (F : (Nat → Prop) → State → Heap → Prop) (ar : List Value) (ws : va_W) (sz : Nat) : Array Value → State → Prop := va_Pc ar (fun U => U.heap.size = sz ∧ va_P D cl ws U.heap ∧ va_K D cl tys U ∧ va_D (fun _ => True) ws ∧ F (va_A ws sz) U U.heap)
/-- a method's contract: from the cells ws and the read facts F it answers by post, at most mc cells of ms slots are new -/
def Kt (l : Launch) (y : MethodName) (wds : List Cond) (fr lo mc ms : Nat) (D : va_G) (cl : List vw_C) (tys : List (ClassId × FieldType)) (F : (Nat → Prop) → State → Heap → Prop) (ar : List Value) (ws : va_W) (post : Option Value → va_W → Prop) : Prop :=
  RO F ∧ ∀ sz : Nat, Met l y wds { frames := fr, cells := mc, slots := ms, locals := lo } (Kp D cl tys F ar ws sz) (Qp D cl (va_A ws sz) post) mc ms (va_A ws sz)
theorem Kp.blind {D : va_G} {cl : List vw_C} {tys : List (ClassId × FieldType)} {F : (Nat → Prop) → State → Heap → Prop} {ar : List Value} {ws : va_W} {sz : Nat} (hF : RO F) : FrameBlind (Kp D cl tys F ar ws sz) := by
  intro a U g mk q
  obtain ⟨q0, q1, qP, qK, qD, qF⟩ := q
  exact ⟨q0, q1, qP, va_K.moved (u := U) (U := U.calling g mk a) (Vm.Alike.refl U.vm) qK, qD, hF.1 _ U (U.calling g mk a) _ (State.WarmedH.refl U) qF⟩
set_option maxHeartbeats 1000000 in
/-- a contract out of a walk -/
theorem Kt.of {l : Launch} {y : MethodName} {wds ws' : List Cond} {fr lo mc ms : Nat} {D : va_G} {cl : List vw_C} {tys : List (ClassId × FieldType)} {F : (Nat → Prop) → State → Heap → Prop} {ar : List Value} {ws : va_W} {post : Option Value → va_W → Prop} {cc : ByteArray} {nL : Nat} {ret : Option FieldType} {tc : Nat → ClassId}
    (hF : RO F) (hy : plainName y.cls = true) (hw : wds = Cond.code y cc nL ret :: ws') (hty : ∀ i : Nat, i < 4 → tys[i]? = some (tc i, vx_ty i)) (hlen : (lg_sl ar).length ≤ nL)
    (body : ∀ (p : Program) (e : Env) (s : State) (m : MethodId) (args : Array Value) (below : List Frame) (meth : Method) (c : Code) (A : Nat → Prop), Cx p s m args c cc nL y.cls wds D cl tys A tc → meth.sig.returnType = ret → meth.locks = false → meth.name = y.name → F A s s.heap →
      Vx p l e { frames := fr, cells := mc, slots := ms, locals := lo } s m args below meth c nL D cl A (MQ below (Qp D cl A post) args s mc ms A) 0 (lv_args 0 ar) [] ws 0 0) :
    Kt l y wds fr lo mc ms D cl tys F ar ws post := by
  refine ⟨hF, fun sz => ?_⟩
  refine Met.ofW (cc := cc) (maxL := nL) (ret := ret) hy hw ?_
  intro p e s m args below meth c s₁ B hml hv
  obtain ⟨rfl, hsz, hP, hK, hD0, hf⟩ := hv
  have hts := atoms_spec (ws := wds) B.pre
  have hown : s.vm.findClass y.cls = some m.cls := findClass_of_methodNamed B.named
  have hnm : meth.name = y.name := (name_of_methodNamed B.named B.method).1
  subst hsz
  have hD := hD0.self (sz := s.heap.size)
  generalize hAe : va_A ws s.heap.size = A at hD hf ⊢
  have hA : ∀ q : Nat, s.heap.size ≤ q → A q := fun q h => by rw [← hAe]; exact Or.inr h
  have hS : va_S A s.heap s.heap [] := va_S.rf
  have hl := lv_entry ar (n := nL) hlen
  rw [lg_entry_eq]
  exact body p e s m _ below meth c A ⟨B.exec, B.bytes, hml, hown, hts, hK, hA, hty⟩ B.returns B.notSynchronized hnm hf s.heap [] _ hP hD hS hl
section
variable {p : Program} {l : Launch} {e : Env} {R : Room} {s : State} {m : MethodId} {args : Array Value} {below : List Frame} {meth : Method} {c : Code} {cc : ByteArray} {nL : Nat} {own : String} {Ts : List Cond} {D : va_G} {cl : List vw_C} {tys : List (ClassId × FieldType)} {A : Nat → Prop} {tc : Nat → ClassId} {Q : State → Prop} {pc : Nat} {lv lv' : wq_L} {st rest : List Value} {ws wc wr ws2 : va_W} {k n mc ms : Nat} {post : Option Value → va_W → Prop} {F : (Nat → Prop) → State → Heap → Prop}
/-- fewer locals and cells, in another order -/
theorem Vx.sub (is : List Nat) (hl : lv_pick lv is = lv') (js : List Nat) (hn : va_nd js = true) (hw : js.map (fun i => ws[i]?) = ws2.map some) (h : Vx p l e R s m args below meth c nL D cl A Q pc lv' st ws2 k n) : Vx p l e R s m args below meth c nL D cl A Q pc lv st ws k n := by
  intro H locs ls hP hD hS hl0
  refine h H locs ls ?_ (hD.sub js hn hw) hS (lv_sub hl0 is hl)
  intro j q hq
  have h1 : (js.map (fun i => ws[i]?))[j]? = some (some q) := by rw [hw, List.getElem?_map, hq]; rfl
  rw [List.getElem?_map] at h1
  cases hi : js[j]? with
  | none => rw [hi] at h1; cases h1
  | some i => rw [hi] at h1; exact hP i q (Option.some.inj h1)
theorem Vx.subL (is : List Nat) (hl : lv_pick lv is = lv') (h : Vx p l e R s m args below meth c nL D cl A Q pc lv' st ws k n) : Vx p l e R s m args below meth c nL D cl A Q pc lv st ws k n :=
  fun H locs ls hP hD hS hl0 => h H locs ls hP hD hS (lv_sub hl0 is hl)
theorem Vx.wide {k2 n2 : Nat} (h1 : k ≤ k2) (h2 : n ≤ n2) (h : Vx p l e R s m args below meth c nL D cl A Q pc lv st ws k2 n2) : Vx p l e R s m args below meth c nL D cl A Q pc lv st ws k n :=
  fun H locs ls hP hD hS hl0 => W.widen h1 h2 (h H locs ls hP hD hS hl0)
theorem Vx.eqs {lv2 : wq_L} {st2 : List Value} {w2 : va_W} {pc2 : Nat} (h0 : pc = pc2) (h1 : lv = lv2) (h2 : st = st2) (h3 : ws = w2) (h : Vx p l e R s m args below meth c nL D cl A Q pc2 lv2 st2 w2 k n) : Vx p l e R s m args below meth c nL D cl A Q pc lv st ws k n := by
  subst h0; subst h1; subst h2; subst h3; exact h
theorem vx_iret (hC : Cx p s m args c cc nL own Ts D cl tys A tc) (hr : meth.sig.returnType = some .int) (hlk : meth.locks = false) {v : Int32} (hp : post (some (.int v)) ws) (hk : k ≤ mc) (hn : n ≤ ms) (hdg : decode cc pc = .ok (.ireturn, 1)) :
    Vx p l e R s m args below meth c nL D cl A (MQ below (Qp D cl A post) args s mc ms A) pc lv [.int v] ws k n :=
  fun H locs ls hP hD hS hl0 => W.widen hk hn (W.iret hC.1 hC.2.1 hr (fun t ht hW => ⟨⟨_, ws, rfl, hp, by rw [ht]; exact hP, hD⟩, hS.F ht⟩) hS.2.2 hdg hlk)
theorem vx_zret {ty : FieldType} (hC : Cx p s m args c cc nL own Ts D cl tys A tc) (hr : meth.sig.returnType = some ty) (hlk : meth.locks = false) {v : Int32} (hv : narrow ty (.int v) = .int v) (hp : post (some (.int v)) ws) (hk : k ≤ mc) (hn : n ≤ ms) (hdg : decode cc pc = .ok (.ireturn, 1)) :
    Vx p l e R s m args below meth c nL D cl A (MQ below (Qp D cl A post) args s mc ms A) pc lv [.int v] ws k n :=
  fun H locs ls hP hD hS hl0 => W.widen hk hn (W.zret hC.1 hC.2.1 hr hv (fun t ht hW => ⟨⟨_, ws, rfl, hp, by rw [ht]; exact hP, hD⟩, hS.F ht⟩) hS.2.2 hdg hlk)
theorem vx_lret (hC : Cx p s m args c cc nL own Ts D cl tys A tc) (hr : meth.sig.returnType = some .long) (hlk : meth.locks = false) {v : Int64} (hp : post (some (.long v)) ws) (hk : k ≤ mc) (hn : n ≤ ms) (hdg : decode cc pc = .ok (.lreturn, 1)) :
    Vx p l e R s m args below meth c nL D cl A (MQ below (Qp D cl A post) args s mc ms A) pc lv [.long v] ws k n :=
  fun H locs ls hP hD hS hl0 => W.widen hk hn (W.lret hC.1 hC.2.1 hr (fun t ht hW => ⟨⟨_, ws, rfl, hp, by rw [ht]; exact hP, hD⟩, hS.F ht⟩) hS.2.2 hdg hlk)
theorem vx_vret (hC : Cx p s m args c cc nL own Ts D cl tys A tc) (hr : meth.sig.returnType = none) (hlk : meth.locks = false) (hp : post none ws) (hk : k ≤ mc) (hn : n ≤ ms) (hdg : decode cc pc = .ok (.return_, 1)) :
    Vx p l e R s m args below meth c nL D cl A (MQ below (Qp D cl A post) args s mc ms A) pc lv [] ws k n :=
  fun H locs ls hP hD hS hl0 => W.widen hk hn (W.vret hC.1 hC.2.1 hr (fun t ht hW => ⟨⟨_, ws, rfl, hp, by rw [ht]; exact hP, hD⟩, hS.F ht⟩) hS.2.2 hdg hlk)
theorem vx_aret {rt : FieldType} (hC : Cx p s m args c cc nL own Ts D cl tys A tc) (hr : meth.sig.returnType = some rt) (hrt : (∃ n, rt = .object n) ∨ ∃ t, rt = .array t) (hlk : meth.locks = false) {v : Value} (hv : v = .null ∨ ∃ a, v = .ref a) (hp : post (some v) ws) (hk : k ≤ mc) (hn : n ≤ ms) (hdg : decode cc pc = .ok (.areturn, 1)) :
    Vx p l e R s m args below meth c nL D cl A (MQ below (Qp D cl A post) args s mc ms A) pc lv [v] ws k n :=
  fun H locs ls hP hD hS hl0 => W.widen hk hn (W.aret hC.1 hC.2.1 hr hrt hv (fun t ht hW => ⟨⟨_, ws, rfl, hp, by rw [ht]; exact hP, hD⟩, hS.F ht⟩) hS.2.2 hdg hlk)
set_option maxHeartbeats 1000000 in
/-- the frame rule at a call -/
theorem vx_call (hA : ∀ q : Nat, s.heap.size ≤ q → A q) {a : Array Value}
    (hrun : ∀ (H : Heap) (locs : List Loc) (ls : Array Slot), va_P D cl ws H → va_D A ws → va_S A s.heap H locs → lv_has ls nL lv → va_Run p l e R s m args below meth c H locs k n mc ms (F0 m pc ls st) rest (Qp D cl (va_A wc H.size) post a) (va_A wc H.size))
    (isC isR : List Nat) (hC : isC.map (fun i => ws[i]?) = wc.map some) (hR : isR.map (fun i => ws[i]?) = wr.map some) (hn : va_nd isR = true) (hdis : ∀ i ∈ isR, i ∉ isC)
    (kk : ∀ (r : Option Value) (w1 : va_W), post r w1 → Vx p l e R s m args below meth c nL D cl A Q (pc + 3) lv (r.toList ++ rest) (wr ++ w1) (k + mc) (n + ms)) :
    Vx p l e R s m args below meth c nL D cl A Q pc lv st ws k n := by
  intro H locs ls hP hD hS hl T hT X
  obtain ⟨v, st₀, t, T', L, h0, X', hL, e1, e2, ⟨⟨r, w1, hv, hp, hP1, hD1⟩, hz, hk⟩, stp⟩ := hrun H locs ls hP hD hS hl T hT X
  cases hv
  rw [h0] at hz hk
  have hFc := va_free hD hS hA isC hC
  obtain ⟨hP2, hD2⟩ := va_join hP hD isC isR hC hR hn hdis (H1 := T'.heap) (fun q h1 h2 => by rw [e1]; exact hk q h1 h2) hFc (by rw [e1]; exact hP1) hD1
  have hS2 : va_S A s.heap T'.heap (locs ++ L) := ⟨Nat.le_trans hS.1 (by rw [e1]; exact hz), fun q h1 h2 => by rw [e1, hk q (Nat.lt_of_lt_of_le h1 hS.1) (fun z => h2 (hFc q z))]; exact hS.2.1 q h1 h2, fun q hq => by
      rcases List.mem_append.mp hq with h | h
      · exact hS.2.2 q h
      · exact hFc _ (hL q h)⟩
  obtain ⟨t2, a1, b1⟩ := kk _ w1 hp T'.heap (locs ++ L) ls hP2 hD2 hS2 hl T' rfl X'
  exact ⟨t2, stp t2 a1, b1⟩
/-- read facts at a call: what held at the method's start holds for the callee -/
theorem vx_ro (hF : RO F) (hA : ∀ q : Nat, s.heap.size ≤ q → A q) (h : F A s s.heap) (isC : List Nat) (hC : isC.map (fun i => ws[i]?) = wc.map some) : ∀ (H : Heap) (locs : List Loc), va_P D cl ws H → va_D A ws → va_S A s.heap H locs → F (va_A wc H.size) s H :=
  fun H locs _ hD hS => hF.2.2 A _ s H (va_free hD hS hA isC hC) (hF.2.1 A s s.heap H (fun a h1 h2 => hS.2.1 a h1 h2) h)
variable {y : MethodName} {bytes : ByteArray} {maxL index nA fr lo : Nat} {ret : Option FieldType} {wds : List Cond} {C : String} {b : Nat} {As : List Value}
set_option maxHeartbeats 1000000 in
theorem vx_callV (hC : Cx p s m args c cc nL own Ts D cl tys A tc) (hk : Kt l y wds fr lo mc ms D cl tys F (.ref b :: As) wc post) (cw : CallW R s args own C index y bytes maxL ret wds { frames := fr, cells := mc, slots := ms, locals := lo } mc ms nA)
    (isC isR : List Nat) (hc : isC.map (fun i => ws[i]?) = wc.map some) (hr : isR.map (fun i => ws[i]?) = wr.map some) (hnC : va_nd isC = true) (hn : va_nd isR = true) (hdis : ∀ i ∈ isR, i ∉ isC)
    {q0 ci : Nat} {fs : List Value} {rc : vw_C} (hq : wc[q0]? = some (b, .inr (ci, fs))) (hci : cl[ci]? = some rc) (hrc : rc.1 = C) (hF : ∀ (H : Heap) (locs : List Loc), va_P D cl ws H → va_D A ws → va_S A s.heap H locs → F (va_A wc H.size) s H)
    (hlen : As.length = nA) (hst : st = As.reverse ++ .ref b :: rest) (hW : (rest.map fun v => v.category).sum ≤ 8) (hdg : decode cc pc = .ok (.invokevirtual index, 3)) (hf : k + mc ≤ R.cells ∧ n + ms ≤ R.slots)
    (kk : ∀ (r : Option Value) (w1 : va_W), post r w1 → Vx p l e R s m args below meth c nL D cl A Q (pc + 3) lv (r.toList ++ rest) (wr ++ w1) (k + mc) (n + ms)) :
    Vx p l e R s m args below meth c nL D cl A Q pc lv st ws k n := by
  subst hst
  subst hrc
  obtain ⟨hx, hb, hml, hown, hts, hK, hA, hty⟩ := hC
  refine vx_call hA (post := post) (a := (Value.ref b :: As).toArray) (fun H locs ls hP hD hS hl => ?_) isC isR hc hr hn hdis kk
  have hPc : va_P D cl wc H := by
    intro j q hq
    have h1 : (isC.map (fun i => ws[i]?))[j]? = some (some q) := by rw [hc, List.getElem?_map, hq]; rfl
    rw [List.getElem?_map] at h1
    cases hi : isC[j]? with
    | none => rw [hi] at h1; cases h1
    | some i => rw [hi] at h1; exact hP i q (Option.some.inj h1)
  have hDc := hD.sub isC hnC hc
  exact va_runV (As := As) (rest := rest) ⟨hx, hb, hml, hown, hts⟩ (hk.2 H.size) cw ⟨Kp.blind hk.1, va_recv hK hPc hci hq, fun U hU hW => ⟨rfl, by rw [hU], by rw [hU]; exact hPc, va_K.moved hW.alike hK, hDc.weaken (fun _ _ _ _ => trivial), by rw [hU]; exact hk.1.1 _ s U H hW (hF H locs hP hD hS)⟩⟩ rfl hlen hl.1 rfl (lv_room hW) hdg hf
end
