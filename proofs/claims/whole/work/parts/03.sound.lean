/-! THE STRETCHES ARE SOUND -/
theorem wq_at {ls : Array Slot} {nL : Nat} {lv : wq_L} {i : Nat} {v : Value} (h : lv_has ls nL lv) (e : wq_lk lv i = some v) : ls[i]? = some (.val v) := by
  unfold wq_lk at e
  cases hf : lv.find? (fun q => q.1 == i) with
  | none => rw [hf] at e; cases e
  | some q =>
    rw [hf] at e
    have e2 : q.2 = v := Option.some.inj e
    have hq := List.mem_of_find?_eq_some hf
    have hp := List.find?_some hf
    have hi : q.1 = i := by simpa using hp
    have := h.2.2 q hq
    rw [hi, e2] at this
    exact this
theorem wq_ix {lv : wq_L} {i : Nat} {v : Value} (e : wq_lk lv i = some v) : ∃ k : Nat, lv[k]? = some (i, v) := by
  unfold wq_lk at e
  cases hf : lv.find? (fun q => q.1 == i) with
  | none => rw [hf] at e; cases e
  | some q =>
    rw [hf] at e
    have e2 : q.2 = v := Option.some.inj e
    have hq := List.mem_of_find?_eq_some hf
    have hp := List.find?_some hf
    have hi : q.1 = i := by simpa using hp
    obtain ⟨k, hk⟩ := List.getElem?_of_mem hq
    refine ⟨k, ?_⟩
    rw [hk, ← hi, ← e2]
theorem wq_ok_spec {ft : List (Nat × Nat × Nat × Nat)} {idx ci k : Nat} (h : wq_ok ft idx ci k = true) : ∃ q ∈ ft, q.1 = idx ∧ q.2.1 = ci ∧ q.2.2.1 = k := by
  unfold wq_ok at h
  obtain ⟨q, hq, e⟩ := List.any_eq_true.mp h
  simp only [Bool.and_eq_true] at e
  exact ⟨q, hq, Nat.eq_of_beq_eq_true e.1, Nat.eq_of_beq_eq_true e.2.1, Nat.eq_of_beq_eq_true e.2.2⟩
theorem wq_om_spec {ft : List (Nat × Nat × Nat × Nat)} {idx ci k md : Nat} (h : wq_om ft idx ci k md = true) : ∃ q ∈ ft, q.1 = idx ∧ q.2.1 = ci ∧ q.2.2.1 = k ∧ q.2.2.2 = md := by
  unfold wq_om at h
  obtain ⟨q, hq, e⟩ := List.any_eq_true.mp h
  simp only [Bool.and_eq_true] at e
  exact ⟨q, hq, Nat.eq_of_beq_eq_true e.1.1, Nat.eq_of_beq_eq_true e.1.2.1, Nat.eq_of_beq_eq_true e.1.2.2, Nat.eq_of_beq_eq_true e.2⟩
/-- the machine at pc with these locals, stack and cells comes to Q -/
def Vx (p : Program) (l : Launch) (e : Env) (R : Room) (s : State) (m : MethodId) (args : Array Value) (below : List Frame) (meth : Method) (c : Code) (nL : Nat) (D : va_G) (cl : List vw_C) (A : Nat → Prop) (Q : State → Prop) (pc : Nat) (lv : wq_L) (st : List Value) (ws : va_W) (k n : Nat) : Prop :=
  ∀ (H : Heap) (locs : List Loc) (ls : Array Slot), va_P D cl ws H → va_D A ws → va_S A s.heap H locs → lv_has ls nL lv → W p l e R s m args below meth c H locs k n Q (F0 m pc ls st)
def vx_ty (y : Nat) : FieldType := match y with
  | 0 => .int
  | 1 => .byte
  | 2 => .long
  | _ => .boolean
/-- what stays over a method's body -/
def Cx (p : Program) (s : State) (m : MethodId) (args : Array Value) (c : Code) (cc : ByteArray) (nL : Nat) (own : String) (Ts : List Cond) (D : va_G) (cl : List vw_C) (tys : List (ClassId × FieldType)) (A : Nat → Prop) (tc : Nat → ClassId) : Prop :=
  p.tables.exec = Jvm.exec ∧ c.code = cc ∧ c.maxLocals = nL ∧ s.vm.findClass own = some m.cls ∧ (∀ w ∈ Ts, w.before args s = true) ∧ va_K D cl tys s ∧ (∀ q : Nat, s.heap.size ≤ q → A q) ∧ ∀ i : Nat, i < 4 → tys[i]? = some (tc i, vx_ty i)
def vx_RT (A : Nat → Prop) (s : State) (y a N : Nat) (f : Nat → Value) : Prop := va_T (vx_ty y) a N f A s s.heap
def vx_RF (own : String) (args : Array Value) (A : Nat → Prop) (s : State) (idx a : Nat) (v : Value) : Prop := ∃ o n d ref : String, va_OF o n d v a A s s.heap ∧ ((Cond.fieldLink own idx ref n d).before args s = true ∨ ∃ host, (Cond.fieldLinkNest own idx ref n d host).before args s = true) ∧ ∀ x, s.fieldFound? o n d = some x → s.fieldFound? ref n d = some x
def vx_RZ (own : String) (args : Array Value) (A : Nat → Prop) (s : State) (idx : Nat) (v : Value) : Prop := ∃ C n d ref : String, va_Z C n d v A s s.heap ∧ ((Cond.fieldLink own idx ref n d).before args s = true ∨ ∃ host, (Cond.fieldLinkNest own idx ref n d host).before args s = true) ∧ ∀ x, s.fieldFound? C n d = some x → s.fieldFound? ref n d = some x
def vx_RS (own : String) (args : Array Value) (s : State) (idx : Nat) (v : Value) : Prop := (∃ x : Int32, v = .int x ∧ (Jvm.Cond.constant own idx x).before args s = true) ∨ (∃ x : Int64, v = .long x ∧ (Jvm.Cond.constantLong own idx x).before args s = true) ∨ ∃ (tx : String) (q : Nat), v = .ref q ∧ vk_R own idx tx q s
/-- a table of fields: (index, class, slot, 0 or 1 where it is final) -/
def vx_Ft (own : String) (Ts : List Cond) (cl : List vw_C) (ty : Nat → Nat → FieldType) (ft : List (Nat × Nat × Nat × Nat)) : Prop := ∀ q ∈ ft, ∃ (C : String) (T : u_T) (N : Nat), cl[q.2.1]? = some (C, T, N) ∧ q.2.2.1 < N ∧ (∀ w ∈ u_ws C T N, w ∈ Ts) ∧ (∀ j, j < N → parseFieldDescriptor (T j).2.2.1 = some (ty q.2.1 j)) ∧ (∀ a, a < N → ∀ b, b < N → a ≠ b → (T a).2.1 ≠ (T b).2.1) ∧
  (Cond.fieldLink own q.1 (T q.2.2.1).1 (T q.2.2.1).2.1 (T q.2.2.1).2.2.1 ∈ Ts ∨ ∃ host, Cond.fieldLinkNest own q.1 (T q.2.2.1).1 (T q.2.2.1).2.1 (T q.2.2.1).2.2.1 host ∈ Ts) ∧ (q.2.2.2 = 0 → (T q.2.2.1).2.2.2 = false) ∧ (q.2.2.2 = 1 → (T q.2.2.1).2.2.2 = true ∧ (T q.2.2.1).1 = own ∧ Cond.fieldLink own q.1 (T q.2.2.1).1 (T q.2.2.1).2.1 (T q.2.2.1).2.2.1 ∈ Ts)
/-- an instruction by itself: what comes behind it is enough -/
def vx_SX (cc : ByteArray) (V : Nat → wq_L → List Value → va_W → Nat → Nat → Prop) (ins : Jvm.ClassFile.Instr) (len : Nat) (st : List Value) (ws : va_W) (k n : Nat) (K : List Value → va_W → Nat → Nat → Prop) : Prop := ∀ (pc : Nat) (lv : wq_L), decode cc pc = .ok (ins, len) → (∀ (st2 : List Value) (ws2 : va_W) (k2 n2 : Nat), K st2 ws2 k2 n2 → V (pc + len) lv st2 ws2 k2 n2) → V pc lv st ws k n
/-- a method's ends -/
def vx_EN (cc : ByteArray) (EN : Option Value → va_W → Nat → Nat → Prop) (V : Nat → wq_L → List Value → va_W → Nat → Nat → Prop) : Prop := ∀ (r : Option Value) (ws : va_W) (k n pc : Nat) (lv : wq_L), EN r ws k n → (match r with
  | none => decode cc pc = .ok (.return_, 1)
  | some (.int _) => decode cc pc = .ok (.ireturn, 1)
  | some (.long _) => decode cc pc = .ok (.lreturn, 1)
  | some _ => decode cc pc = .ok (.areturn, 1)) → V pc lv r.toList ws k n
def wq_c (cc : ByteArray) (nL : Nat) : wq_J → Nat → Bool
  | [], _ => true
  | (ins, an) :: r, pc => (decide (decode cc pc = .ok (ins, wq_il an ins)) && wq_k nL an pc ins) && wq_c cc nL r (pc + wq_il an ins)
set_option maxHeartbeats 4000000 in
set_option maxRecDepth 100000 in
theorem wq_sound {p : Program} {l : Launch} {e : Env} {R : Room} {s : State} {m : MethodId} {args : Array Value} {below : List Frame} {meth : Method} {c : Code} {cc : ByteArray} {nL : Nat} {own : String} {Ts : List Cond} {D : va_G} {cl : List vw_C} {tys : List (ClassId × FieldType)} {A : Nat → Prop} {tc : Nat → ClassId} {Q : State → Prop} {ini : Bool} {EN : Option Value → va_W → Nat → Nat → Prop} {ft : List (Nat × Nat × Nat × Nat)} {ty : Nat → Nat → FieldType}
    (hC : Cx p s m args c cc nL own Ts D cl tys A tc) (hF : vx_Ft own Ts cl ty ft) (hini : ini = true → meth.name = "<init>") (hE : vx_EN cc EN (Vx p l e R s m args below meth c nL D cl A Q)) :
    ∀ (jc : wq_J) (pc : Nat) (lv : wq_L) (st : List Value) (ws : va_W) (k n : Nat), wq_c cc nL jc pc = true →
      wq nL ini tc ft ty (vx_RT A s) (vx_RF own args A s) (vx_RZ own args A s) (vx_RS own args s) (vx_SX cc (Vx p l e R s m args below meth c nL D cl A Q)) EN (Vx p l e R s m args below meth c nL D cl A Q) jc pc lv st ws k n → Vx p l e R s m args below meth c nL D cl A Q pc lv st ws k n := by
  obtain ⟨hx, hb, hml, hown, hts, hK, hA, hty⟩ := hC
  intro jc
  induction jc with
  | nil => intro pc lv st ws k n _ h; exact h
  | cons q r ih =>
    obtain ⟨ins, an⟩ := q
    intro pc lv st ws k n hc h
    rw [wq_c, Bool.and_eq_true, Bool.and_eq_true] at hc
    obtain ⟨⟨hc1, hk⟩, hc2⟩ := hc
    have hc1 : decode cc pc = .ok (ins, wq_il an ins) := of_decide_eq_true hc1
    cases ins
    case iconst =>
      unfold wq at h; dsimp only at h
      intro H locs ls hP hD hS hl
      exact lv_iconst hx hb hc1 (of_decide_eq_true hk) (ih _ _ _ _ _ _ hc2 h H locs ls hP hD hS hl)
    case bipush =>
      unfold wq at h; dsimp only at h
      intro H locs ls hP hD hS hl
      exact lv_bipush hx hb hc1 (of_decide_eq_true hk) (ih _ _ _ _ _ _ hc2 h H locs ls hP hD hS hl)
    case sipush =>
      unfold wq at h; dsimp only at h
      intro H locs ls hP hD hS hl
      exact lv_sipush hx hb hc1 (of_decide_eq_true hk) (ih _ _ _ _ _ _ hc2 h H locs ls hP hD hS hl)
    case lconst =>
      unfold wq at h; dsimp only at h
      intro H locs ls hP hD hS hl
      exact lv_lconst hx hb hc1 (of_decide_eq_true hk) (ih _ _ _ _ _ _ hc2 h H locs ls hP hD hS hl)
    case aconst_null =>
      unfold wq at h; dsimp only at h
      intro H locs ls hP hD hS hl
      exact lv_null hx hb hc1 (ih _ _ _ _ _ _ hc2 h H locs ls hP hD hS hl)
    case iload_n =>
      unfold wq at h; dsimp only at h
      split at h
      · intro H locs ls hP hD hS hl
        exact lv_iload_n hx hb hc1 rfl (wq_at hl ‹wq_lk _ _ = some _›) (ih _ _ _ _ _ _ hc2 h H locs ls hP hD hS hl)
      · exact h
    case lload_n =>
      unfold wq at h; dsimp only at h
      split at h
      · intro H locs ls hP hD hS hl
        exact lv_lload_n hx hb hc1 rfl (wq_at hl ‹wq_lk _ _ = some _›) (ih _ _ _ _ _ _ hc2 h H locs ls hP hD hS hl)
      · exact h
    case iload =>
      unfold wq at h; dsimp only at h
      split at h
      · intro H locs ls hP hD hS hl
        exact lv_iload hx hb hc1 (wq_at hl ‹wq_lk _ _ = some _›) (ih _ _ _ _ _ _ hc2 h H locs ls hP hD hS hl)
      · exact h
    case lload =>
      unfold wq at h; dsimp only at h
      split at h
      · intro H locs ls hP hD hS hl
        exact lv_lload hx hb hc1 (wq_at hl ‹wq_lk _ _ = some _›) (ih _ _ _ _ _ _ hc2 h H locs ls hP hD hS hl)
      · exact h
    case aload_n =>
      unfold wq at h; dsimp only at h
      split at h
      · intro H locs ls hP hD hS hl
        exact lv_aload_n hx hb hc1 rfl (wq_at hl ‹wq_lk _ _ = some _›) (ih _ _ _ _ _ _ hc2 h H locs ls hP hD hS hl)
      · intro H locs ls hP hD hS hl
        exact lv_aload_nN hx hb hc1 rfl (wq_at hl ‹wq_lk _ _ = some _›) (ih _ _ _ _ _ _ hc2 h H locs ls hP hD hS hl)
      · exact h
    case aload =>
      unfold wq at h; dsimp only at h
      split at h
      · intro H locs ls hP hD hS hl
        exact lv_aload hx hb hc1 (wq_at hl ‹wq_lk _ _ = some _›) (ih _ _ _ _ _ _ hc2 h H locs ls hP hD hS hl)
      · intro H locs ls hP hD hS hl
        exact lv_aloadN hx hb hc1 (wq_at hl ‹wq_lk _ _ = some _›) (ih _ _ _ _ _ _ hc2 h H locs ls hP hD hS hl)
      · exact h
    case istore_n =>
      unfold wq at h; dsimp only at h
      split at h
      · intro H locs ls hP hD hS hl
        exact lv_istore_n hx hb hc1 rfl hl (of_decide_eq_true hk) rfl (fun ls hl => ih _ _ _ _ _ _ hc2 h H locs ls hP hD hS hl)
      · exact h
    case istore =>
      unfold wq at h; dsimp only at h
      split at h
      · intro H locs ls hP hD hS hl
        exact lv_istore hx hb hc1 hl (of_decide_eq_true hk) rfl (fun ls hl => ih _ _ _ _ _ _ hc2 h H locs ls hP hD hS hl)
      · exact h
    case lstore_n =>
      unfold wq at h; dsimp only at h
      split at h
      · intro H locs ls hP hD hS hl
        exact lv_lstore_n hx hb hc1 rfl hl (of_decide_eq_true hk) rfl (fun ls hl => ih _ _ _ _ _ _ hc2 h H locs ls hP hD hS hl)
      · exact h
    case lstore =>
      unfold wq at h; dsimp only at h
      split at h
      · intro H locs ls hP hD hS hl
        exact lv_lstore hx hb hc1 hl (of_decide_eq_true hk) rfl (fun ls hl => ih _ _ _ _ _ _ hc2 h H locs ls hP hD hS hl)
      · exact h
    case astore_n =>
      unfold wq at h; dsimp only at h
      split at h
      · intro H locs ls hP hD hS hl
        exact lv_astore_n hx hb hc1 rfl hl (of_decide_eq_true hk) rfl (fun ls hl => ih _ _ _ _ _ _ hc2 h H locs ls hP hD hS hl)
      · intro H locs ls hP hD hS hl
        exact lv_astore_nN hx hb hc1 rfl hl (of_decide_eq_true hk) rfl (fun ls hl => ih _ _ _ _ _ _ hc2 h H locs ls hP hD hS hl)
      · exact h
    case astore =>
      unfold wq at h; dsimp only at h
      split at h
      · intro H locs ls hP hD hS hl
        exact lv_astore hx hb hc1 hl (of_decide_eq_true hk) rfl (fun ls hl => ih _ _ _ _ _ _ hc2 h H locs ls hP hD hS hl)
      · intro H locs ls hP hD hS hl
        exact lv_astoreN hx hb hc1 hl (of_decide_eq_true hk) rfl (fun ls hl => ih _ _ _ _ _ _ hc2 h H locs ls hP hD hS hl)
      · exact h
    case iinc =>
      unfold wq at h; dsimp only at h
      have hk := Bool.and_eq_true_iff.mp hk
      split at h
      · intro H locs ls hP hD hS hl
        obtain ⟨j, hj⟩ := wq_ix ‹wq_lk _ _ = some _›
        exact lv_iinc hx hb hc1 hl hj (by rw [of_decide_eq_true hk.1]) (of_decide_eq_true hk.2) rfl (fun ls hl => ih _ _ _ _ _ _ hc2 h H locs ls hP hD hS hl)
      · exact h
    case iadd =>
      unfold wq at h; dsimp only at h
      split at h
      · intro H locs ls hP hD hS hl
        exact lv_iadd hx hb hc1 (ih _ _ _ _ _ _ hc2 h H locs ls hP hD hS hl)
      · exact h
    case isub =>
      unfold wq at h; dsimp only at h
      split at h
      · intro H locs ls hP hD hS hl
        exact lv_isub hx hb hc1 (ih _ _ _ _ _ _ hc2 h H locs ls hP hD hS hl)
      · exact h
    case imul =>
      unfold wq at h; dsimp only at h
      split at h
      · intro H locs ls hP hD hS hl
        exact lv_imul hx hb hc1 (ih _ _ _ _ _ _ hc2 h H locs ls hP hD hS hl)
      · exact h
    case iand =>
      unfold wq at h; dsimp only at h
      split at h
      · intro H locs ls hP hD hS hl
        exact lv_iand hx hb hc1 (ih _ _ _ _ _ _ hc2 h H locs ls hP hD hS hl)
      · exact h
    case ior =>
      unfold wq at h; dsimp only at h
      split at h
      · intro H locs ls hP hD hS hl
        exact lv_ior hx hb hc1 (ih _ _ _ _ _ _ hc2 h H locs ls hP hD hS hl)
      · exact h
    case ixor =>
      unfold wq at h; dsimp only at h
      split at h
      · intro H locs ls hP hD hS hl
        exact lv_ixor hx hb hc1 (ih _ _ _ _ _ _ hc2 h H locs ls hP hD hS hl)
      · exact h
    case ladd =>
      unfold wq at h; dsimp only at h
      split at h
      · intro H locs ls hP hD hS hl
        exact lv_ladd hx hb hc1 (ih _ _ _ _ _ _ hc2 h H locs ls hP hD hS hl)
      · exact h
    case lsub =>
      unfold wq at h; dsimp only at h
      split at h
      · intro H locs ls hP hD hS hl
        exact lv_lsub hx hb hc1 (ih _ _ _ _ _ _ hc2 h H locs ls hP hD hS hl)
      · exact h
    case lmul =>
      unfold wq at h; dsimp only at h
      split at h
      · intro H locs ls hP hD hS hl
        exact lv_lmul hx hb hc1 (ih _ _ _ _ _ _ hc2 h H locs ls hP hD hS hl)
      · exact h
    case land =>
      unfold wq at h; dsimp only at h
      split at h
      · intro H locs ls hP hD hS hl
        exact lv_land hx hb hc1 (ih _ _ _ _ _ _ hc2 h H locs ls hP hD hS hl)
      · exact h
    case lor =>
      unfold wq at h; dsimp only at h
      split at h
      · intro H locs ls hP hD hS hl
        exact lv_lor hx hb hc1 (ih _ _ _ _ _ _ hc2 h H locs ls hP hD hS hl)
      · exact h
    case lxor =>
      unfold wq at h; dsimp only at h
      split at h
      · intro H locs ls hP hD hS hl
        exact lv_lxor hx hb hc1 (ih _ _ _ _ _ _ hc2 h H locs ls hP hD hS hl)
      · exact h
    case ishl =>
      unfold wq at h; dsimp only at h
      split at h
      · intro H locs ls hP hD hS hl
        exact lv_ishl hx hb hc1 (ih _ _ _ _ _ _ hc2 h H locs ls hP hD hS hl)
      · exact h
    case ishr =>
      unfold wq at h; dsimp only at h
      split at h
      · intro H locs ls hP hD hS hl
        exact lv_ishr hx hb hc1 (ih _ _ _ _ _ _ hc2 h H locs ls hP hD hS hl)
      · exact h
    case ineg =>
      unfold wq at h; dsimp only at h
      split at h
      · intro H locs ls hP hD hS hl
        exact lv_ineg hx hb hc1 (ih _ _ _ _ _ _ hc2 h H locs ls hP hD hS hl)
      · exact h
    case lneg =>
      unfold wq at h; dsimp only at h
      split at h
      · intro H locs ls hP hD hS hl
        exact lv_lneg hx hb hc1 (ih _ _ _ _ _ _ hc2 h H locs ls hP hD hS hl)
      · exact h
    case iushr =>
      unfold wq at h; dsimp only at h
      split at h
      · intro H locs ls hP hD hS hl
        exact lv_iushr hx hb hc1 rfl (ih _ _ _ _ _ _ hc2 h H locs ls hP hD hS hl)
      · exact h
    case lshl =>
      unfold wq at h; dsimp only at h
      split at h
      · intro H locs ls hP hD hS hl
        exact lv_lshl hx hb hc1 rfl (ih _ _ _ _ _ _ hc2 h H locs ls hP hD hS hl)
      · exact h
    case lshr =>
      unfold wq at h; dsimp only at h
      split at h
      · intro H locs ls hP hD hS hl
        exact lv_lshr hx hb hc1 rfl (ih _ _ _ _ _ _ hc2 h H locs ls hP hD hS hl)
      · exact h
    case lushr =>
      unfold wq at h; dsimp only at h
      split at h
      · intro H locs ls hP hD hS hl
        exact lv_lushr hx hb hc1 rfl (ih _ _ _ _ _ _ hc2 h H locs ls hP hD hS hl)
      · exact h
    case i2l =>
      unfold wq at h; dsimp only at h
      split at h
      · intro H locs ls hP hD hS hl
        exact lv_i2l hx hb hc1 rfl (ih _ _ _ _ _ _ hc2 h H locs ls hP hD hS hl)
      · exact h
    case l2i =>
      unfold wq at h; dsimp only at h
      split at h
      · intro H locs ls hP hD hS hl
        exact lv_l2i hx hb hc1 rfl (ih _ _ _ _ _ _ hc2 h H locs ls hP hD hS hl)
      · exact h
    case i2b =>
      unfold wq at h; dsimp only at h
      split at h
      · intro H locs ls hP hD hS hl
        exact lv_i2b hx hb hc1 rfl (ih _ _ _ _ _ _ hc2 h H locs ls hP hD hS hl)
      · exact h
    case i2s =>
      unfold wq at h; dsimp only at h
      split at h
      · intro H locs ls hP hD hS hl
        exact lv_i2s hx hb hc1 rfl (ih _ _ _ _ _ _ hc2 h H locs ls hP hD hS hl)
      · exact h
    case i2c =>
      unfold wq at h; dsimp only at h
      split at h
      · intro H locs ls hP hD hS hl
        exact lv_i2c hx hb hc1 rfl (ih _ _ _ _ _ _ hc2 h H locs ls hP hD hS hl)
      · exact h
    case idiv =>
      unfold wq at h; dsimp only at h
      split at h
      · obtain ⟨hne, h⟩ := h
        intro H locs ls hP hD hS hl
        exact lv_idiv hx hb hc1 hne (ih _ _ _ _ _ _ hc2 h H locs ls hP hD hS hl)
      · exact h
    case irem =>
      unfold wq at h; dsimp only at h
      split at h
      · obtain ⟨hne, h⟩ := h
        intro H locs ls hP hD hS hl
        exact lv_irem hx hb hc1 hne (ih _ _ _ _ _ _ hc2 h H locs ls hP hD hS hl)
      · exact h
    case ldiv =>
      unfold wq at h; dsimp only at h
      split at h
      · obtain ⟨hne, h⟩ := h
        intro H locs ls hP hD hS hl
        exact lv_ldiv hx hb hc1 hne (ih _ _ _ _ _ _ hc2 h H locs ls hP hD hS hl)
      · exact h
    case lrem =>
      unfold wq at h; dsimp only at h
      split at h
      · obtain ⟨hne, h⟩ := h
        intro H locs ls hP hD hS hl
        exact lv_lrem hx hb hc1 hne (ih _ _ _ _ _ _ hc2 h H locs ls hP hD hS hl)
      · exact h
    case lcmp =>
      unfold wq at h; dsimp only at h
      split at h
      · intro H locs ls hP hD hS hl
        exact W.lcmp hx hb hc1 (ih _ _ _ _ _ _ hc2 h H locs ls hP hD hS hl)
      · exact h
    case dup =>
      unfold wq at h; dsimp only at h
      split at h
      · obtain ⟨h1, h⟩ := h
        intro H locs ls hP hD hS hl
        exact lv_dup hx hb hc1 h1 (ih _ _ _ _ _ _ hc2 h H locs ls hP hD hS hl)
      · exact h
    case pop =>
      unfold wq at h; dsimp only at h
      split at h
      · obtain ⟨h1, h⟩ := h
        intro H locs ls hP hD hS hl
        exact lv_pop hx hb hc1 h1 (ih _ _ _ _ _ _ hc2 h H locs ls hP hD hS hl)
      · exact h
    case dup_x1 =>
      unfold wq at h; dsimp only at h
      split at h
      · obtain ⟨h1, h2, h⟩ := h
        intro H locs ls hP hD hS hl
        exact lv_dup_x1 hx hb hc1 h1 h2 (ih _ _ _ _ _ _ hc2 h H locs ls hP hD hS hl)
      · exact h
    case dup2 =>
      unfold wq at h; dsimp only at h
      split at h
      · intro H locs ls hP hD hS hl
        exact lv_dup2_2 hx hb hc1 rfl (ih _ _ _ _ _ _ hc2 h H locs ls hP hD hS hl)
      · obtain ⟨h1, h2, h⟩ := h
        intro H locs ls hP hD hS hl
        exact lv_dup2_11 hx hb hc1 h1 h2 (ih _ _ _ _ _ _ hc2 h H locs ls hP hD hS hl)
      · exact h
    case ifCond =>
      rename_i cond off _
      cases cond
      case eq =>
        unfold wq at h; dsimp only at h
        split at h
        · intro H locs ls hP hD hS hl
          exact lv_if_eq hx hb hc1 (of_decide_eq_true hk) (fun z => h.1 z H locs ls hP hD hS hl) (fun z => ih _ _ _ _ _ _ hc2 (h.2 z) H locs ls hP hD hS hl)
        · exact h
      case ne =>
        unfold wq at h; dsimp only at h
        split at h
        · intro H locs ls hP hD hS hl
          exact lv_if_ne hx hb hc1 (of_decide_eq_true hk) (fun z => h.1 z H locs ls hP hD hS hl) (fun z => ih _ _ _ _ _ _ hc2 (h.2 z) H locs ls hP hD hS hl)
        · exact h
      case lt =>
        unfold wq at h; dsimp only at h
        split at h
        · intro H locs ls hP hD hS hl
          exact lv_if_lt hx hb hc1 (of_decide_eq_true hk) (fun z => h.1 z H locs ls hP hD hS hl) (fun z => ih _ _ _ _ _ _ hc2 (h.2 z) H locs ls hP hD hS hl)
        · exact h
      case ge =>
        unfold wq at h; dsimp only at h
        split at h
        · intro H locs ls hP hD hS hl
          exact lv_if_ge hx hb hc1 (of_decide_eq_true hk) (fun z => h.1 z H locs ls hP hD hS hl) (fun z => ih _ _ _ _ _ _ hc2 (h.2 z) H locs ls hP hD hS hl)
        · exact h
      case gt =>
        unfold wq at h; dsimp only at h
        split at h
        · intro H locs ls hP hD hS hl
          exact lv_if_gt hx hb hc1 (of_decide_eq_true hk) (fun z => h.1 z H locs ls hP hD hS hl) (fun z => ih _ _ _ _ _ _ hc2 (h.2 z) H locs ls hP hD hS hl)
        · exact h
      case le =>
        unfold wq at h; dsimp only at h
        split at h
        · intro H locs ls hP hD hS hl
          exact lv_if_le hx hb hc1 (of_decide_eq_true hk) (fun z => h.1 z H locs ls hP hD hS hl) (fun z => ih _ _ _ _ _ _ hc2 (h.2 z) H locs ls hP hD hS hl)
        · exact h
    case if_icmp =>
      rename_i cond off _
      cases cond
      case eq =>
        unfold wq at h; dsimp only at h
        split at h
        · intro H locs ls hP hD hS hl
          exact lv_icmp_eq hx hb hc1 (of_decide_eq_true hk) (fun z => h.1 z H locs ls hP hD hS hl) (fun z => ih _ _ _ _ _ _ hc2 (h.2 z) H locs ls hP hD hS hl)
        · exact h
      case ne =>
        unfold wq at h; dsimp only at h
        split at h
        · intro H locs ls hP hD hS hl
          exact lv_icmp_ne hx hb hc1 (of_decide_eq_true hk) (fun z => h.1 z H locs ls hP hD hS hl) (fun z => ih _ _ _ _ _ _ hc2 (h.2 z) H locs ls hP hD hS hl)
        · exact h
      case lt =>
        unfold wq at h; dsimp only at h
        split at h
        · intro H locs ls hP hD hS hl
          exact lv_icmp_lt hx hb hc1 (of_decide_eq_true hk) (fun z => h.1 z H locs ls hP hD hS hl) (fun z => ih _ _ _ _ _ _ hc2 (h.2 z) H locs ls hP hD hS hl)
        · exact h
      case ge =>
        unfold wq at h; dsimp only at h
        split at h
        · intro H locs ls hP hD hS hl
          exact lv_icmp_ge hx hb hc1 (of_decide_eq_true hk) (fun z => h.1 z H locs ls hP hD hS hl) (fun z => ih _ _ _ _ _ _ hc2 (h.2 z) H locs ls hP hD hS hl)
        · exact h
      case gt =>
        unfold wq at h; dsimp only at h
        split at h
        · intro H locs ls hP hD hS hl
          exact lv_icmp_gt hx hb hc1 (of_decide_eq_true hk) (fun z => h.1 z H locs ls hP hD hS hl) (fun z => ih _ _ _ _ _ _ hc2 (h.2 z) H locs ls hP hD hS hl)
        · exact h
      case le =>
        unfold wq at h; dsimp only at h
        split at h
        · intro H locs ls hP hD hS hl
          exact lv_icmp_le hx hb hc1 (of_decide_eq_true hk) (fun z => h.1 z H locs ls hP hD hS hl) (fun z => ih _ _ _ _ _ _ hc2 (h.2 z) H locs ls hP hD hS hl)
        · exact h
    case ifnull =>
      unfold wq at h; dsimp only at h
      split at h
      · intro H locs ls hP hD hS hl
        exact lv_ifnull hx hb hc1 (ih _ _ _ _ _ _ hc2 h H locs ls hP hD hS hl)
      · intro H locs ls hP hD hS hl
        exact lv_ifnullN hx hb hc1 (of_decide_eq_true hk) (h H locs ls hP hD hS hl)
      · exact h
    case ifnonnull =>
      unfold wq at h; dsimp only at h
      split at h
      · intro H locs ls hP hD hS hl
        exact lv_ifnonnull hx hb hc1 (of_decide_eq_true hk) (h H locs ls hP hD hS hl)
      · intro H locs ls hP hD hS hl
        exact lv_ifnonnullN hx hb hc1 (ih _ _ _ _ _ _ hc2 h H locs ls hP hD hS hl)
      · exact h
    case goto =>
      unfold wq at h; dsimp only at h
      intro H locs ls hP hD hS hl
      exact lv_goto hx hb hc1 (of_decide_eq_true hk) (h H locs ls hP hD hS hl)
    case getfield =>
      unfold wq at h; dsimp only at h
      split at h
      · split at h
        · split at h
          · obtain ⟨rfl, h⟩ := h
            obtain ⟨⟨i0, c0, k0, m0⟩, hq, rfl, rfl, e3⟩ := wq_ok_spec ‹wq_ok _ _ _ _ = true›
            obtain ⟨C, T, N, g1, g2, g3, g4, g5, g6, g7⟩ := hF _ hq
            dsimp only at e3 g1 g2 g6
            subst e3
            intro H locs ls hP hD hS hl
            rcases g6 with g6 | ⟨host, g6⟩
            · exact va_get hx hb hts g3 hown hK hP _ ‹ws[_]? = some _› g1 _ g2 (hts _ g6) (fun _ z => z) ‹_[_]? = some _› hc1 (ih _ _ _ _ _ _ hc2 h H locs ls hP hD hS hl)
            · exact va_getN hx hb hts g3 hown hK hP _ ‹ws[_]? = some _› g1 _ g2 (hts _ g6) (fun _ z => z) ‹_[_]? = some _› hc1 (ih _ _ _ _ _ _ hc2 h H locs ls hP hD hS hl)
          · exact h
        · exact h
      · split at h
        · obtain ⟨v, ⟨o, nn, d, ref, q1, q2, q3⟩, h⟩ := h
          intro H locs ls hP hD hS hl
          rcases q2 with q2 | ⟨host, q2⟩
          · exact vk_getf hx hb q1 hS hown q2 q3 hc1 (ih _ _ _ _ _ _ hc2 h H locs ls hP hD hS hl)
          · obtain ⟨cf, kf, fi, ff, cell, z1, z2, z3, z4, z5, z6⟩ := q1
            exact va_Wgetf hx hb hown q2 (q3 _ z1) z2 ((hS.2.1 _ (Array.getElem?_eq_some_iff.mp z3).1 z6).trans z3) z4 z5 rfl rfl hc1 (ih _ _ _ _ _ _ hc2 h H locs ls hP hD hS hl)
        · exact h
      · exact h pc lv hc1 (fun st2 ws2 k2 n2 z => ih _ _ _ _ _ _ hc2 z)
    case putfield =>
      unfold wq at h; dsimp only at h
      split at h
      · split at h
        · split at h
          · obtain ⟨rfl, ⟨h1, h2⟩, h⟩ := h
            obtain ⟨⟨i0, c0, k0, m0⟩, hq, rfl, rfl, e3, e4⟩ := wq_om_spec ‹wq_om _ _ _ _ _ = true›
            obtain ⟨C, T, N, g1, g2, g3, g4, g5, g6, g7, g8⟩ := hF _ hq
            dsimp only at e3 e4 g1 g2 g6 g7 g8
            subst e3
            subst e4
            intro H locs ls hP hD hS hl
            rcases g6 with g6 | ⟨host, g6⟩
            · exact va_put hx hb hts g3 (ty c0) g4 g5 hown hK hP hD hS _ ‹ws[_]? = some _› g1 _ g2 (hts _ g6) (fun _ z => z) (g7 rfl) (g4 _ g2) h1 h2 (Nat.le_of_ble_eq_true ‹Nat.blt _ _ = true›) hc1 (fun H locs hP hD hS => ih _ _ _ _ _ _ hc2 h H locs ls hP hD hS hl)
            · exact va_putN hx hb hts g3 (ty c0) g4 g5 hown hK hP hD hS _ ‹ws[_]? = some _› g1 _ g2 (hts _ g6) (fun _ z => z) (g7 rfl) (g4 _ g2) h1 h2 (Nat.le_of_ble_eq_true ‹Nat.blt _ _ = true›) hc1 (fun H locs hP hD hS => ih _ _ _ _ _ _ hc2 h H locs ls hP hD hS hl)
          · exact h
        · exact h
      · split at h
        · split at h
          · obtain ⟨rfl, ⟨h1, h2⟩, h⟩ := h
            obtain ⟨⟨i0, c0, k0, m0⟩, hq, rfl, rfl, e3, e4⟩ := wq_om_spec ‹wq_om _ _ _ _ _ = true›
            obtain ⟨C, T, N, g1, g2, g3, g4, g5, g6, g7, g8⟩ := hF _ hq
            dsimp only at e3 e4 g1 g2 g6 g7 g8
            subst e3
            subst e4
            intro H locs ls hP hD hS hl
            obtain ⟨f1, f2, f3⟩ := g8 rfl
            exact va_putF hx hb hts g3 (ty c0) g4 g5 hown hK hP hD hS _ ‹ws[_]? = some _› g1 _ g2 (hts _ f3) (fun _ z => z) f1 (hini rfl) f2 (g4 _ g2) h1 h2 (Nat.le_of_ble_eq_true ‹Nat.blt _ _ = true›) hc1 (fun H locs hP hD hS => ih _ _ _ _ _ _ hc2 h H locs ls hP hD hS hl)
          · exact h
        · exact h
      · exact h pc lv hc1 (fun st2 ws2 k2 n2 z => ih _ _ _ _ _ _ hc2 z)
    case getstatic =>
      unfold wq at h; dsimp only at h
      split at h
      · obtain ⟨v, ⟨C, nn, d, ref, q1, q2, q3⟩, h⟩ := h
        intro H locs ls hP hD hS hl
        rcases q2 with q2 | ⟨host, q2⟩
        · exact va_gets hx hb q1 hS hown q2 q3 hc1 (ih _ _ _ _ _ _ hc2 h H locs ls hP hD hS hl)
        · exact va_getsN hx hb q1 hS hown q2 q3 hc1 (ih _ _ _ _ _ _ hc2 h H locs ls hP hD hS hl)
      · exact h pc lv hc1 (fun st2 ws2 k2 n2 z => ih _ _ _ _ _ _ hc2 z)
    case ldc =>
      unfold wq at h; dsimp only at h
      split at h
      · obtain ⟨q1, h⟩ := h
        intro H locs ls hP hD hS hl
        rcases q1 with ⟨x, e1, q1⟩ | ⟨x, e1, q1⟩ | ⟨tx, q, e1, q1⟩
        · cases e1
          exact lv_ldc hx hb hown q1 hc1 (ih _ _ _ _ _ _ hc2 h H locs ls hP hD hS hl)
        · cases e1
        · cases e1
      · obtain ⟨a, q1, h⟩ := h
        intro H locs ls hP hD hS hl
        rcases q1 with ⟨x, e1, q1⟩ | ⟨x, e1, q1⟩ | ⟨tx, q, e1, q1⟩
        · cases e1
        · cases e1
        · cases e1
          exact va_ldcS hx hb hown q1 hc1 (ih _ _ _ _ _ _ hc2 h H locs ls hP hD hS hl)
      · exact h pc lv hc1 (fun st2 ws2 k2 n2 z => ih _ _ _ _ _ _ hc2 z)
    case ldc2_w =>
      unfold wq at h; dsimp only at h
      split at h
      · obtain ⟨q1, h⟩ := h
        intro H locs ls hP hD hS hl
        rcases q1 with ⟨x, e1, q1⟩ | ⟨x, e1, q1⟩ | ⟨tx, q, e1, q1⟩
        · cases e1
        · cases e1
          exact lv_ldc2 hx hb hown q1 hc1 (ih _ _ _ _ _ _ hc2 h H locs ls hP hD hS hl)
        · cases e1
      · exact h pc lv hc1 (fun st2 ws2 k2 n2 z => ih _ _ _ _ _ _ hc2 z)
    case iaload =>
      unfold wq at h; dsimp only at h
      split at h
      · split at h
        · obtain ⟨rfl, rfl, h1, h⟩ := h
          intro H locs ls hP hD hS hl
          exact va_iald hx hb hK hP _ 0 ‹ws[_]? = some _› (hty 0 (by decide)) h1 hc1 (ih _ _ _ _ _ _ hc2 h H locs ls hP hD hS hl)
        · exact h
      · split at h
        · obtain ⟨N, f, h1, h2, h⟩ := h
          intro H locs ls hP hD hS hl
          exact va_ti hx hb h1 hS h2 rfl hc1 (ih _ _ _ _ _ _ hc2 h H locs ls hP hD hS hl)
        · exact h
      · exact h pc lv hc1 (fun st2 ws2 k2 n2 z => ih _ _ _ _ _ _ hc2 z)
    case baload =>
      unfold wq at h; dsimp only at h
      split at h
      · split at h
        · obtain ⟨rfl, rfl, h1, h⟩ := h
          intro H locs ls hP hD hS hl
          exact va_bald hx hb hK hP _ 1 ‹ws[_]? = some _› (hty 1 (by decide)) h1 hc1 (ih _ _ _ _ _ _ hc2 h H locs ls hP hD hS hl)
        · exact h
      · split at h
        · obtain ⟨rfl, rfl, h1, h⟩ := h
          intro H locs ls hP hD hS hl
          exact va_zald hx hb hK hP _ 3 ‹ws[_]? = some _› (hty 3 (by decide)) h1 hc1 (ih _ _ _ _ _ _ hc2 h H locs ls hP hD hS hl)
        · exact h
      · split at h
        · obtain ⟨N, f, h1, h2, h⟩ := h
          intro H locs ls hP hD hS hl
          exact va_tb hx hb h1 hS h2 rfl hc1 (ih _ _ _ _ _ _ hc2 h H locs ls hP hD hS hl)
        · exact h
      · exact h pc lv hc1 (fun st2 ws2 k2 n2 z => ih _ _ _ _ _ _ hc2 z)
    case laload =>
      unfold wq at h; dsimp only at h
      split at h
      · split at h
        · obtain ⟨rfl, rfl, h1, h⟩ := h
          intro H locs ls hP hD hS hl
          exact va_lald hx hb hK hP _ 2 ‹ws[_]? = some _› (hty 2 (by decide)) h1 hc1 (ih _ _ _ _ _ _ hc2 h H locs ls hP hD hS hl)
        · exact h
      · split at h
        · obtain ⟨N, f, h1, h2, h⟩ := h
          intro H locs ls hP hD hS hl
          exact va_tl hx hb h1 hS h2 rfl hc1 (ih _ _ _ _ _ _ hc2 h H locs ls hP hD hS hl)
        · exact h
      · exact h pc lv hc1 (fun st2 ws2 k2 n2 z => ih _ _ _ _ _ _ hc2 z)
    case iastore =>
      unfold wq at h; dsimp only at h
      split at h
      · split at h
        · obtain ⟨rfl, rfl, h1, h⟩ := h
          intro H locs ls hP hD hS hl
          exact va_iast hx hb hK hP hD hS _ 0 ‹ws[_]? = some _› (hty 0 (by decide)) h1 hc1 (fun H locs hP hD hS => ih _ _ _ _ _ _ hc2 h H locs ls hP hD hS hl)
        · exact h
      · exact h pc lv hc1 (fun st2 ws2 k2 n2 z => ih _ _ _ _ _ _ hc2 z)
    case bastore =>
      unfold wq at h; dsimp only at h
      split at h
      · split at h
        · obtain ⟨rfl, rfl, h1, h⟩ := h
          intro H locs ls hP hD hS hl
          exact va_bast hx hb hK hP hD hS _ 1 ‹ws[_]? = some _› (hty 1 (by decide)) h1 hc1 (fun H locs hP hD hS => ih _ _ _ _ _ _ hc2 h H locs ls hP hD hS hl)
        · exact h
      · split at h
        · obtain ⟨rfl, rfl, h1, h⟩ := h
          intro H locs ls hP hD hS hl
          exact va_zast hx hb hK hP hD hS _ 3 ‹ws[_]? = some _› (hty 3 (by decide)) h1 hc1 (fun H locs hP hD hS => ih _ _ _ _ _ _ hc2 h H locs ls hP hD hS hl)
        · exact h
      · exact h pc lv hc1 (fun st2 ws2 k2 n2 z => ih _ _ _ _ _ _ hc2 z)
    case lastore =>
      unfold wq at h; dsimp only at h
      split at h
      · split at h
        · obtain ⟨rfl, rfl, h1, h⟩ := h
          intro H locs ls hP hD hS hl
          exact va_last hx hb hK hP hD hS _ 2 ‹ws[_]? = some _› (hty 2 (by decide)) h1 hc1 (fun H locs hP hD hS => ih _ _ _ _ _ _ hc2 h H locs ls hP hD hS hl)
        · exact h
      · exact h pc lv hc1 (fun st2 ws2 k2 n2 z => ih _ _ _ _ _ _ hc2 z)
    case arraylength =>
      unfold wq at h; dsimp only at h
      split at h
      · split at h
        · obtain ⟨rfl, ⟨y, hy, rfl⟩, h⟩ := h
          intro H locs ls hP hD hS hl
          have he := ‹ws[_]? = some _›
          exact va_alen hx hb hK hP _ y he (hty y hy) rfl hc1 (ih _ _ _ _ _ _ hc2 h H locs ls hP hD hS hl)
        · exact h
      · split at h
        · obtain ⟨y, N, f, h1, h⟩ := h
          intro H locs ls hP hD hS hl
          exact va_tlen hx hb h1 hS rfl hc1 (ih _ _ _ _ _ _ hc2 h H locs ls hP hD hS hl)
        · exact h
      · exact h pc lv hc1 (fun st2 ws2 k2 n2 z => ih _ _ _ _ _ _ hc2 z)
    case ireturn =>
      unfold wq at h; dsimp only at h
      split at h
      · exact hE _ _ _ _ _ _ h hc1
      · exact h
    case lreturn =>
      unfold wq at h; dsimp only at h
      split at h
      · exact hE _ _ _ _ _ _ h hc1
      · exact h
    case return_ =>
      unfold wq at h; dsimp only at h
      split at h
      · exact hE _ _ _ _ _ _ h hc1
      · exact h
    case areturn =>
      unfold wq at h; dsimp only at h
      split at h
      · exact hE _ _ _ _ _ _ h hc1
      · exact hE _ _ _ _ _ _ h hc1
      · exact h
    case tableswitch =>
      unfold wq at h; dsimp only at h
      exact h
    case lookupswitch =>
      unfold wq at h; dsimp only at h
      exact h
    all_goals exact h pc lv hc1 (fun st2 ws2 k2 n2 z => ih _ _ _ _ _ _ hc2 z)
