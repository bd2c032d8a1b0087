/-! STEPS: arrays and objects are made, references are read, a stretch is copied (wip/whole/gen/p75.py) -/
section
variable {p : Program} {l : Launch} {e : Env} {R : Room} {s : State} {m : MethodId} {args : Array Value} {below : List Frame} {meth : Method} {c : Code} {cc : ByteArray} {nL : Nat} {D : va_G} {tys : List (ClassId × FieldType)} {A : Nat → Prop} {tc : Nat → ClassId} {Q : State → Prop} {st rest : List Value} {k n : Nat} {K : List Value → va_W → Nat → Nat → Prop} {y0 : MethodName} {b0 : ByteArray} {n0 index : Nat} {r0 : Option FieldType} {own : String} {ws : va_W}
theorem sx_aaO {cA : ClassId} {ty : FieldType} {a N : Nat} {f : Nat → Option Nat} {Ts : List Cond} (hC : Cx p s m args c cc nL own Ts D cls tys A tc) (q0 t0 : Nat) (ha : ws[q0]? = some (a, .inl (cA, N, .inr (.inr (.inr (.inr f)))))) (ht : tys[t0]? = some (cA, ty)) (hr : ty.isReference = true) {i : Int32} (hin : vp_in i N) {v : Value} (hv : va_rf (f i.toNatClampNeg) = v) (kk : K (v :: rest) ws k n) : vx_SX cc (Vx p l e R s m args below meth c nL D cls A Q) .aaload 1 (.int i :: .ref a :: rest) ws k n K := by
  intro pc lv hdg hK H locs ls hP hD hS hl
  subst hv
  have hlt : i.toNatClampNeg < N := Nat.not_le.mp fun q => hin (Or.inr q)
  exact W.aald (v := va_rf (f i.toNatClampNeg)) (ty := ty) hC.1 hC.2.1 (hP q0 _ ha) ((hC.2.2.2.2.2.1.2 t0 _ ht).1 N (fun j => va_rf (f j))) hr (fun q => by cases q) (by show ¬ (i < 0 ∨ (arrV _ _ _).slots.size ≤ _); rw [arrV_size]; exact hin) (by show (arrV _ _ _).slots[_]? = _; rw [arrV_read _ _ hlt]) rfl rfl hdg (hK _ _ _ _ kk H locs ls hP hD hS hl)
theorem sx_iastO {a N : Nat} {f : Nat → Int32} {Ts : List Cond} (hC : Cx p s m args c cc nL own Ts D cls tys A tc) (q0 : Nat) (ha : ws[q0]? = some (a, .inl (tc 0, N, .inl f))) {i x : Int32} (hin : vp_in i N) (kk : K rest (ws.set q0 (a, .inl (tc 0, N, .inl (upd f i.toNatClampNeg x)))) k n) : vx_SX cc (Vx p l e R s m args below meth c nL D cls A Q) .iastore 1 (.int x :: .int i :: .ref a :: rest) ws k n K := by
  intro pc lv hdg hK H locs ls hP hD hS hl
  exact va_iast hC.1 hC.2.1 hC.2.2.2.2.2.1 hP hD hS q0 0 ha (hC.2.2.2.2.2.2.2 0 (by decide)) hin hdg (fun H locs hP hD hS => hK _ _ _ _ kk H locs ls hP hD hS hl)
/-- a new array of ints, bytes or booleans (y: its place among the types) -/
theorem sx_newI (hC : Cx p s m args c cc nL own (yw y0 b0 n0 r0) D cls tys A tc) {at_ : ArrayType} {y N : Nat} {n9 : Int32} (hy : y < 4) (e1 : newarray.typeOf at_ = vx_ty y) (hw : Cond.arrayClass (newarray.typeOf at_) ∈ gw) (hd : defaultValue (vx_ty y) = .int 0) (hnp : va_RA s (tc y) (vx_ty y) → s.vm.findClass ("[" ++ (vx_ty y).toString) = some (tc y)) (hn : n9 = nI N) (hN : N < 2 ^ 20) (hby : N * componentBytes (newarray.typeOf at_) ≤ 536870912) (hk : k + 1 ≤ R.cells ∧ n + N ≤ R.slots)
    (kk : ∀ q : Nat, K (.ref q :: rest) (ws ++ [(q, .inl (tc y, N, .inl (fun _ => 0)))]) (k + 1) (n + N)) : vx_SX cc (Vx p l e R s m args below meth c nL D cls A Q) (.newarray at_) 2 (.int n9 :: rest) ws k n K := by
  intro pc lv hdg hK H locs ls hP hD hS hl
  subst hn
  refine va_newaK hC.1 hC.2.1 (hC.2.2.2.2.1 _ (List.mem_cons_of_mem _ hw)) rfl hdg rfl (nI_pos (by omega)) (nI_clamp (by omega)) hby hk.1 hk.2 rfl fun H1 cA h1 h2 h3 h4 h5 => ?_
  have e2 : cA = tc y := by
    have h6 := hnp (hC.2.2.2.2.2.1.2 y _ (hC.2.2.2.2.2.2.2 y hy)).2
    rw [e1] at h5
    exact Option.some.inj (h5.symm.trans h6)
  subst e2
  rw [e1] at h1
  have hk0 : ∀ (j : Nat) (x : Nat × va_E), ws[j]? = some x → H1[x.1]? = H[x.1]? := fun j x hx => h3 x.1 ((hP j x hx).lt)
  refine hK _ _ _ _ (kk H.size) H1 locs ls ((hP.kept hk0).app (fun j x hx => ?_)) (hD.push hP rfl (hC.2.2.2.2.2.2.1 _ hS.1)) ⟨Nat.le_trans hS.1 (by omega), fun x h1 h2 => (h3 x (Nat.lt_of_lt_of_le h1 hS.1)).trans (hS.2.1 x h1 h2), hS.2.2⟩ hl
  have hz : j < 1 := (List.getElem?_eq_some_iff.mp hx).1
  rw [show j = 0 by omega] at hx
  cases hx
  show H1[H.size]? = some (vp_cell _ _)
  rw [h1, hd]
  rfl
theorem sx_newL (hC : Cx p s m args c cc nL own (yw y0 b0 n0 r0) D cls tys A tc) {N : Nat} {n9 : Int32} (hw : Cond.arrayClass (newarray.typeOf .long) ∈ gw) (hn : n9 = nI N) (hN : N < 2 ^ 20) (hk : k + 1 ≤ R.cells ∧ n + N ≤ R.slots)
    (kk : ∀ q : Nat, K (.ref q :: rest) (ws ++ [(q, .inl (tc 2, N, .inr (.inl (fun _ => 0))))]) (k + 1) (n + N)) : vx_SX cc (Vx p l e R s m args below meth c nL D cls A Q) (.newarray .long) 2 (.int n9 :: rest) ws k n K := by
  intro pc lv hdg hK H locs ls hP hD hS hl
  subst hn
  refine va_newaK hC.1 hC.2.1 (hC.2.2.2.2.1 _ (List.mem_cons_of_mem _ hw)) rfl hdg rfl (nI_pos (by omega)) (nI_clamp (by omega)) (by show N * 8 ≤ _; omega) hk.1 hk.2 rfl fun H1 cA h1 h2 h3 h4 h5 => ?_
  have e2 : cA = tc 2 := by
    have h6 : s.vm.findClass ("[" ++ (FieldType.long).toString) = some (tc 2) := (hC.2.2.2.2.2.1.2 2 _ (hC.2.2.2.2.2.2.2 2 (by decide))).2
    exact Option.some.inj (h5.symm.trans h6)
  subst e2
  have hk0 : ∀ (j : Nat) (x : Nat × va_E), ws[j]? = some x → H1[x.1]? = H[x.1]? := fun j x hx => h3 x.1 ((hP j x hx).lt)
  refine hK _ _ _ _ (kk H.size) H1 locs ls ((hP.kept hk0).app (fun j x hx => ?_)) (hD.push hP rfl (hC.2.2.2.2.2.2.1 _ hS.1)) ⟨Nat.le_trans hS.1 (by omega), fun x h1 h2 => (h3 x (Nat.lt_of_lt_of_le h1 hS.1)).trans (hS.2.1 x h1 h2), hS.2.2⟩ hl
  have hz : j < 1 := (List.getElem?_eq_some_iff.mp hx).1
  rw [show j = 0 by omega] at hx
  cases hx
  show H1[H.size]? = some (vp_cell _ _)
  rw [h1]
  rfl
/-- a new object of class ci -/
theorem sx_new (hC : Cx p s m args c cc nL own (yw y0 b0 n0 r0) D cls tys A tc) {C : String} {T : u_T} {N ci : Nat} (hc : cls[ci]? = some (C, T, N)) (hcl : Cond.classLink own index C ∈ gw) (hinst : Cond.instantiable C N ∈ gw) (hini : Cond.initialized C ∈ gw) {fs : List Value} (hfs : ∀ j, j < N → defaultValue (cty ci j) = vp_V fs j) (hk : k + 1 ≤ R.cells ∧ n + N ≤ R.slots)
    (kk : ∀ q : Nat, K (.ref q :: rest) (ws ++ [(q, .inr (ci, fs))]) (k + 1) (n + N)) : vx_SX cc (Vx p l e R s m args below meth c nL D cls A Q) (.new index) 3 rest ws k n K := by
  intro pc lv hdg hK H locs ls hP hD hS hl
  have g : ∀ {w : Cond}, w ∈ gw → w.before args s = true := fun h => hC.2.2.2.2.1 _ (List.mem_cons_of_mem _ h)
  have hok := cls_ok ci _ hc
  exact va_new hC.1 hC.2.1 (Ts := yw y0 b0 n0 r0) hC.2.2.2.2.1 (fun w hw => List.mem_cons_of_mem _ (hok.1 w hw)) (cty ci) hok.2.1 hC.2.2.2.1 (g hcl) (g hinst) (g hini) hC.2.2.2.2.2.1 hP hD hS hC.2.2.2.2.2.2.1 hc hfs hk.1 hk.2 hdg (fun q H1 hP hD hS => hK _ _ _ _ (kk q) H1 locs ls hP hD hS hl)
theorem wm_acp : Cond.native arraycopyName ∈ gw ∧ Cond.static arraycopyName ∈ gw ∧ Cond.initialized "java/lang/System" ∈ gw := ⟨gw_i 367 (by decide +kernel) (by decide +kernel), gw_i 366 (by decide +kernel) (by decide +kernel), gw_i 19 (by decide +kernel) (by decide +kernel)⟩
/-- System.arraycopy between owned arrays of one primitive type -/
theorem sx_copy (hC : Cx p s m args c cc nL own (yw y0 b0 n0 r0) D cls tys A tc) (hli : Cond.methodLink own index arraycopyName ∈ gw) (q0 q1 y : Nat) (hy : y < 4) (hpr : refKind (vx_ty y) = false) {a0 a1 m0 m1 : Nat} {f g : Nat → Int32} (ha0 : ws[q0]? = some (a0, .inl (tc y, m0, .inl f))) (ha1 : ws[q1]? = some (a1, .inl (tc y, m1, .inl g))) {sp dp w : Nat} {sp9 dp9 w9 : Int32} (e1 : sp9 = nI sp) (e2 : dp9 = nI dp) (e3 : w9 = nI w) (h1 : sp + w ≤ m0 ∧ m0 < 2 ^ 31) (h2 : dp + w ≤ m1 ∧ m1 < 2 ^ 31) (hfit : ∀ i, i < w → fits (vx_ty y) (.int (f (sp + i))) = true) (hfr : 1 ≤ R.frames) (hlo : (rest.map fun v => v.category).sum + (nativeFrameWords "java/lang/System" "arraycopy" 5 + 11) ≤ R.locals)
    (kk : K rest (ws.set q1 (a1, .inl (tc y, m1, .inl (va_cpy f g sp dp w)))) k n) : vx_SX cc (Vx p l e R s m args below meth c nL D cls A Q) (.invokestatic index) 3 (.int w9 :: .int dp9 :: .ref a1 :: .int sp9 :: .ref a0 :: rest) ws k n K := by
  intro pc lv hdg hK H locs ls hP hD hS hl
  have gg : ∀ {w : Cond}, w ∈ gw → w.before args s = true := fun h => hC.2.2.2.2.1 _ (List.mem_cons_of_mem _ h)
  subst e1 e2 e3
  have c1 : (nI sp).toNatClampNeg = sp := nI_clamp (by omega)
  have c2 : (nI dp).toNatClampNeg = dp := nI_clamp (by omega)
  have c3 : (nI w).toNatClampNeg = w := nI_clamp (by omega)
  refine va_copyi hC.1 hC.2.1 (hC.2.2.1.trans hl.1.symm) hC.2.2.2.1 (gg hli) (gg wm_acp.1) (gg wm_acp.2.1) (gg wm_acp.2.2) hC.2.2.2.2.2.1 hP hD hS q0 q1 y y ha0 ha1 (hC.2.2.2.2.2.2.2 y hy) (hC.2.2.2.2.2.2.2 y hy) hpr (nI_pos (by omega)) (nI_pos (by omega)) (nI_pos (by omega)) (by rw [c1, c3]; exact h1.1) (by rw [c2, c3]; exact h2.1) (by rw [c1, c3]; exact hfit) hfr hlo hdg (fun H1 locs1 hP hD hS => ?_)
  rw [c1, c2, c3] at hP hD
  exact hK _ _ _ _ kk H1 locs1 ls hP hD hS hl
/-- System.arraycopy from bytes that are only read -/
theorem sx_copyT (hC : Cx p s m args c cc nL own (yw y0 b0 n0 r0) D cls tys A tc) (hli : Cond.methodLink own index arraycopyName ∈ gw) (q1 : Nat) {a0 a1 m0 m1 : Nat} {f g : Nat → Int32} (hX : va_T .byte a0 m0 (fun j => .int (f j)) A s s.heap) (ha1 : ws[q1]? = some (a1, .inl (tc 1, m1, .inl g))) {sp dp w : Nat} {sp9 dp9 w9 : Int32} (e1 : sp9 = nI sp) (e2 : dp9 = nI dp) (e3 : w9 = nI w) (h1 : sp + w ≤ m0 ∧ m0 < 2 ^ 31) (h2 : dp + w ≤ m1 ∧ m1 < 2 ^ 31) (hfit : ∀ i, i < w → fits .byte (.int (f (sp + i))) = true) (hfr : 1 ≤ R.frames) (hlo : (rest.map fun v => v.category).sum + (nativeFrameWords "java/lang/System" "arraycopy" 5 + 11) ≤ R.locals)
    (kk : K rest (ws.set q1 (a1, .inl (tc 1, m1, .inl (va_cpy f g sp dp w)))) k n) : vx_SX cc (Vx p l e R s m args below meth c nL D cls A Q) (.invokestatic index) 3 (.int w9 :: .int dp9 :: .ref a1 :: .int sp9 :: .ref a0 :: rest) ws k n K := by
  intro pc lv hdg hK H locs ls hP hD hS hl
  have gg : ∀ {w : Cond}, w ∈ gw → w.before args s = true := fun h => hC.2.2.2.2.1 _ (List.mem_cons_of_mem _ h)
  subst e1 e2 e3
  have c1 : (nI sp).toNatClampNeg = sp := nI_clamp (by omega)
  have c2 : (nI dp).toNatClampNeg = dp := nI_clamp (by omega)
  have c3 : (nI w).toNatClampNeg = w := nI_clamp (by omega)
  refine vk_copyt hC.1 hC.2.1 (hC.2.2.1.trans hl.1.symm) hC.2.2.2.1 (gg hli) (gg wm_acp.1) (gg wm_acp.2.1) (gg wm_acp.2.2) hC.2.2.2.2.2.1 hP hD hS hX q1 1 ha1 (hC.2.2.2.2.2.2.2 1 (by decide)) (nI_pos (by omega)) (nI_pos (by omega)) (nI_pos (by omega)) (by rw [c1, c3]; exact h1.1) (by rw [c2, c3]; exact h2.1) (by rw [c1, c3]; exact hfit) hfr hlo hdg (fun H1 locs1 hP hD hS => ?_)
  rw [c1, c2, c3] at hP hD
  exact hK _ _ _ _ kk H1 locs1 ls hP hD hS hl

end
