/-! THE MACHINE: new int[8][96] (multianewarray of two counts), from the instruction's own words -/
section
variable {p : Program} {l : Launch} {e : Env} {R : Room} {s : State} {m : MethodId} {args : Array Value} {below : List Frame} {meth : Method} {c : Code}
/-- the tables where an int[][] has been made before -/
theorem mn_over (h : (Cond.arrayOver (.array .int)).before args s = true) : ∃ (tI cA : ClassId) (kA : Class), s.vm.findClass (FieldType.array .int).toString = some tI ∧ s.vm.classes[cA]? = some kA ∧ kA.kind = .array tI (.array .int) ∧ s.vm.findClass ("[" ++ (FieldType.array .int).toString) = some cA := by
  have h9 : (Cond.arrayOver (.array .int)).holds args s none s [] = true := h
  simp only [Cond.holds, Cond.value, beq_iff_eq, Option.bind_eq_some_iff, Option.map_eq_some_iff] at h9
  obtain ⟨tI, h1, cA, h2, kA, h3, h4⟩ := h9
  have h5 := (Array.findIdx?_eq_some_iff_getElem.mp h2).2.1
  rw [(Array.getElem?_eq_some_iff.mp h3).2] at h5
  cases h6 : kA.kind with
  | array a b =>
    rw [h6] at h4 h5
    simp only [Bool.and_eq_true, decide_eq_true_eq] at h4
    simp only [beq_iff_eq] at h5
    exact ⟨tI, cA, kA, h1, h3, by rw [h6, h4.1, h5], h4.2⟩
  | _ => rw [h6] at h4; cases h4
/-- one row of 96 -/
theorem mn_in {E : CtlPost} {d : Bool} {acts : List Action} {V : State} {tI z : ClassId} {kI : Class} {Q : Addr → Pre} (hk : V.vm.classes[tI]? = some kI) (hz : kI.kind = .array z .int) (hl : ¬ 96 > e.platform.arrayLengthLimit) (hh : ¬ 96 * componentBytes .int > e.platform.maxHeapBytes) (h1 : V.heap.size < e.platform.maxCells) (h2 : V.slotsUsed + 96 ≤ e.platform.maxSlots)
    (hq : ∀ acts', Q V.heap.size d acts' (V.pushCell { cls := tI, slots := Array.replicate 96 (.int 0) })) : wp (multianewarray.make tI [96]) Q E e d acts V := by
  have h9 : ¬ ((96 : Int32) < 0) := by decide
  rw [multianewarray.make]
  simp only [wp_bind', W.ite, h9, if_false, wp_pure', W.theClass, hk, Option.some.injEq, exists_eq_left', hz]
  exact W.newArray_of hk hz hl hh h1 h2 rfl hq
theorem mn_ext {cI : ClassId} {N : Nat} {f g : Nat → Value} (h : ∀ j, j < N → f j = g j) : arrV cI N f = arrV cI N g := by
  unfold arrV
  rw [show (fun j : Fin N => f j.val) = (fun j : Fin N => g j.val) from funext fun j => h j.val j.isLt]
/-- where the loop stands, i rows made: the outer array's cell is at q, the rows behind it -/
def mnI (p : Program) (l : Launch) (e : Env) (R : Room) (s : State) (m : MethodId) (args : Array Value) (below : List Frame) (meth : Method) (c : Code) (vm : Vm) (H : Heap) (locs : List Loc) (k n : Nat) (cA tI : ClassId) (i : Nat) (V : State) (L : List Loc) : Prop :=
  Stand p l e R s m args below meth c V L (k + 1 + i) (n + 8 + i * 96) ∧ (∀ y ∈ L, y ∈ locs ∨ y.base = H.size) ∧ V.vm = vm ∧ V.heap.size = H.size + 1 + i ∧ (∀ a : Nat, a < H.size → V.heap[a]? = H[a]?) ∧ V.heap[H.size]? = some (arrV cA 8 (fun G => if G < i then .ref (H.size + 1 + G) else .null)) ∧ ∀ j : Nat, j < i → V.heap[H.size + 1 + j]? = some (arrV tI 96 (fun _ => .int 0))
/-- a row more -/
theorem mn_st {vm : Vm} {H : Heap} {locs : List Loc} {k n i : Nat} {cA tI : ClassId} {V : State} {L : List Loc} (h : mnI p l e R s m args below meth c vm H locs k n cA tI i V L) :
    mnI p l e R s m args below meth c vm H locs k n cA tI (i + 1) ((V.pushCell { cls := tI, slots := Array.replicate 96 (.int 0) }).setCell H.size ((arrV cA 8 (fun G => if G < i then .ref (H.size + 1 + G) else .null)).setSlot i (.ref V.heap.size))) (L ++ [⟨H.size, i⟩]) := by
  obtain ⟨X, hL, hv, hz, ho, hq, hr⟩ := h
  have hlt : H.size < V.heap.size := by omega
  have g0 : ∀ a : Nat, a < V.heap.size → (V.pushCell { cls := tI, slots := Array.replicate 96 (.int 0) }).heap[a]? = V.heap[a]? := fun a ha => by
    show (V.heap.push _)[a]? = _
    rw [Array.getElem?_push, if_neg (Nat.ne_of_lt ha)]
  have gq := (g0 H.size hlt).trans hq
  have X1 := X.pushed { cls := tI, slots := Array.replicate 96 (.int 0) }
  have X2 := X1.stored gq i (.ref V.heap.size)
  have gs : ∀ (a : Nat) (y : Cell), a ≠ H.size → ((V.pushCell { cls := tI, slots := Array.replicate 96 (.int 0) }).setCell H.size y).heap[a]? = (V.pushCell { cls := tI, slots := Array.replicate 96 (.int 0) }).heap[a]? := fun a y ha => State.heap_setCell_other (Ne.symm ha)
  refine ⟨?_, fun y hy => ?_, hv, ?_, fun a ha => ?_, ?_, fun j hj => ?_⟩
  · have e1 : k + 1 + i + 1 = k + 1 + (i + 1) := by omega
    have e2 : n + 8 + i * 96 + (Array.replicate 96 (Value.int 0)).size = n + 8 + (i + 1) * 96 := by rw [Array.size_replicate]; omega
    rw [← e1, ← e2]
    exact X2
  · rcases List.mem_append.mp hy with h | h
    · exact hL y h
    · rw [List.mem_singleton.mp h]
      exact Or.inr rfl
  · show ((V.heap.push _).setIfInBounds _ _).size = _
    rw [Array.size_setIfInBounds, Array.size_push]
    omega
  · rw [gs a _ (Nat.ne_of_lt ha), g0 a (by omega)]
    exact ho a ha
  · rw [State.heap_setCell_self gq, arrV_store]
    congr 2
    funext G
    show updV _ _ _ G = _
    unfold updV
    by_cases h1 : G = i
    · rw [if_pos h1, if_pos (by omega), hz, h1]
    · rw [if_neg h1]
      show (if G < i then Value.ref (H.size + 1 + G) else Value.null) = _
      by_cases h2 : G < i
      · rw [if_pos h2, if_pos (by omega)]
      · rw [if_neg h2, if_neg (by omega)]
  · rw [gs _ _ (by omega)]
    by_cases h1 : j < i
    · rw [g0 _ (by omega)]
      exact hr j h1
    · have h2 : H.size + 1 + j = V.heap.size := by omega
      rw [h2]
      show (V.heap.push _)[V.heap.size]? = _
      rw [Array.getElem?_push_size]
      exact congrArg some (arrV_new tI 96 (.int 0))
end
section
variable {p : Program} {l : Launch} {e : Env} {R : Room} {s : State} {m : MethodId} {args : Array Value} {below : List Frame} {meth : Method} {c : Code} {T : State} {locs : List Loc} {k n : Nat}
theorem mn_fit {V : State} {cA tI : ClassId} {kA : Class} {i v : Nat} (hk : V.vm.classes[cA]? = some kA) (hz : kA.kind = .array tI (.array .int)) : V.fitsSlot cA .none i (.ref v) = true := by
  simp [State.fitsSlot, State.slotType?, hk, hz]
  rfl
/-- the eight rows -/
theorem mn_lp {E : CtlPost} {vm : Vm} {H : Heap} {cA tI z : ClassId} {kA kI : Class} (f : JFrame) (hkA : vm.classes[cA]? = some kA) (hzA : kA.kind = .array tI (.array .int)) (hkI : vm.classes[tI]? = some kI) (hzI : kI.kind = .array z .int) (hc : k + (1 + 8) ≤ R.cells) (hn : n + (8 + 8 * 96) ≤ R.slots)
    {d : Bool} {acts : List Action} {V : State} {L : List Loc} (h : mnI p l e R s m args below meth c vm H locs k n cA tI 0 V L) {Q : PUnit → Pre} (hq : ∀ (V2 : State) (L2 : List Loc) (d2 : Bool) (acts2 : List Action), mnI p l e R s m args below meth c vm H locs k n cA tI 8 V2 L2 → Q PUnit.unit d2 acts2 (V2.setTop f)) :
    wp (forIn (List.range' 0 8) PUnit.unit fun (i : Nat) (_ : PUnit) => (do writeLoc H.size i (.ref (← multianewarray.make tI [96])); Pure.pure (ForInStep.yield PUnit.unit) : Sem (ForInStep PUnit))) Q E e d acts (V.setTop f) := by
  refine wp_forIn_inv (fun (r : List Nat) (u : State) => ∃ (i : Nat) (V1 : State) (L1 : List Loc), i ≤ 8 ∧ r = List.range' i (8 - i) ∧ u = V1.setTop f ∧ mnI p l e R s m args below meth c vm H locs k n cA tI i V1 L1) _ _ ⟨0, V, L, by decide, rfl, rfl, h⟩ (fun y r u d1 acts1 Q1 hI hQ => ?_) (fun u d1 acts1 hI => ?_)
  · obtain ⟨i, V1, L1, hi, hr, rfl, hV⟩ := hI
    have h8 : i < 8 := by
      rcases Nat.lt_or_ge i 8 with h | h
      · exact h
      · rw [show 8 - i = 0 by omega] at hr
        cases hr
    rw [show 8 - i = (8 - (i + 1)) + 1 by omega, List.range'_succ] at hr
    obtain ⟨rfl, rfl⟩ := List.cons.inj hr
    have hrm := hV.1.roomAbove (a := 1) (b := 96) (by omega) (by omega)
    have hAd := hV.1.admits
    simp only [wp_bind']
    refine mn_in (V := V1.setTop f) (kI := kI) (z := z) (by rw [State.vm_setTop, hV.2.2.1]; exact hkI) hzI (by rw [Launch.admits_arrayLengthLimit hAd]; decide) (by rw [Launch.admits_maxHeapBytes hAd]; decide) hrm.1 hrm.2 (fun acts2 => ?_)
    have hst := mn_st hV
    rw [wp_bind']
    refine (W.writeLoc _ _ _ _).mpr ⟨arrV cA 8 (fun G => if G < y then .ref (H.size + 1 + G) else .null), ?_, ?_, ?_, ?_, ?_⟩
    · show (V1.heap.push _)[H.size]? = _
      rw [Array.getElem?_push, if_neg (Nat.ne_of_lt (by have := hV.2.2.2.1; omega))]
      exact hV.2.2.2.2.2.1
    · intro h0
      cases h0
    · rw [arrV_size]
      exact h8
    · exact mn_fit (V := V1.pushCell { cls := tI, slots := Array.replicate 96 (.int 0) }) (by show V1.vm.classes[cA]? = _; rw [hV.2.2.1]; exact hkA) hzA
    · rw [wp_pure']
      exact hQ _ _ _ ⟨y + 1, _, _, h8, rfl, rfl, hst⟩
  · obtain ⟨i, V1, L1, hi, hr, rfl, hV⟩ := hI
    have h8 : i = 8 := by
      have := congrArg List.length hr
      rw [List.length_range'] at this
      simp only [List.length_nil] at this
      omega
    subst h8
    exact hq V1 L1 _ _ hV
/-- the instruction -/
theorem mn_row (X : Stand p l e R s m args below meth c T locs k n) (hexec : p.tables.exec = Jvm.exec) {own : String} {index : Nat} (hown : s.vm.findClass own = some m.cls) (hcl : (Cond.classLink own index "[[I").before args s = true) (hov : (Cond.arrayOver (.array .int)).before args s = true) (hac : (Cond.arrayClass .int).before args s = true)
    {g : JFrame} (hg : g.method = m) (hdg : decode c.code g.pc = .ok (.multianewarray index 2, 4)) {rest : List Value} (hst : g.stack = .int 96 :: .int 8 :: rest) (hc : k + (1 + 8) ≤ R.cells) (hn : n + (8 + 8 * 96) ≤ R.slots) :
    ∃ (vm : Vm) (cA tI : ClassId) (V : State) (L : List Loc), s.vm.findClass ("[" ++ (FieldType.array .int).toString) = some cA ∧ s.vm.findClass ("[" ++ FieldType.int.toString) = some tI ∧ mnI p l e R s m args below meth c vm T.heap locs k n cA tI 8 V L ∧
      ∀ target, Steps p.tables e below (V.setTop { g with pc := g.pc + 4, stack := .ref T.heap.size :: rest }) target → Steps p.tables e below (T.setTop g) target := by
  subst hg
  have hpl : e.platform.magicAccessors = ({} : Platform).magicAccessors := by rw [X.admits.platform]
  obtain ⟨tI, cA, kA, a1, a2, a3, a4⟩ := mn_over hov
  obtain ⟨tI2, kI, z, b1, b2, b3⟩ := Cond.arrayClass_spec (args := args) (first := s) (o := none) (s := s) (idx := []) hac
  have e1 : tI2 = tI := Option.some.inj (b1.symm.trans a1)
  subst e1
  obtain ⟨c2, d1, d2⟩ := Cond.classLink_spec hown hcl e.platform hpl
  have e2 : c2 = cA := Option.some.inj (d1.symm.trans a4)
  subst e2
  obtain ⟨hg1, hw1, hr1⟩ := State.classEntry (e := e) X.warmed d2
  have hsz : (T.vm.noted g.method.cls index (.cls c2)).classes.size ≤ T.vm.classes.size := Nat.le_of_eq (Vm.size_noted _ _ _ _)
  generalize T.vm.noted g.method.cls index (.cls c2) = vm at hg1 hw1 hr1 hsz
  obtain ⟨kA2, f1, f2⟩ := hw1.alike.2.2 _ _ a2
  obtain ⟨kI2, g1, g2⟩ := hw1.alike.2.2 _ _ b2
  have f3 : kA2.kind = .array tI2 (.array .int) := by rw [f2]; exact a3
  have g3 : kI2.kind = .array z .int := by rw [g2]; exact b3
  have hrm := X.roomAbove (a := 1) (b := 8) (by omega) (by omega)
  have h8 : ¬ ((8 : Int32) < 0) := by decide
  have h80 : ((8 : Int32) == 0) = false := by decide
  have hw : wpRun (p.tables.exec (.multianewarray index 2)) (fun _ s1 _ => ∃ (V : State) (L : List Loc), s1 = V.setTop { g with stack := .ref T.heap.size :: rest } ∧ mnI p l e R s g.method args below meth c vm T.heap locs k n c2 tI2 8 V L) (fun _ _ _ => False) e (T.setTop g) := by
    rw [hexec]
    show wp (multianewarray.sem index 2) _ _ e false [] (T.setTop g)
    unfold multianewarray.sem
    rw [wp_bind']
    refine (W.resolveClassAt_links (t := T.setTop g) (State.method?_setTop g X.here.top) hg1 hsz).mpr ?_
    rw [wp_bind']
    refine (popN_top (s := T.setVm vm) (f := g) X.here.top (args := [.int 8, .int 96]) (rest := rest) hst).mpr ?_
    simp only [List.mapM_cons, List.mapM_nil, wp_bind', wp_pure']
    rw [multianewarray.make]
    simp only [wp_bind', W.ite, h8, if_false, wp_pure', W.theClass, State.vm_setTop, State.vm_setVm, f1, Option.some.injEq, exists_eq_left', f3]
    refine W.newArray_of (s := (T.setVm vm).setTop { g with stack := rest }) (k := kA2) f1 f3 (by rw [Launch.admits_arrayLengthLimit X.admits]; decide) (by rw [Launch.admits_maxHeapBytes X.admits]; decide) hrm.1 hrm.2 rfl (fun acts2 => ?_)
    simp only [h80, Bool.false_eq_true, if_false, wp_bind', wp_pure']
    rw [Std.Legacy.Range.forIn_eq_forIn_range']
    have h0 : mnI p l e R s g.method args below meth c vm T.heap locs k n c2 tI2 0 ((T.setVm vm).pushCell { cls := c2, slots := Array.replicate 8 .null }) locs := by
      refine ⟨?_, fun y hy => Or.inl hy, rfl, Array.size_push _, fun a ha => ?_, ?_, fun j hj => absurd hj (Nat.not_lt_zero _)⟩
      · have X1 := (X.noted hw1).pushed { cls := c2, slots := Array.replicate 8 .null }
        have e9 : n + (Array.replicate 8 Value.null).size = n + 8 + 0 * 96 := by rw [Array.size_replicate]
        rw [← e9]
        exact X1
      · show (T.heap.push _)[a]? = _
        rw [Array.getElem?_push, if_neg (Nat.ne_of_lt ha)]
      · show (T.heap.push _)[T.heap.size]? = _
        rw [Array.getElem?_push_size]
        refine congrArg some ((arrV_new c2 8 .null).trans ?_)
        congr 1
    refine mn_lp (H := T.heap) (V := (T.setVm vm).pushCell { cls := c2, slots := Array.replicate 8 .null }) { g with stack := rest } f1 f3 g1 g3 hc hn h0 (fun V2 L2 d2 acts3 hV => ?_)
    simp only [wp_pure', wp_bind', W.mark]
    exact (W.pushRef _).mpr ⟨_, State.topJava?_setTop' _ hV.1.here.top, V2, L2, State.setTop_setTop _ _ _, hV⟩
  have hr := (wpRun_iff_run _ _ _ _ _).mp hw
  cases hrun : (p.tables.exec (.multianewarray index 2)).run e (T.setTop g) with
  | ok a s1 acts =>
    rw [hrun] at hr
    obtain ⟨V, L, rfl, hV⟩ := hr
    refine ⟨vm, c2, tI2, V, L, a4, b1, hV, fun target ht => ?_⟩
    refine Steps.instr (c := c) X.here ?_
    rw [hdg]
    refine (wpRun_iff_run _ _ _ _ _).mpr ?_
    rw [hrun]
    intro acts2
    rw [afterInstr_ok]
    exact ht
  | ctl y s1 acts =>
    rw [hrun] at hr
    cases y <;> exact hr.elim
end
