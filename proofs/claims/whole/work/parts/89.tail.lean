/-! WORLDS with a tail of any length; read facts out of cells (wip/whole/gen/p89.py) -/
theorem nd_iff : ∀ l : List Nat, va_nd l = true ↔ l.Nodup
  | [] => by simp [va_nd]
  | a :: l => by rw [va_nd, Bool.and_eq_true, decide_eq_true_eq, List.nodup_cons, nd_iff l]
section
variable {W0 T X w wc wr W2 : va_W} {is js : List Nat}
theorem vm_app (h : is.map (fun i => W0[i]?) = w.map some) : is.map (fun i => (W0 ++ T)[i]?) = w.map some := by
  rw [← h]
  refine List.map_congr_left (fun i hi => ?_)
  have h1 : W0[i]? ∈ w.map some := by rw [← h]; exact List.mem_map.mpr ⟨i, hi, rfl⟩
  obtain ⟨q, -, hq⟩ := List.mem_map.mp h1
  exact List.getElem?_append_left (List.getElem?_eq_some_iff.mp hq.symm).1
theorem vm_lt (h : is.map (fun i => W0[i]?) = w.map some) : ∀ i ∈ is, i < W0.length := by
  intro i hi
  have h1 : W0[i]? ∈ w.map some := by rw [← h]; exact List.mem_map.mpr ⟨i, hi, rfl⟩
  obtain ⟨q, -, hq⟩ := List.mem_map.mp h1
  exact (List.getElem?_eq_some_iff.mp hq.symm).1
theorem vm_tail (c : Nat) (h : c = W0.length) : ((List.range T.length).map (fun i => c + i)).map (fun i => (W0 ++ T)[i]?) = T.map some := by
  rw [List.map_map, ← idx_all T]
  refine List.map_congr_left (fun i hi => ?_)
  show (W0 ++ T)[c + i]? = T[i]?
  rw [List.getElem?_append_right (by omega), h, Nat.add_sub_cancel_left]
theorem nd_sh (c n : Nat) : ((List.range n).map (fun i => c + i)).Nodup := by
  rw [List.nodup_iff_pairwise_ne, List.pairwise_map]
  exact (List.nodup_iff_pairwise_ne.mp List.nodup_range).imp (fun h => by omega)
theorem nd_tail {c n : Nat} (h : va_nd is = true) (hl : ∀ i ∈ is, i < c) : va_nd (is ++ (List.range n).map (fun i => c + i)) = true := by
  rw [nd_iff] at h ⊢
  refine List.nodup_append.mpr ⟨h, nd_sh c n, fun a ha b hb => ?_⟩
  obtain ⟨i, -, rfl⟩ := List.mem_map.mp hb
  have := hl a ha
  omega
theorem vm_perm {a b c : va_W} : ((List.range a.length) ++ (List.range c.length).map (fun i => (a ++ b).length + i) ++ (List.range b.length).map (fun i => a.length + i)).map (fun i => ((a ++ b) ++ c)[i]?) = ((a ++ c) ++ b).map some := by
  rw [List.map_append, List.map_append, List.map_append, List.map_append, vm_tail _ rfl]
  congr 1
  · congr 1
    rw [List.append_assoc]
    exact vm_app (idx_all a)
  · rw [List.append_assoc]
    have h1 := vm_tail (W0 := a) (T := b) a.length rfl
    rw [← List.append_assoc]
    exact vm_app h1
theorem nd_perm {a b c : Nat} : va_nd ((List.range a) ++ (List.range c).map (fun i => (a + b) + i) ++ (List.range b).map (fun i => a + i)) = true := by
  rw [nd_iff]
  refine List.nodup_append.mpr ⟨List.nodup_append.mpr ⟨List.nodup_range, nd_sh _ _, fun x hx y hy => ?_⟩, nd_sh _ _, fun x hx y hy => ?_⟩
  · obtain ⟨i, -, rfl⟩ := List.mem_map.mp hy
    have := List.mem_range.mp hx
    omega
  · obtain ⟨i, hi, rfl⟩ := List.mem_map.mp hy
    have hi := List.mem_range.mp hi
    rcases List.mem_append.mp hx with z | z
    · have := List.mem_range.mp z
      omega
    · obtain ⟨j, -, rfl⟩ := List.mem_map.mp z
      omega
end
section
variable {p : Program} {l : Launch} {e : Env} {R : Room} {s : State} {m : MethodId} {args : Array Value} {below : List Frame} {meth : Method} {c : Code} {cc : ByteArray} {nL : Nat} {D : va_G} {cl : List vw_C} {tys : List (ClassId × FieldType)} {A : Nat → Prop} {tc : Nat → ClassId} {Q : State → Prop} {pc : Nat} {lv : wq_L} {st rest : List Value} {k n mc ms : Nat} {post : Option Value → va_W → Prop} {F : (Nat → Prop) → State → Heap → Prop} {ret : Option FieldType} {K : List Value → va_W → Nat → Nat → Prop} {y y0 : MethodName} {bytes b0 : ByteArray} {maxL n0 index nA fr lo : Nat} {r0 : Option FieldType} {b : Nat} {As : List Value} {own C : String} {W0 T wc wr W2 X : va_W}
theorem Vx.subT (js : List Nat) (hn : va_nd js = true) (hw : js.map (fun i => X[i]?) = W2.map some) (h : Vx p l e R s m args below meth c nL D cl A Q pc lv st (W2 ++ T) k n) : Vx p l e R s m args below meth c nL D cl A Q pc lv st (X ++ T) k n :=
  Vx.subW (js ++ (List.range T.length).map (fun i => X.length + i)) (nd_tail hn (vm_lt hw)) (by rw [List.map_append, List.map_append, vm_tail _ rfl, vm_app hw]) h
theorem Vx.mid {wa wb wd : va_W} (h : Vx p l e R s m args below meth c nL D cl A Q pc lv st ((wa ++ wd) ++ wb) k n) : Vx p l e R s m args below meth c nL D cl A Q pc lv st ((wa ++ wb) ++ wd) k n :=
  Vx.subW _ (by rw [List.length_append]; exact nd_perm) vm_perm h
/-- a call in a world with a tail -/
theorem lx_call {ci : Nat} {fs : List Value} {rc : vw_C} (hC : Cx p s m args c cc nL own (yw y0 b0 n0 r0) D cls tys A tc) (hk : Kt l y (yw y bytes maxL ret) fr lo mc ms D cls tys F (.ref b :: As) wc post) (cw : CallW R s args own C index y bytes maxL ret (yw y bytes maxL ret) { frames := fr, cells := mc, slots := ms, locals := lo } mc ms nA)
    (isC isR : List Nat) (hc : isC.map (fun i => W0[i]?) = wc.map some) (hr : isR.map (fun i => W0[i]?) = wr.map some) (hnC : va_nd isC = true) (hn : va_nd isR = true) (hdis : ∀ i ∈ isR, i ∉ isC) (hq : wc[0]? = some (b, .inr (ci, fs))) (h1 : cls[ci]? = some rc) (h2 : rc.1 = C)
    (hF : ∀ (H : Heap) (locs : List Loc), va_P D cls (W0 ++ T) H → va_D A (W0 ++ T) → va_S A s.heap H locs → F (va_A wc H.size) s H) (hlen : As.length = nA) (hst : st = As.reverse ++ .ref b :: rest) (hW : (rest.map fun v => v.category).sum ≤ 8) (hkn : k + mc ≤ R.cells ∧ n + ms ≤ R.slots)
    (kk : ∀ (r : Option Value) (w1 : va_W), post r w1 → ∃ (js : List Nat) (W2 : va_W), va_nd js = true ∧ js.map (fun i => (wr ++ w1)[i]?) = W2.map some ∧ K (r.toList ++ rest) (W2 ++ T) (k + mc) (n + ms)) : vx_SX cc (Vx p l e R s m args below meth c nL D cls A Q) (.invokevirtual index) 3 st (W0 ++ T) k n K := by
  intro pc lv hdg hK
  have hs := sx_callV (p := p) (l := l) (e := e) (m := m) (below := below) (meth := meth) (Q := Q) (ws := W0 ++ T) (wr := wr ++ T) (wc := wc) (K := fun st2 ws2 k2 n2 => Vx p l e R s m args below meth c nL D cls A Q (pc + 3) lv st2 ws2 k2 n2) hC hk cw isC (isR ++ (List.range T.length).map (fun i => W0.length + i)) (vm_app hc) (by rw [List.map_append, List.map_append, vm_tail _ rfl, vm_app hr]) hnC (nd_tail hn (vm_lt hr)) (fun i hi => by
    rcases List.mem_append.mp hi with z | z
    · exact hdis i z
    · obtain ⟨j, -, rfl⟩ := List.mem_map.mp z
      intro z2
      have := vm_lt hc _ z2
      omega) (q0 := 0) hq h1 h2 hF hlen hst hW hkn (fun r w1 hp => by
    obtain ⟨js, W2, g1, g2, g3⟩ := kk r w1 hp
    exact Vx.mid (Vx.subT js g1 g2 (hK _ _ _ _ g3)))
  exact hs pc lv hdg (fun _ _ _ _ z => z)
variable {ws : va_W} {H : Heap} {isC : List Nat}
/-- a cell that isn't the callee's is only read by it -/
theorem out_A (hP : va_P D cl ws H) (hD : va_D A ws) (hc : isC.map (fun i => ws[i]?) = wc.map some) {i : Nat} {q : Nat × va_E} (hi : ws[i]? = some q) (hn : i ∉ isC) : ¬ va_A wc H.size q.1 := by
  have hlt := (hP i q hi).lt
  intro z
  rcases z with z | z
  · obtain ⟨k9, e9, hk⟩ := z
    have h1 : (isC.map (fun i => ws[i]?))[k9]? = some (some (q.1, e9)) := by rw [hc, List.getElem?_map, hk]; rfl
    rw [List.getElem?_map] at h1
    cases hi2 : isC[k9]? with
    | none => rw [hi2] at h1; cases h1
    | some i2 =>
      rw [hi2] at h1
      have h2 : ws[i2]? = some (q.1, e9) := Option.some.inj h1
      have h3 := hD.1 i i2 q _ hi h2 rfl
      exact hn (h3 ▸ List.mem_of_getElem? hi2)
  · exact absurd hlt (Nat.not_lt.mpr z)
end
section
variable {p : Program} {s : State} {m : MethodId} {args : Array Value} {c : Code} {cc : ByteArray} {nL : Nat} {own : String} {D : va_G} {tys : List (ClassId × FieldType)} {A : Nat → Prop} {tc : Nat → ClassId} {y0 : MethodName} {b0 : ByteArray} {n0 : Nat} {r0 : Option FieldType} {ws wc : va_W} {H : Heap} {B : Nat → Prop}
theorem fo_OF (hC : Cx p s m args c cc nL own (yw y0 b0 n0 r0) D cls tys A tc) (hP : va_P D cls ws H) {ci a i : Nat} {fs : List Value} {C : String} {T : u_T} {N : Nat} (hc : cls[ci]? = some (C, T, N)) (hi : ws[i]? = some (a, .inr (ci, fs))) (hn : ¬ B a) (k : Nat) (hk : k < N) : va_OF (T k).1 (T k).2.1 (T k).2.2.1 (vp_V fs k) a B s H :=
  cell_OF hC.2.2.2.2.1 hC.2.2.2.2.2.1 hP hc (fun w hw => List.mem_cons_of_mem _ ((cls_ok ci _ hc).1 w hw)) hi k hk hn
theorem fo_O (hC : Cx p s m args c cc nL own (yw y0 b0 n0 r0) D cls tys A tc) (hP : va_P D cls ws H) {ci a i : Nat} {fs : List Value} {q : vw_C} (hc : cls[ci]? = some q) (hi : ws[i]? = some (a, .inr (ci, fs))) (hn : ¬ B a) : va_O q.1 a B s H := cell_O hC.2.2.2.2.2.1 hP hc hi hn
theorem fo_Ti (hC : Cx p s m args c cc nL own (yw y0 b0 n0 r0) D cls tys A tc) (hP : va_P D cls ws H) {i a N t : Nat} (ht : t < 4) {f : Nat → Int32} (hi : ws[i]? = some (a, .inl (tc t, N, .inl f))) (hn : ¬ B a) : va_T (vx_ty t) a N (fun j => .int (f j)) B s H := cell_Ti hC.2.2.2.2.2.1 hP hi (hC.2.2.2.2.2.2.2 t ht) hn
theorem vT_congr {ty : FieldType} {t N : Nat} {f g : Nat → Value} {U : State} (h : ∀ j, j < N → f j = g j) (hT : va_T ty t N f A U H) : va_T ty t N g A U H := by
  obtain ⟨c9, h1, h2, h3, h4, h5, h6, h7⟩ := hT
  exact ⟨c9, h1, h2, h3, h4, h5, fun j hj => by rw [h6 j hj, h j hj], h7⟩
/-- the request's cells as read facts -/
theorem rqF_of (hC : Cx p s m args c cc nL own (yw y0 b0 n0 r0) D cls tys A tc) (hP : va_P D cls ws H) (hnw : nwF s) {tcA : ClassId} (htA : tys[5]? = some (tcA, .array .int)) {q za ta : Nat} {ro : Nat → Nat} {me : Int32} {zs : Nat → Int32} {rw9 : Nat → Nat → Int32} {tx : Nat → List Nat} (hA : rqA zs rw9 tx) (n : Nat) (hat : ∀ j x, (rqW tc tcA q za ta ro me zs rw9)[j]? = some x → ws[n + j]? = some x ∧ ¬ B x.1) : rqF q ro tx B s H ∧ va_OF "OriginDesk$Request" "method" "I" (.int me) q B s H := by
  obtain ⟨h0, g0⟩ := hat 0 _ rfl
  obtain ⟨h1, g1⟩ := hat 1 _ rfl
  obtain ⟨h2, g2⟩ := hat 2 _ rfl
  refine ⟨⟨⟨fo_O hC hP (ci := 5) rfl h0 g0, hnw⟩, ta, za, fo_OF hC hP (ci := 5) rfl h0 g0 1 (by decide), fo_OF hC hP (ci := 5) rfl h0 g0 2 (by decide), cell_Tr hC.2.2.2.2.2.1 hP h2 htA g2, ⟨_, fo_Ti hC hP (t := 0) (by decide) h1 g1, fun G hG => by rw [(hA G hG).1]⟩, fun G hG => ?_⟩, fo_OF hC hP (ci := 5) rfl h0 g0 0 (by decide)⟩
  obtain ⟨h3, g3⟩ := hat (3 + G) _ (rqW_at hG)
  exact ⟨96, _, fo_Ti hC hP (t := 0) (by decide) h3 g3, ⟨(hA G hG).2.1.1, by decide⟩, fun j hj => by rw [(hA G hG).2.2 j hj]⟩
theorem emF_of (hC : Cx p s m args c cc nL own (yw y0 b0 n0 r0) D cls tys A tc) (hP : va_P D cls ws H) {i a : Nat} {f : Nat → Int32} (hi : ws[i]? = some (a, .inl (tc 0, 0, .inl f))) (hn : ¬ B a) : rdF a [] B s H := ⟨0, _, fo_Ti hC hP (t := 0) (by decide) hi hn, ⟨Nat.le_refl _, by decide⟩, fun j hj => absurd hj (Nat.not_lt_zero _)⟩
end
/-- a representation's cells: its object, the text of its tag, the text's bytes -/
abbrev Re : Type := (Nat × Nat × Nat) × Nat × Rp × (Nat → Int32)
def reW (tc : Nat → ClassId) (K : Nat → Nat) (e : Re) : va_W := [(e.1.1, .inr (7, [.int (nI e.2.1), .ref (K (100 + e.2.2.1.1)), .ref (K (200 + e.2.2.1.2.1)), .int (nI e.2.2.1.2.2.1), .ref e.1.2.1, .int (bI e.2.2.1.2.2.2.2.1), .long (lN e.2.2.1.2.2.2.2.2)])), (e.1.2.1, .inr (10, [.ref e.1.2.2, .int 0, .int 0, .int 0])), (e.1.2.2, .inl (tc 1, (tagL e.2.2.1.2.2.2.1).length, .inl e.2.2.2))]
def reOk (e : Re) : Prop := rpOk e.2.2.1 ∧ ∀ j, j < (tagL e.2.2.1.2.2.2.1).length → e.2.2.2 j = sb_b ((tagL e.2.2.1.2.2.2.1).getD j 0)
section
variable {p : Program} {s : State} {m : MethodId} {args : Array Value} {c : Code} {cc : ByteArray} {nL : Nat} {own : String} {D : va_G} {tys : List (ClassId × FieldType)} {A : Nat → Prop} {tc : Nat → ClassId} {y0 : MethodName} {b0 : ByteArray} {n0 : Nat} {r0 : Option FieldType} {ws : va_W} {H : Heap} {B : Nat → Prop} {K : Nat → Nat}
theorem rpF_of (hC : Cx p s m args c cc nL own (yw y0 b0 n0 r0) D cls tys A tc) (hP : va_P D cls ws H) {x : Re} (hx : reOk x) (hat : ∀ q ∈ reW tc K x, q ∈ ws ∧ ¬ B q.1) : rpF x.1.1 x.2.1 K x.2.2.1 B s H := by
  obtain ⟨h0, g0⟩ := hat (x.1.1, _) (List.mem_cons_self)
  obtain ⟨h1, g1⟩ := hat (x.1.2.1, _) (List.mem_cons_of_mem _ List.mem_cons_self)
  obtain ⟨h2, g2⟩ := hat (x.1.2.2, _) (List.mem_cons_of_mem _ (List.mem_cons_of_mem _ List.mem_cons_self))
  obtain ⟨i0, h0⟩ := List.mem_iff_getElem?.mp h0
  obtain ⟨i1, h1⟩ := List.mem_iff_getElem?.mp h1
  obtain ⟨i2, h2⟩ := List.mem_iff_getElem?.mp h2
  have o := fun k hk => fo_OF hC hP (ci := 7) (k := k) rfl h0 g0 hk
  refine ⟨⟨fo_O hC hP (ci := 7) rfl h0 g0, o 0 (by decide), o 3 (by decide)⟩, o 1 (by decide), o 2 (by decide), ⟨x.1.2.1, o 4 (by decide), fo_O hC hP (ci := 10) rfl h1 g1, fo_OF hC hP (ci := 10) rfl h1 g1 1 (by decide), x.1.2.2, fo_OF hC hP (ci := 10) rfl h1 g1 0 (by decide), ?_⟩, o 5 (by decide), o 6 (by decide)⟩
  exact vT_congr (fun j hj => by rw [hx.2 j hj]) (fo_Ti hC hP (t := 1) (by decide) h2 g2)
end
