/-! THE CLASS: worlds with more cells; ranges, by program (wip/whole/gen/p70.py) -/
theorem rot_idx {α : Type} {a b : List α} {k : Nat} {q : α} (h : (b ++ a)[k]? = some q) : (a ++ b)[if k < b.length then a.length + k else k - b.length]? = some q := by
  by_cases e : k < b.length
  · rw [if_pos e, List.getElem?_append_right (by omega), Nat.add_sub_cancel_left]
    rwa [List.getElem?_append_left e] at h
  · rw [if_neg e]
    rw [List.getElem?_append_right (by omega)] at h
    rw [List.getElem?_append_left (List.getElem?_eq_some_iff.mp h).1]
    exact h
section
variable {p : Program} {l : Launch} {e : Env} {R : Room} {s : State} {m : MethodId} {args : Array Value} {below : List Frame} {meth : Method} {c : Code} {cc : ByteArray} {nL : Nat} {D : va_G} {cl : List vw_C} {tys : List (ClassId × FieldType)} {A : Nat → Prop} {tc : Nat → ClassId} {Q : State → Prop} {pc : Nat} {lv : wq_L} {st rest : List Value} {k n : Nat} {wa wb : va_W}
/-- the cells in another order -/
theorem Vx.rot (h : Vx p l e R s m args below meth c nL D cl A Q pc lv st (wb ++ wa) k n) : Vx p l e R s m args below meth c nL D cl A Q pc lv st (wa ++ wb) k n := by
  intro H locs ls hP hD hS hl
  refine h H locs ls (fun j q hq => hP _ q (rot_idx hq)) ⟨fun i j q1 q2 h1 h2 he => ?_, fun j q hq => hD.2 _ q (rot_idx hq)⟩ hS hl
  have h3 := hD.1 _ _ q1 q2 (rot_idx h1) (rot_idx h2) he
  have l1 := (List.getElem?_eq_some_iff.mp h1).1
  have l2 := (List.getElem?_eq_some_iff.mp h2).1
  rw [List.length_append] at l1 l2
  split at h3 <;> split at h3 <;> omega
variable {post : Option Value → va_W → Prop} {F : (Nat → Prop) → State → Heap → Prop} {ret : Option FieldType} {K : List Value → va_W → Nat → Nat → Prop} {x y y0 : MethodName} {bytes b0 : ByteArray} {maxL n0 index nA fr lo : Nat} {r0 : Option FieldType} {b : Nat} {As : List Value} {own C owner : String}
/-- an inherited method on a reader that has more cells -/
theorem ux_callN {ci h : Nat} {fs : List Value} {q1 : Nat × va_E} {wr : va_W} {rc : vw_C} (hC : Cx p s m args c cc nL own (yw y0 b0 n0 r0) D cls tys A tc) (hk : Kt l y (yw y bytes maxL ret) fr lo 0 0 D cls tys F (.ref h :: As) [(h, .inr (ci, fs)), q1] post) (hF : F A s s.heap) (cw : va_CU R s args own C owner index x y bytes maxL ret (yw y bytes maxL ret) { frames := fr, cells := 0, slots := 0, locals := lo } 0 0 nA) (h1 : cls[ci]? = some rc) (h2 : rc.1 = C) (isR : List Nat) (hR : isR.map (fun i => ((h, .inr (ci, fs)) :: q1 :: wr)[i]?) = wr.map some) (hn : va_nd isR = true) (hdis : ∀ i ∈ isR, i ∉ [0, 1]) (hlen : As.length = nA) (hst : st = As.reverse ++ .ref h :: rest) (hW : (rest.map fun v => v.category).sum ≤ 8) (hkn : k ≤ R.cells ∧ n ≤ R.slots)
    (kk : ∀ (r : Option Value) (w1 : va_W), post r w1 → K (r.toList ++ rest) (w1 ++ wr) k n) : vx_SX cc (Vx p l e R s m args below meth c nL D cls A Q) (.invokevirtual index) 3 st ((h, .inr (ci, fs)) :: q1 :: wr) k n K := by
  intro pc lv hdg hK
  have hs := sx_callU (p := p) (l := l) (e := e) (m := m) (below := below) (meth := meth) (Q := Q) (ws := (h, .inr (ci, fs)) :: q1 :: wr) (wr := wr) (K := fun st2 ws2 k2 n2 => Vx p l e R s m args below meth c nL D cls A Q (pc + 3) lv st2 ws2 k2 n2) hC hk cw [0, 1] isR rfl hR rfl hn hdis (q0 := 0) rfl h1 h2 (vx_ro hk.1 hC.2.2.2.2.2.2.1 hF [0, 1] rfl) hlen hst hW hkn (fun r w1 hp => Vx.rot (hK _ _ _ _ (kk r w1 hp)))
  exact hs pc lv hdg (fun _ _ _ _ z => z)
end
