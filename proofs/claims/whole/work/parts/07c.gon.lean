/-! a stretch that ends ahead of a loop's head -/
theorem wq_c_take {cc : ByteArray} {nL : Nat} : ∀ (n : Nat) (j : wq_J) (b : Nat), wq_c cc nL j b = true → wq_c cc nL (j.take n) b = true
  | 0, j, b, _ => by rw [List.take_zero]; rfl
  | n + 1, [], b, _ => rfl
  | n + 1, (ins, an) :: r, b, h => by
    rw [wq_c, Bool.and_eq_true] at h
    rw [List.take_succ_cons, wq_c, Bool.and_eq_true]
    exact ⟨h.1, wq_c_take n r _ h.2⟩
theorem vx_gon {p : Program} {l : Launch} {e : Env} {R : Room} {s : State} {m : MethodId} {args : Array Value} {below : List Frame} {meth : Method} {c : Code} {cc : ByteArray} {nL : Nat} {own : String} {Ts : List Cond} {D : va_G} {cl : List vw_C} {tys : List (ClassId × FieldType)} {A : Nat → Prop} {tc : Nat → ClassId} {Q : State → Prop} {st : List Value} {ws : va_W} {k n : Nat} {ini : Bool} {EN : Option Value → va_W → Nat → Nat → Prop} {ft : List (Nat × Nat × Nat × Nat)} {ty : Nat → Nat → FieldType}
    {j : wq_J} (hC : Cx p s m args c cc nL own Ts D cl tys A tc) (hF : vx_Ft own Ts cl ty ft) (hini : ini = true → meth.name = "<init>") (hE : vx_EN cc EN (Vx p l e R s m args below meth c nL D cl A Q)) (hj : wq_c cc nL j 0 = true) (i a : Nat) {pc : Nat} (hi : i ≤ j.length) (hpc : wq_pc j i = pc) {lv : wq_L}
    (h : wq nL ini tc ft ty (vx_RT A s) (vx_RF own args A s) (vx_RZ own args A s) (vx_RS own args s) (vx_SX cc (Vx p l e R s m args below meth c nL D cl A Q)) EN (Vx p l e R s m args below meth c nL D cl A Q) ((j.drop i).take a) pc lv st ws k n) : Vx p l e R s m args below meth c nL D cl A Q pc lv st ws k n := by
  subst hpc
  have h1 := wq_c_drop i j 0 hi hj
  rw [Nat.zero_add] at h1
  exact wq_sound hC hF hini hE _ _ _ _ _ _ _ (wq_c_take a _ _ h1) h
