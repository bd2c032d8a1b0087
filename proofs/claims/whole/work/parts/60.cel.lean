/-! THE CLASS: cells as read facts, by program (wip/whole/gen/p60.py) -/
section
variable {s : State} {D : va_G} {cl : List vw_C} {tys : List (ClassId × FieldType)} {ws : va_W} {H : Heap} {A : Nat → Prop}
theorem cell_Ti (hK : va_K D cl tys s) (hP : va_P D cl ws H) {i t a N : Nat} {cA : ClassId} {ty : FieldType} {f : Nat → Int32} (hi : ws[i]? = some (a, .inl (cA, N, .inl f))) (ht : tys[t]? = some (cA, ty)) (hn : ¬ A a) : va_T ty a N (fun j => .int (f j)) A s H :=
  ⟨vp_cell cA (N, .inl f), hP i _ hi, (hK.2 t _ ht).1 N (fun j => .int (f j)), (fun q => by cases q), by show N ≤ (arrV _ _ _).slots.size; exact Nat.le_of_eq (arrV_size _ _ _).symm, by show (arrV _ _ _).slots.size.toInt32 = _; rw [arrV_size], fun j hj => by show (arrV _ _ _).slots[_]? = _; rw [arrV_read _ _ hj], hn⟩
theorem cell_Tr (hK : va_K D cl tys s) (hP : va_P D cl ws H) {i t a N : Nat} {cA : ClassId} {ty : FieldType} {f : Nat → Option Nat} (hi : ws[i]? = some (a, .inl (cA, N, .inr (.inr (.inr (.inr f)))))) (ht : tys[t]? = some (cA, ty)) (hn : ¬ A a) : va_T ty a N (fun j => va_rf (f j)) A s H :=
  ⟨vp_cell cA (N, .inr (.inr (.inr (.inr f)))), hP i _ hi, (hK.2 t _ ht).1 N (fun j => va_rf (f j)), (fun q => by cases q), by show N ≤ (arrV _ _ _).slots.size; exact Nat.le_of_eq (arrV_size _ _ _).symm, by show (arrV _ _ _).slots.size.toInt32 = _; rw [arrV_size], fun j hj => by show (arrV _ _ _).slots[_]? = _; rw [arrV_read _ _ hj], hn⟩
theorem cell_O (hK : va_K D cl tys s) (hP : va_P D cl ws H) {i a ci : Nat} {fs : List Value} {q : vw_C} (hc : cl[ci]? = some q) (hi : ws[i]? = some (a, .inr (ci, fs))) (hn : ¬ A a) : va_O q.1 a A s H := by
  obtain ⟨cell, h1, h2, h3⟩ := va_recv hK hP hc hi
  exact ⟨cell, h1, h2, h3, hn⟩
theorem cell_OF {ws0 : List Cond} {args : Array Value} (hts : ∀ w ∈ ws0, w.before args s = true) (hK : va_K D cl tys s) (hP : va_P D cl ws H) {i a ci : Nat} {fs : List Value} {C : String} {T : u_T} {N : Nat} (hc : cl[ci]? = some (C, T, N)) (hin : ∀ w ∈ u_ws C T N, w ∈ ws0) (hi : ws[i]? = some (a, .inr (ci, fs))) (k : Nat) (hk : k < N) (hn : ¬ A a) : va_OF (T k).1 (T k).2.1 (T k).2.2.1 (vp_V fs k) a A s H := by
  obtain ⟨q', h1, cell, g1, g2, g3, g4⟩ := hP i _ hi
  cases hc.symm.trans h1
  obtain ⟨hS, hfc, kC, hkC, -⟩ := hK.1 ci _ hc
  obtain ⟨cf, kf, fi, fd, hf, he⟩ := hS k hk
  have h3 := u_facts hfc hkC (u_lays hts hin hk) hf
  exact ⟨cf, kf, fi, fd, cell, hf, h3.1, g1, (by rw [g3]; exact fun z => by cases z), (by rw [he]; exact g4 k hk), hn⟩
end
