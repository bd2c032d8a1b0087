/-! ENDS OF LISTS, by program (wip/whole/gen/p59.py) -/
theorem pk_sf {c : Nat} {rs : List Nat} : (pk c rs).2 <:+ rs := pk_sfx (List.suffix_refl _)
theorem pk_f {c : Nat} {rs : List Nat} (h : (pk c rs).1 = false) : (pk c rs).2 = rs := by
  cases rs with
  | nil => rfl
  | cons a b =>
    simp only [pk] at h ⊢
    by_cases e : a = c
    · rw [if_pos e] at h; cases h
    · rw [if_neg e]
theorem gp_gp {rs : List Nat} : gp (gp rs) = gp rs := by
  unfold gp
  induction rs with
  | nil => rfl
  | cons a b ih =>
    cases h : isGp a with
    | true => rw [dw_t h]; exact ih
    | false => rw [dw_f h, dw_f h]
theorem gp_sf {rs : List Nat} : gp rs <:+ rs := List.dropWhile_suffix _
theorem gc_sf {rs : List Nat} : gc rs <:+ rs := List.dropWhile_suffix _
theorem sc_1 {q : List Nat} : (sc q).1 = (pk 59 q).1 := by
  unfold sc
  rcases pk 59 q with ⟨a, b⟩
  cases a <;> rfl
theorem sc_t {q : List Nat} (h : (pk 59 q).1 = true) : (sc q).2 = gp (pk 59 q).2 := by
  unfold sc
  rcases hq : pk 59 q with ⟨a, b⟩
  rw [hq] at h
  cases a with
  | true => rfl
  | false => cases h
theorem sc_f {q : List Nat} (h : (pk 59 q).1 = false) : (sc q).2 = q := by
  have h1 := pk_f h
  unfold sc
  rcases hq : pk 59 q with ⟨a, b⟩
  rw [hq] at h h1
  cases a with
  | true => cases h
  | false => exact h1
theorem sc_sf {q : List Nat} : (sc q).2 <:+ q := by
  cases h : (pk 59 q).1 with
  | true => rw [sc_t h]; exact gp_sf.trans pk_sf
  | false => rw [sc_f h]; exact List.suffix_refl _
theorem wls_sf {th : Nat} {rs : List Nat} : ∀ {q : Nat}, (wls q th rs).2 <:+ rs := by
  induction rs generalizing th with
  | nil => intro q; exact List.suffix_refl _
  | cons a b ih =>
    intro q
    unfold wls
    split
    · exact ih.trans (List.suffix_cons _ _)
    · exact List.suffix_refl _
theorem wt2_sf {th : Nat} {rs : List Nat} : (wt2 th rs).2 <:+ rs := by
  have h := pk_sf (c := 46) (rs := rs)
  unfold wt2
  rcases hq : pk 46 rs with ⟨a, b⟩
  rw [hq] at h
  cases a with
  | false => exact h
  | true => exact wls_sf.trans h
theorem wt_sf {rs : List Nat} : (wt rs).2 <:+ rs := by
  have h := pk_sf (c := 61) (rs := rs)
  unfold wt
  rcases hq : pk 61 rs with ⟨a, b⟩
  rw [hq] at h
  cases a with
  | false => exact h
  | true =>
    have h2 := pk_sf (c := 49) (rs := b)
    simp only []
    rcases hq2 : pk 49 b with ⟨a2, b2⟩
    rw [hq2] at h2
    cases a2 with
    | true => exact wt2_sf.trans (h2.trans h)
    | false =>
      have h3 := pk_sf (c := 48) (rs := b2)
      simp only []
      rcases hq3 : pk 48 b2 with ⟨a3, b3⟩
      rw [hq3] at h3
      cases a3 with
      | false => exact h3.trans (h2.trans h)
      | true => exact wt2_sf.trans (h3.trans (h2.trans h))
theorem qtx_sf {rs S : List Nat} : (qtx rs S).2.1 <:+ rs := by
  fun_induction qtx rs S
  all_goals first | exact List.suffix_refl _ | exact List.suffix_cons _ _ | (rename_i ih; exact ih.trans (List.suffix_cons _ _)) | (rename_i ih; exact ih.trans ((List.suffix_cons _ _).trans (List.suffix_cons _ _))) | exact List.nil_suffix
theorem qtx_in {rs S : List Nat} : (qtx rs S).2.2.length ≤ S.length + rs.length ∧ ∀ z ∈ (qtx rs S).2.2, z ∈ S ∨ z ∈ rs := by
  fun_induction qtx rs S
  all_goals first
    | (rename_i ih
       refine ⟨by have := ih.1; simp only [List.length_append, List.length_cons, List.length_nil] at this ⊢; omega, fun z hz => ?_⟩
       have := ih.2 z hz
       simp only [List.mem_append, List.mem_cons, List.not_mem_nil, or_false] at this ⊢
       rcases this with (y | y) | y
       · exact Or.inl y
       · simp [y]
       · simp [y])
    | exact ⟨Nat.le_add_right _ _, fun z hz => Or.inl hz⟩
theorem qtd_sf {rs : List Nat} : (qtd rs).2.1 <:+ rs := by
  have h := pk_sf (c := 34) (rs := rs)
  unfold qtd
  rcases hq : pk 34 rs with ⟨a, b⟩
  rw [hq] at h
  cases a with
  | false => exact h
  | true => exact qtx_sf.trans h
theorem qtd_in {rs : List Nat} : (qtd rs).2.2.length ≤ rs.length ∧ ∀ z ∈ (qtd rs).2.2, z ∈ rs := by
  have h := pk_sf (c := 34) (rs := rs)
  unfold qtd
  rcases hq : pk 34 rs with ⟨a, b⟩
  rw [hq] at h
  cases a with
  | false => exact ⟨Nat.zero_le _, fun z hz => by cases hz⟩
  | true =>
    have h2 := qtx_in (rs := b) (S := [])
    have h3 := h.length_le
    refine ⟨by have := h2.1; simp only [List.length_nil, Nat.zero_add] at this; exact Nat.le_trans this h3, fun z hz => ?_⟩
    rcases h2.2 z hz with y | y
    · cases y
    · exact h.subset y
theorem lng_sf {q : Nat} {dt : Bool} {rs S : List Nat} : (lng q dt rs S).2.1 <:+ rs ∧ (lng q dt rs S).2.2.length ≤ S.length + rs.length ∧ ∀ z ∈ (lng q dt rs S).2.2, z ∈ S ∨ z ∈ rs := by
  induction rs generalizing q dt S with
  | nil => exact ⟨List.suffix_refl _, Nat.le_add_right _ _, fun z hz => Or.inl hz⟩
  | cons a b ih =>
    have base : ∀ (c : Bool), ((c, a :: b, S) : Bool × List Nat × List Nat).2.1 <:+ a :: b ∧ ((c, a :: b, S) : Bool × List Nat × List Nat).2.2.length ≤ S.length + (a :: b).length ∧ ∀ z ∈ ((c, a :: b, S) : Bool × List Nat × List Nat).2.2, z ∈ S ∨ z ∈ a :: b := fun c => ⟨List.suffix_refl _, Nat.le_add_right _ _, fun z hz => Or.inl hz⟩
    have step : ∀ (q2 : Nat) (d2 : Bool), (lng q2 d2 b (S ++ [a])).2.1 <:+ a :: b ∧ (lng q2 d2 b (S ++ [a])).2.2.length ≤ S.length + (a :: b).length ∧ ∀ z ∈ (lng q2 d2 b (S ++ [a])).2.2, z ∈ S ∨ z ∈ a :: b := by
      intro q2 d2
      obtain ⟨i1, i2, i3⟩ := ih (q := q2) (dt := d2) (S := S ++ [a])
      refine ⟨i1.trans (List.suffix_cons _ _), by simp only [List.length_append, List.length_cons, List.length_nil] at i2 ⊢; omega, fun z hz => ?_⟩
      have := i3 z hz
      simp only [List.mem_append, List.mem_cons, List.not_mem_nil, or_false] at this ⊢
      rcases this with (y | y) | y
      · exact Or.inl y
      · exact Or.inr (Or.inl y)
      · exact Or.inr (Or.inr y)
    unfold lng
    split
    · split
      · exact base _
      · exact step _ _
    · split
      · split
        · exact base _
        · exact step _ _
      · exact base _
theorem lgt_sf {rs : List Nat} : (lgt rs).2.1 <:+ rs := by
  have h := pk_sf (c := 42) (rs := rs)
  unfold lgt
  rcases hq : pk 42 rs with ⟨a, b⟩
  rw [hq] at h
  cases a with
  | true => exact h
  | false => exact lng_sf.1.trans h
theorem lgt_in {rs : List Nat} : (lgt rs).2.2.length ≤ rs.length + 1 ∧ ∀ z ∈ (lgt rs).2.2, z = 42 ∨ z ∈ rs := by
  have h := pk_sf (c := 42) (rs := rs)
  unfold lgt
  rcases hq : pk 42 rs with ⟨a, b⟩
  rw [hq] at h
  cases a with
  | true => exact ⟨by simp, fun z hz => Or.inl (List.mem_singleton.mp hz)⟩
  | false =>
    obtain ⟨_, i2, i3⟩ := lng_sf (q := 0) (dt := false) (rs := b) (S := [])
    have h3 := h.length_le
    refine ⟨?_, fun z hz => ?_⟩
    · show (lng 0 false b []).2.2.length ≤ rs.length + 1
      have h4 : b.length ≤ rs.length := h3
      simp only [List.length_nil, Nat.zero_add] at i2
      omega
    · rcases i3 z hz with y | y
      · cases y
      · exact Or.inr (h.subset y)
theorem tt_sf {W rs : List Nat} : (tt W rs).2 <:+ rs := by
  induction W generalizing rs with
  | nil => exact List.suffix_refl _
  | cons c W ih =>
    have h := pk_sf (c := c) (rs := rs)
    rw [tt]
    rcases hq : pk c rs with ⟨a, b⟩
    rw [hq] at h
    cases a with
    | true => exact ih.trans h
    | false => exact h
theorem ta_sf {W rs : List Nat} : (ta W rs).2 <:+ rs := by
  induction W generalizing rs with
  | nil => cases rs <;> exact List.suffix_refl _
  | cons c W ih =>
    cases rs with
    | nil => exact List.suffix_refl _
    | cons a b =>
      rw [ta]
      split
      · exact ih.trans (List.suffix_cons _ _)
      · exact List.suffix_refl _
theorem opq_sf {rs : List Nat} : (opq rs).2.1 <:+ rs := by
  have h := pk_sf (c := 34) (rs := rs)
  unfold opq
  rcases hq : pk 34 rs with ⟨a, b⟩
  rw [hq] at h
  cases a with
  | false => exact h
  | true => exact pk_sf.trans ((List.dropWhile_suffix _).trans h)
theorem opq_in {rs : List Nat} : (opq rs).2.2.length ≤ rs.length ∧ ∀ z ∈ (opq rs).2.2, z ∈ rs := by
  have h := pk_sf (c := 34) (rs := rs)
  unfold opq
  rcases hq : pk 34 rs with ⟨a, b⟩
  rw [hq] at h
  cases a with
  | false => exact ⟨Nat.zero_le _, fun z hz => by cases hz⟩
  | true =>
    have h1 := (List.takeWhile_sublist (l := b) isOp).length_le
    have h2 := h.length_le
    exact ⟨Nat.le_trans h1 h2, fun z hz => h.subset ((List.takeWhile_sublist (l := b) isOp).subset hz)⟩
theorem dgs_sf {k a : Nat} {rs : List Nat} : (dgs k a rs).2 <:+ rs := by
  induction k generalizing a rs with
  | zero => cases rs <;> exact List.suffix_refl _
  | succ k ih =>
    cases rs with
    | nil => exact List.suffix_refl _
    | cons c r =>
      rw [dgs]
      split
      · exact ih.trans (List.suffix_cons _ _)
      · exact List.suffix_refl _
theorem nmAt_sf {W rs : List Nat} : (nmAt W rs).2 <:+ rs := by
  unfold nmAt
  split
  · split
    · exact (List.suffix_cons _ _).trans ((List.suffix_cons _ _).trans (List.suffix_cons _ _))
    · exact List.suffix_refl _
  · exact List.suffix_refl _
/-- what is said is a text's -/
theorem in_lt {S rs T : List Nat} (hT : isT T) (hs : rs <:+ T) (h : S.length ≤ rs.length ∧ ∀ z ∈ S, z ∈ rs) : S.length ≤ 96 ∧ ∀ i, i < S.length → S.getD i 0 < 256 := by
  have h2 := sfx_le hs
  have h3 := hT.1
  refine ⟨by omega, fun i hi => ?_⟩
  rw [List.getD_eq_getElem?_getD, List.getElem?_eq_getElem hi]
  exact (hT.2 _ (hs.subset (h.2 _ (List.getElem_mem hi)))).2
