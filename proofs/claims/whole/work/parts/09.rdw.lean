/-! THE READER'S WORLD: its cell, the row of said characters; the field's text is only read -/
def rdW (tc : Nat → ClassId) (ci h ra sa : Nat) (ex : List Value) (T rs : List Nat) (sd : Nat → Int32) (ss : Nat) : va_W := [(h, .inr (ci, .ref ra :: .int (nI T.length) :: .int (nI (T.length - rs.length)) :: .ref sa :: .int (nI ss) :: ex)), (sa, .inl (tc 0, 96, .inl sd))]
/-- the text's row: only read -/
def rdF (ra : Nat) (T : List Nat) : (Nat → Prop) → State → Heap → Prop := fun A U H => ∃ (N : Nat) (f : Nat → Value), va_T .int ra N f A U H ∧ (T.length ≤ N ∧ N < 2 ^ 31) ∧ ∀ j, j < T.length → f j = .int (nI (T.getD j 0))
theorem rdF_ro (ra : Nat) (T : List Nat) : RO (rdF ra T) := by
  refine ⟨fun A u U H ha h => ?_, fun A U H H1 hq h => ?_, fun A B U H hAB h => ?_⟩
  · obtain ⟨N, f, h1, h2, h3⟩ := h
    exact ⟨N, f, h1.moved ha.alike, h2, h3⟩
  · obtain ⟨N, f, h1, h2, h3⟩ := h
    exact ⟨N, f, h1.kept hq, h2, h3⟩
  · obtain ⟨N, f, h1, h2, h3⟩ := h
    exact ⟨N, f, h1.narrow hAB, h2, h3⟩
/-- a text: at most 96 characters, each a byte -/
def isT (T : List Nat) : Prop := T.length ≤ 96 ∧ ∀ x ∈ T, 0 < x ∧ x < 256
theorem sfx_at {T rs : List Nat} {x : Nat} {r : List Nat} (h : rs <:+ T) (e : rs = x :: r) : T.length - rs.length < T.length ∧ T.getD (T.length - rs.length) 0 = x ∧ r <:+ T ∧ T.length - rs.length + 1 = T.length - r.length ∧ x ∈ T := by
  obtain ⟨t, ht⟩ := h
  subst e
  subst ht
  have h1 : (t ++ x :: r).length - (x :: r).length = t.length := by simp
  rw [h1]
  refine ⟨by simp, by simp, ⟨t ++ [x], by simp⟩, by simp; omega, by simp⟩
theorem sfx_le {T rs : List Nat} (h : rs <:+ T) : rs.length ≤ T.length := h.length_le
/-- take: the next character, if it is c -/
def pk (c : Nat) (rs : List Nat) : Bool × List Nat := match rs with
  | [] => (false, [])
  | x :: r => if x = c then (true, r) else (false, x :: r)
theorem pk_sfx {c : Nat} {rs T : List Nat} (h : rs <:+ T) : (pk c rs).2 <:+ T := by
  cases rs with
  | nil => exact h
  | cons x r =>
    by_cases e : x = c
    · simpa [pk, e] using (List.suffix_cons x r).trans h
    · simpa [pk, e] using h
theorem rdT_lt {T : List Nat} (h : isT T) {a : Nat} : T.length - a < 2 ^ 31 := by have := h.1; omega
theorem nI_lit (a : Nat) : nI a = Int32.ofNat a := rfl
set_option maxRecDepth 100000 in
set_option maxHeartbeats 4000000 in
theorem c_Rd_take (l : Launch) (D : va_G) (tys : List (ClassId × FieldType)) (tc : Nat → ClassId) (hty : ∀ i : Nat, i < 4 → tys[i]? = some (tc i, vx_ty i)) (ci : Nat) (hci : ci < 5) (h ra sa : Nat) (ex : List Value) (T rs : List Nat) (sd : Nat → Int32) (ss c : Nat) (hT : isT T) (hs : rs <:+ T) (hc : c < 256) :
    Kt l y_Rd_take (yw y_Rd_take b_Rd_take 2 (some .boolean)) 0 0 0 0 D cls tys (rdF ra T) [.ref h, .int (nI c)] (rdW tc ci h ra sa ex T rs sd ss) (fun r w => r = some (.int (bI (pk c rs).1)) ∧ w = rdW tc ci h ra sa ex T (pk c rs).2 sd ss) := by
  refine Kt.of (rdF_ro _ _) (by decide) rfl hty (Nat.le_of_ble_eq_true rfl) ?_
  intro p e s m args below meth c0 A hC hr hlk hnm hF
  obtain ⟨N, f, hrow, hN, hf⟩ := hF
  have hFt : vx_Ft y_Rd_take.cls (yw y_Rd_take b_Rd_take 2 (some .boolean)) cls cty ft_Rd := ft_of (fun w h => List.mem_cons_of_mem _ h) fl_Rd_in ft_Rd_b
  have hini : false = true → meth.name = "<init>" := fun h => by cases h
  have hTl := hT.1
  have hle := sfx_le hs
  rcases (show ci = 0 ∨ ci = 1 ∨ ci = 2 ∨ ci = 3 ∨ ci = 4 by omega) with rfl | rfl | rfl | rfl | rfl
  all_goals
    refine vx_go hC hFt hini (vx_ends hC hr hlk) jc_Rd_take 0 (Nat.zero_le _) rfl ?_
    refine And.intro rfl (And.intro rfl (And.intro (fun c1 => ?_) (fun c1 => ?_)))
    · refine vx_go hC hFt hini (vx_ends hC hr hlk) jc_Rd_take 12 (by decide) rfl ?_
      have hnil : rs = [] := by
        have h2 := (nI_leI (a := T.length) (b := T.length - rs.length) (by omega) (by omega)).mp c1
        exact List.eq_nil_of_length_eq_zero (by omega)
      subst hnil
      exact And.intro rfl (And.intro (And.intro rfl rfl) (And.intro (Nat.le_refl _) (Nat.le_refl _)))
    · have h2 := fun z => c1 ((nI_leI (a := T.length) (b := T.length - rs.length) (by omega) (by omega)).mpr z)
      cases hrs : rs with
      | nil => rw [hrs] at h2; exact absurd (by simp) h2
      | cons x r =>
        obtain ⟨g1, g2, g3, g4, g5⟩ := sfx_at hs hrs
        rw [hrs] at g1 g2 g4
        refine And.intro rfl (And.intro rfl ⟨N, f, hrow, vp_in_nI (by omega) hN.2, ?_⟩)
        rw [nI_clamp (by omega), hf _ g1, g2]
        refine And.intro (fun c2 => ?_) (fun c2 => ?_)
        · have e1 : x = c := (nI_eq (a := x) (b := c) (by have := hT.2 x g5; omega) (by omega)).mp c2
          refine vx_go hC hFt hini (vx_ends hC hr hlk) jc_Rd_take 14 (by decide) rfl ?_
          refine And.intro rfl (And.intro rfl (And.intro rfl (And.intro (And.intro rfl rfl) ?_)))
          refine And.intro rfl (And.intro (And.intro ?_ ?_) (And.intro (Nat.le_refl _) (Nat.le_refl _)))
          · simp [pk, e1, bI]
          · simp [pk, e1, rdW, ← g4, nI_1]
        · have e1 : ¬ x = c := fun z => c2 (by rw [z])
          refine And.intro rfl (And.intro (And.intro ?_ ?_) (And.intro (Nat.le_refl _) (Nat.le_refl _)))
          · simp [pk, e1, bI]
          · simp [pk, e1, rdW]
