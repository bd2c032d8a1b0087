/-! THE READER'S SMALL METHODS, by program (wip/whole/gen/p10.py) -/
def lwr (c : Nat) : Nat := if 65 ≤ c ∧ c ≤ 90 then c + 32 else c
def isLt (c : Nat) : Bool := decide (65 ≤ c ∧ c ≤ 90 ∨ 97 ≤ c ∧ c ≤ 122)
def isQt (c : Nat) : Bool := decide (c = 9 ∨ 32 ≤ c ∧ c ≠ 127)
theorem lt_or32 : ∀ c, c < 256 → (nI c ||| (32 : Int32) = nI (c ||| 32)) ∧ ((97 ≤ c ||| 32 ∧ c ||| 32 ≤ 122) ↔ (65 ≤ c ∧ c ≤ 90 ∨ 97 ≤ c ∧ c ≤ 122)) ∧ c ||| 32 < 256 := by decide +kernel
set_option maxRecDepth 100000 in
set_option maxHeartbeats 4000000 in
theorem c_Rd_lower (l : Launch) (D : va_G) (tys : List (ClassId × FieldType)) (tc : Nat → ClassId) (hty : ∀ i : Nat, i < 4 → tys[i]? = some (tc i, vx_ty i)) (c : Nat) (hc : c < 256) : Kt l y_Rd_lower (yw y_Rd_lower b_Rd_lower 1 (some .int)) 0 0 0 0 D cls tys (fun _ _ _ => True) [.int (nI c)] [] (fun r w => r = some (.int (nI (lwr c))) ∧ w = []) := by
  refine Kt.of ro_true (by decide) rfl hty (Nat.le_of_ble_eq_true rfl) ?_
  intro p e s m args below meth c0 A hC hr hlk hnm hF
  have hFt : vx_Ft y_Rd_lower.cls (yw y_Rd_lower b_Rd_lower 1 (some .int)) cls cty [] := (fun q h => by cases h)
  have hini : false = true → meth.name = "<init>" := fun h => by cases h
  refine vx_go hC hFt hini (vx_ends hC hr hlk) jc_Rd_lower 0 (by decide) rfl ?_
  refine And.intro (fun c2 => ?_) (fun c2 => ?_)
  · skip
    have c2 := (nI_ltI (a := c) (b := 65) (by omega) (by omega)).mp c2
    refine vx_go hC hFt hini (vx_ends hC hr hlk) jc_Rd_lower 10 (by decide) rfl ?_
    refine And.intro (trivial) (And.intro ?_ (And.intro (Nat.le_refl _) (Nat.le_refl _)))
    refine And.intro ?_ rfl
    simp only [lwr]
    first | (rw [if_pos (by omega), ← nI_add]; rfl) | (rw [if_neg (by omega)])
  · skip
    have c2 : ¬ (c < 65) := fun z => c2 ((nI_ltI (a := c) (b := 65) (by omega) (by omega)).mpr z)
    refine And.intro (fun c5 => ?_) (fun c5 => ?_)
    · skip
      have c5 := (nI_ltI (a := 90) (b := c) (by omega) (by omega)).mp c5
      refine vx_go hC hFt hini (vx_ends hC hr hlk) jc_Rd_lower 10 (by decide) rfl ?_
      refine And.intro (trivial) (And.intro ?_ (And.intro (Nat.le_refl _) (Nat.le_refl _)))
      refine And.intro ?_ rfl
      simp only [lwr]
      first | (rw [if_pos (by omega), ← nI_add]; rfl) | (rw [if_neg (by omega)])
    · skip
      have c5 : ¬ (90 < c) := fun z => c5 ((nI_ltI (a := 90) (b := c) (by omega) (by omega)).mpr z)
      refine vx_go hC hFt hini (vx_ends hC hr hlk) jc_Rd_lower 11 (by decide) rfl ?_
      refine And.intro (trivial) (And.intro ?_ (And.intro (Nat.le_refl _) (Nat.le_refl _)))
      refine And.intro ?_ rfl
      simp only [lwr]
      first | (rw [if_pos (by omega), ← nI_add]; rfl) | (rw [if_neg (by omega)])
set_option maxRecDepth 100000 in
set_option maxHeartbeats 4000000 in
theorem c_Rd_isQuotable (l : Launch) (D : va_G) (tys : List (ClassId × FieldType)) (tc : Nat → ClassId) (hty : ∀ i : Nat, i < 4 → tys[i]? = some (tc i, vx_ty i)) (c : Nat) (hc : c < 256) : Kt l y_Rd_isQuotable (yw y_Rd_isQuotable b_Rd_isQuotable 1 (some .boolean)) 0 0 0 0 D cls tys (fun _ _ _ => True) [.int (nI c)] [] (fun r w => r = some (.int (bI (isQt c))) ∧ w = []) := by
  refine Kt.of ro_true (by decide) rfl hty (Nat.le_of_ble_eq_true rfl) ?_
  intro p e s m args below meth c0 A hC hr hlk hnm hF
  have hFt : vx_Ft y_Rd_isQuotable.cls (yw y_Rd_isQuotable b_Rd_isQuotable 1 (some .boolean)) cls cty [] := (fun q h => by cases h)
  have hini : false = true → meth.name = "<init>" := fun h => by cases h
  refine vx_go hC hFt hini (vx_ends hC hr hlk) jc_Rd_isQuotable 0 (by decide) rfl ?_
  refine And.intro (fun c2 => ?_) (fun c2 => ?_)
  · skip
    have c2 := (nI_eq (a := c) (b := 9) (by omega) (by omega)).mp c2
    refine vx_go hC hFt hini (vx_ends hC hr hlk) jc_Rd_isQuotable 9 (by decide) rfl ?_
    refine vx_go hC hFt hini (vx_ends hC hr hlk) jc_Rd_isQuotable 12 (by decide) rfl ?_
    refine And.intro (rfl) (And.intro ?_ (And.intro (Nat.le_refl _) (Nat.le_refl _)))
    refine And.intro ?_ rfl
    first | (rw [show isQt c = true by simp only [isQt, decide_eq_true_eq]; omega]; rfl) | (rw [show isQt c = false by simp only [isQt, decide_eq_false_iff_not]; omega]; rfl)
  · skip
    have c2 : ¬ (c = 9) := fun z => c2 ((nI_eq (a := c) (b := 9) (by omega) (by omega)).mpr z)
    refine And.intro (fun c5 => ?_) (fun c5 => ?_)
    · skip
      have c5 := (nI_ltI (a := c) (b := 32) (by omega) (by omega)).mp c5
      refine vx_go hC hFt hini (vx_ends hC hr hlk) jc_Rd_isQuotable 11 (by decide) rfl ?_
      refine And.intro (rfl) (And.intro ?_ (And.intro (Nat.le_refl _) (Nat.le_refl _)))
      refine And.intro ?_ rfl
      first | (rw [show isQt c = true by simp only [isQt, decide_eq_true_eq]; omega]; rfl) | (rw [show isQt c = false by simp only [isQt, decide_eq_false_iff_not]; omega]; rfl)
    · skip
      have c5 : ¬ (c < 32) := fun z => c5 ((nI_ltI (a := c) (b := 32) (by omega) (by omega)).mpr z)
      refine And.intro (fun c8 => ?_) (fun c8 => ?_)
      · skip
        have c8 := (nI_eq (a := c) (b := 127) (by omega) (by omega)).mp c8
        refine vx_go hC hFt hini (vx_ends hC hr hlk) jc_Rd_isQuotable 11 (by decide) rfl ?_
        refine And.intro (rfl) (And.intro ?_ (And.intro (Nat.le_refl _) (Nat.le_refl _)))
        refine And.intro ?_ rfl
        first | (rw [show isQt c = true by simp only [isQt, decide_eq_true_eq]; omega]; rfl) | (rw [show isQt c = false by simp only [isQt, decide_eq_false_iff_not]; omega]; rfl)
      · skip
        have c8 : ¬ (c = 127) := fun z => c8 ((nI_eq (a := c) (b := 127) (by omega) (by omega)).mpr z)
        refine vx_go hC hFt hini (vx_ends hC hr hlk) jc_Rd_isQuotable 12 (by decide) rfl ?_
        refine And.intro (rfl) (And.intro ?_ (And.intro (Nat.le_refl _) (Nat.le_refl _)))
        refine And.intro ?_ rfl
        first | (rw [show isQt c = true by simp only [isQt, decide_eq_true_eq]; omega]; rfl) | (rw [show isQt c = false by simp only [isQt, decide_eq_false_iff_not]; omega]; rfl)
set_option maxRecDepth 100000 in
set_option maxHeartbeats 4000000 in
theorem c_Rd_isLetter (l : Launch) (D : va_G) (tys : List (ClassId × FieldType)) (tc : Nat → ClassId) (hty : ∀ i : Nat, i < 4 → tys[i]? = some (tc i, vx_ty i)) (c : Nat) (hc : c < 256) : Kt l y_Rd_isLetter (yw y_Rd_isLetter b_Rd_isLetter 2 (some .boolean)) 0 0 0 0 D cls tys (fun _ _ _ => True) [.int (nI c)] [] (fun r w => r = some (.int (bI (isLt c))) ∧ w = []) := by
  refine Kt.of ro_true (by decide) rfl hty (Nat.le_of_ble_eq_true rfl) ?_
  intro p e s m args below meth c0 A hC hr hlk hnm hF
  have hFt : vx_Ft y_Rd_isLetter.cls (yw y_Rd_isLetter b_Rd_isLetter 2 (some .boolean)) cls cty [] := (fun q h => by cases h)
  have hini : false = true → meth.name = "<init>" := fun h => by cases h
  obtain ⟨h1, h2, h3⟩ := lt_or32 c hc
  refine vx_go hC hFt hini (vx_ends hC hr hlk) jc_Rd_isLetter 0 (by decide) rfl ?_
  refine And.intro (fun c6 => ?_) (fun c6 => ?_)
  · skip
    rw [h1] at c6
    have c6 := (nI_ltI (a := (c ||| 32)) (b := 97) (by omega) (by omega)).mp c6
    refine vx_go hC hFt hini (vx_ends hC hr hlk) jc_Rd_isLetter 12 (by decide) rfl ?_
    refine And.intro (rfl) (And.intro ?_ (And.intro (Nat.le_refl _) (Nat.le_refl _)))
    refine And.intro ?_ rfl
    first | (rw [show isLt c = true by simp only [isLt, decide_eq_true_eq]; exact h2.mp (by omega)]; rfl) | (rw [show isLt c = false by simp only [isLt, decide_eq_false_iff_not]; exact fun z => absurd (h2.mpr z) (by omega)]; rfl)
  · skip
    rw [h1] at c6
    have c6 : ¬ ((c ||| 32) < 97) := fun z => c6 ((nI_ltI (a := (c ||| 32)) (b := 97) (by omega) (by omega)).mpr z)
    refine And.intro (fun c9 => ?_) (fun c9 => ?_)
    · skip
      rw [h1] at c9
      have c9 := (nI_ltI (a := 122) (b := (c ||| 32)) (by omega) (by omega)).mp c9
      refine vx_go hC hFt hini (vx_ends hC hr hlk) jc_Rd_isLetter 12 (by decide) rfl ?_
      refine And.intro (rfl) (And.intro ?_ (And.intro (Nat.le_refl _) (Nat.le_refl _)))
      refine And.intro ?_ rfl
      first | (rw [show isLt c = true by simp only [isLt, decide_eq_true_eq]; exact h2.mp (by omega)]; rfl) | (rw [show isLt c = false by simp only [isLt, decide_eq_false_iff_not]; exact fun z => absurd (h2.mpr z) (by omega)]; rfl)
    · skip
      rw [h1] at c9
      have c9 : ¬ (122 < (c ||| 32)) := fun z => c9 ((nI_ltI (a := 122) (b := (c ||| 32)) (by omega) (by omega)).mpr z)
      refine vx_go hC hFt hini (vx_ends hC hr hlk) jc_Rd_isLetter 13 (by decide) rfl ?_
      refine And.intro (rfl) (And.intro ?_ (And.intro (Nat.le_refl _) (Nat.le_refl _)))
      refine And.intro ?_ rfl
      first | (rw [show isLt c = true by simp only [isLt, decide_eq_true_eq]; exact h2.mp (by omega)]; rfl) | (rw [show isLt c = false by simp only [isLt, decide_eq_false_iff_not]; exact fun z => absurd (h2.mpr z) (by omega)]; rfl)
set_option maxRecDepth 100000 in
set_option maxHeartbeats 4000000 in
theorem c_Rd_isEnded (l : Launch) (D : va_G) (tys : List (ClassId × FieldType)) (tc : Nat → ClassId) (hty : ∀ i : Nat, i < 4 → tys[i]? = some (tc i, vx_ty i)) (ci : Nat) (hci : ci < 5) (h ra sa : Nat) (ex : List Value) (T rs : List Nat) (sd : Nat → Int32) (ss : Nat) (hT : isT T) (hs : rs <:+ T) : Kt l y_Rd_isEnded (yw y_Rd_isEnded b_Rd_isEnded 1 (some .boolean)) 0 0 0 0 D cls tys (rdF ra T) [.ref h] (rdW tc ci h ra sa ex T rs sd ss) (fun r w => r = some (.int (bI rs.isEmpty)) ∧ w = (rdW tc ci h ra sa ex T rs sd ss)) := by
  refine Kt.of (rdF_ro _ _) (by decide) rfl hty (Nat.le_of_ble_eq_true rfl) ?_
  intro p e s m args below meth c0 A hC hr hlk hnm hF
  have hFt : vx_Ft y_Rd_isEnded.cls (yw y_Rd_isEnded b_Rd_isEnded 1 (some .boolean)) cls cty ft_Rd := ft_of (fun w h => List.mem_cons_of_mem _ h) fl_Rd_in ft_Rd_b
  have hini : false = true → meth.name = "<init>" := fun h => by cases h
  have hF0 := hF
  obtain ⟨N, f, hrow, hN, hf⟩ := hF
  have hTl := hT.1
  rcases (show ci = 0 ∨ ci = 1 ∨ ci = 2 ∨ ci = 3 ∨ ci = 4 by omega) with rfl | rfl | rfl | rfl | rfl
  all_goals
    refine vx_go hC hFt hini (vx_ends hC hr hlk) jc_Rd_isEnded 0 (by decide) rfl ?_
    refine And.intro rfl ?_
    refine And.intro rfl ?_
    refine And.intro (fun c4 => ?_) (fun c4 => ?_)
    · skip
      have hle := sfx_le hs
      have h2 := (nI_ltI (a := T.length - rs.length) (b := T.length) (by omega) (by omega)).mp c4
      obtain ⟨x, r, rfl⟩ : ∃ x r, rs = x :: r := by
        cases rs with
        | nil => exact absurd h2 (by simp)
        | cons x r => exact ⟨x, r, rfl⟩
      refine vx_go hC hFt hini (vx_ends hC hr hlk) jc_Rd_isEnded 7 (by decide) rfl ?_
      refine And.intro (rfl) (And.intro ?_ (And.intro (Nat.le_refl _) (Nat.le_refl _)))
      exact And.intro rfl rfl
    · skip
      have hle := sfx_le hs
      have h2 : ¬ (T.length - rs.length < T.length) := fun z => c4 ((nI_ltI (a := T.length - rs.length) (b := T.length) (by omega) (by omega)).mpr z)
      have hnil : rs = [] := List.eq_nil_of_length_eq_zero (by omega)
      subst hnil
      refine vx_go hC hFt hini (vx_ends hC hr hlk) jc_Rd_isEnded 8 (by decide) rfl ?_
      refine And.intro (rfl) (And.intro ?_ (And.intro (Nat.le_refl _) (Nat.le_refl _)))
      exact And.intro rfl rfl
set_option maxRecDepth 100000 in
set_option maxHeartbeats 4000000 in
theorem c_Rd_isNext (l : Launch) (D : va_G) (tys : List (ClassId × FieldType)) (tc : Nat → ClassId) (hty : ∀ i : Nat, i < 4 → tys[i]? = some (tc i, vx_ty i)) (ci : Nat) (hci : ci < 5) (h ra sa : Nat) (ex : List Value) (T rs : List Nat) (sd : Nat → Int32) (ss : Nat) (hT : isT T) (hs : rs <:+ T) (c : Nat) (hc : c < 256) : Kt l y_Rd_isNext (yw y_Rd_isNext b_Rd_isNext 2 (some .boolean)) 0 0 0 0 D cls tys (rdF ra T) [.ref h, .int (nI c)] (rdW tc ci h ra sa ex T rs sd ss) (fun r w => r = some (.int (bI (pk c rs).1)) ∧ w = (rdW tc ci h ra sa ex T rs sd ss)) := by
  refine Kt.of (rdF_ro _ _) (by decide) rfl hty (Nat.le_of_ble_eq_true rfl) ?_
  intro p e s m args below meth c0 A hC hr hlk hnm hF
  have hFt : vx_Ft y_Rd_isNext.cls (yw y_Rd_isNext b_Rd_isNext 2 (some .boolean)) cls cty ft_Rd := ft_of (fun w h => List.mem_cons_of_mem _ h) fl_Rd_in ft_Rd_b
  have hini : false = true → meth.name = "<init>" := fun h => by cases h
  have hF0 := hF
  obtain ⟨N, f, hrow, hN, hf⟩ := hF
  have hTl := hT.1
  rcases (show ci = 0 ∨ ci = 1 ∨ ci = 2 ∨ ci = 3 ∨ ci = 4 by omega) with rfl | rfl | rfl | rfl | rfl
  all_goals
    refine vx_go hC hFt hini (vx_ends hC hr hlk) jc_Rd_isNext 0 (by decide) rfl ?_
    refine And.intro rfl ?_
    refine And.intro rfl ?_
    refine And.intro (fun c4 => ?_) (fun c4 => ?_)
    · skip
      have hle := sfx_le hs
      have hnil : rs = [] := by
        have h2 := (nI_leI (a := T.length) (b := T.length - rs.length) (by omega) (by omega)).mp c4
        exact List.eq_nil_of_length_eq_zero (by omega)
      subst hnil
      refine vx_go hC hFt hini (vx_ends hC hr hlk) jc_Rd_isNext 14 (by decide) rfl ?_
      refine And.intro (rfl) (And.intro ?_ (And.intro (Nat.le_refl _) (Nat.le_refl _)))
      refine And.intro ?_ rfl
      first | rfl | simp [pk, bI, *]
    · skip
      have hle := sfx_le hs
      obtain ⟨x, r, hrs⟩ : ∃ x r, rs = x :: r := by
        cases hrs : rs with
        | nil => subst hrs; exact absurd ((nI_leI (a := T.length) (b := T.length - 0) (by omega) (by omega)).mpr (by omega)) c4
        | cons x r => exact ⟨x, r, rfl⟩
      obtain ⟨g1, g2, g3, g4, g5⟩ := sfx_at hs hrs
      have g6 := hT.2 x g5
      subst hrs
      refine And.intro rfl ?_
      refine And.intro rfl ?_
      refine ⟨N, f, hrow, vp_in_nI (by omega) hN.2, ?_⟩
      rw [nI_clamp (by omega), hf _ g1, g2]
      refine And.intro (fun c11 => ?_) (fun c11 => ?_)
      · skip
        have c11 : ¬ x = c := fun z => c11 (by rw [z])
        refine vx_go hC hFt hini (vx_ends hC hr hlk) jc_Rd_isNext 14 (by decide) rfl ?_
        refine And.intro (rfl) (And.intro ?_ (And.intro (Nat.le_refl _) (Nat.le_refl _)))
        refine And.intro ?_ rfl
        first | rfl | simp [pk, bI, *]
      · skip
        have c11 := (nI_eq (a := x) (b := c) (by omega) (by omega)).mp c11
        refine vx_go hC hFt hini (vx_ends hC hr hlk) jc_Rd_isNext 15 (by decide) rfl ?_
        refine And.intro (rfl) (And.intro ?_ (And.intro (Nat.le_refl _) (Nat.le_refl _)))
        refine And.intro ?_ rfl
        first | rfl | simp [pk, bI, *]
set_option maxRecDepth 100000 in
set_option maxHeartbeats 4000000 in
theorem c_Rd_saidSize (l : Launch) (D : va_G) (tys : List (ClassId × FieldType)) (tc : Nat → ClassId) (hty : ∀ i : Nat, i < 4 → tys[i]? = some (tc i, vx_ty i)) (ci : Nat) (hci : ci < 5) (h ra sa : Nat) (ex : List Value) (T rs : List Nat) (sd : Nat → Int32) (ss : Nat) (hT : isT T) (hs : rs <:+ T) : Kt l y_Rd_saidSize (yw y_Rd_saidSize b_Rd_saidSize 1 (some .int)) 0 0 0 0 D cls tys (rdF ra T) [.ref h] (rdW tc ci h ra sa ex T rs sd ss) (fun r w => r = some (.int (nI ss)) ∧ w = (rdW tc ci h ra sa ex T rs sd ss)) := by
  refine Kt.of (rdF_ro _ _) (by decide) rfl hty (Nat.le_of_ble_eq_true rfl) ?_
  intro p e s m args below meth c0 A hC hr hlk hnm hF
  have hFt : vx_Ft y_Rd_saidSize.cls (yw y_Rd_saidSize b_Rd_saidSize 1 (some .int)) cls cty ft_Rd := ft_of (fun w h => List.mem_cons_of_mem _ h) fl_Rd_in ft_Rd_b
  have hini : false = true → meth.name = "<init>" := fun h => by cases h
  have hF0 := hF
  obtain ⟨N, f, hrow, hN, hf⟩ := hF
  have hTl := hT.1
  rcases (show ci = 0 ∨ ci = 1 ∨ ci = 2 ∨ ci = 3 ∨ ci = 4 by omega) with rfl | rfl | rfl | rfl | rfl
  all_goals
    refine vx_go hC hFt hini (vx_ends hC hr hlk) jc_Rd_saidSize 0 (by decide) rfl ?_
    refine And.intro rfl ?_
    refine And.intro (trivial) (And.intro ?_ (And.intro (Nat.le_refl _) (Nat.le_refl _)))
    exact And.intro rfl rfl
/-- gaps -/
def isGp (x : Nat) : Bool := decide (x = 32 ∨ x = 9)
def gp (rs : List Nat) : List Nat := rs.dropWhile isGp
/-- gaps and commas -/
def isGc (x : Nat) : Bool := decide (x = 32 ∨ x = 9 ∨ x = 44)
def gc (rs : List Nat) : List Nat := rs.dropWhile isGc
theorem dw_sfx {q : Nat → Bool} {rs T : List Nat} (h : rs <:+ T) : rs.dropWhile q <:+ T := (List.dropWhile_suffix q).trans h
theorem dw_t {q : Nat → Bool} {x : Nat} {r : List Nat} (h : q x = true) : (x :: r).dropWhile q = r.dropWhile q := by simp [List.dropWhile, h]
theorem dw_f {q : Nat → Bool} {x : Nat} {r : List Nat} (h : q x = false) : (x :: r).dropWhile q = x :: r := by simp [List.dropWhile, h]
theorem rd_step {tc : Nat → ClassId} {ci h ra sa : Nat} {ex : List Value} {T r : List Nat} {x : Nat} {sd : Nat → Int32} {ss : Nat} (g4 : T.length - (x :: r).length + 1 = T.length - r.length) : [((h, .inr (ci, .ref ra :: .int (nI T.length) :: .int (nI (T.length - (x :: r).length) + 1) :: .ref sa :: .int (nI ss) :: ex)) : Nat × va_E), (sa, .inl (tc 0, 96, .inl sd))] = rdW tc ci h ra sa ex T r sd ss := by
  rw [nI_1, g4]; rfl
set_option maxRecDepth 100000 in
set_option maxHeartbeats 4000000 in
theorem c_Rd_skipGap (l : Launch) (D : va_G) (tys : List (ClassId × FieldType)) (tc : Nat → ClassId) (hty : ∀ i : Nat, i < 4 → tys[i]? = some (tc i, vx_ty i)) (ci : Nat) (hci : ci < 5) (h ra sa : Nat) (ex : List Value) (T rs : List Nat) (sd : Nat → Int32) (ss : Nat) (hT : isT T) (hs : rs <:+ T) : Kt l y_Rd_skipGap (yw y_Rd_skipGap b_Rd_skipGap 1 none) 0 0 0 0 D cls tys (rdF ra T) [.ref h] (rdW tc ci h ra sa ex T rs sd ss) (fun r w => r = none ∧ w = rdW tc ci h ra sa ex T (gp rs) sd ss) := by
  refine Kt.of (rdF_ro _ _) (by decide) rfl hty (Nat.le_of_ble_eq_true rfl) ?_
  intro p e s m args below meth c0 A hC hr hlk hnm hF
  have hFt : vx_Ft y_Rd_skipGap.cls (yw y_Rd_skipGap b_Rd_skipGap 1 none) cls cty ft_Rd := ft_of (fun w h => List.mem_cons_of_mem _ h) fl_Rd_in ft_Rd_b
  have hini : false = true → meth.name = "<init>" := fun h => by cases h
  have hF0 := hF
  obtain ⟨N, f, hrow, hN, hf⟩ := hF
  have hTl := hT.1
  rcases (show ci = 0 ∨ ci = 1 ∨ ci = 2 ∨ ci = 3 ∨ ci = 4 by omega) with rfl | rfl | rfl | rfl | rfl
  all_goals
    generalize hG : gp rs = G
    induction hlen : rs.length using Nat.strongRecOn generalizing rs with
    | _ n ih =>
      refine vx_go hC hFt hini (vx_ends hC hr hlk) jc_Rd_skipGap 0 (by decide) rfl ?_
      refine And.intro rfl ?_
      refine And.intro rfl ?_
      refine And.intro (fun c4 => ?_) (fun c4 => ?_)
      · skip
        have hle := sfx_le hs
        have hnil : rs = [] := by
          have h2 := (nI_leI (a := T.length) (b := T.length - rs.length) (by omega) (by omega)).mp c4
          exact List.eq_nil_of_length_eq_zero (by omega)
        subst hnil
        refine vx_go hC hFt hini (vx_ends hC hr hlk) jc_Rd_skipGap 26 (by decide) rfl ?_
        refine And.intro (trivial) (And.intro ?_ (And.intro (Nat.le_refl _) (Nat.le_refl _)))
        refine And.intro rfl ?_
        rw [← hG]
        first | rfl | (simp only [gp]; rw [dw_f (by simp only [isGp, decide_eq_false_iff_not]; omega)])
      · skip
        have hle := sfx_le hs
        obtain ⟨x, r, hrs⟩ : ∃ x r, rs = x :: r := by
          cases hrs : rs with
          | nil => subst hrs; exact absurd ((nI_leI (a := T.length) (b := T.length - 0) (by omega) (by omega)).mpr (by omega)) c4
          | cons x r => exact ⟨x, r, rfl⟩
        obtain ⟨g1, g2, g3, g4, g5⟩ := sfx_at hs hrs
        have g6 := hT.2 x g5
        subst hrs
        refine And.intro rfl ?_
        refine And.intro rfl ?_
        refine ⟨N, f, hrow, vp_in_nI (by omega) hN.2, ?_⟩
        rw [nI_clamp (by omega), hf _ g1, g2]
        refine And.intro (fun c11 => ?_) (fun c11 => ?_)
        · skip
          have c11 := (nI_eq (a := x) (b := 32) (by omega) (by omega)).mp c11
          refine vx_go hC hFt hini (vx_ends hC hr hlk) jc_Rd_skipGap 19 (by decide) rfl ?_
          refine And.intro rfl ?_
          refine And.intro rfl ?_
          refine And.intro rfl (And.intro (And.intro rfl rfl) ?_)
          refine Vx.eqs rfl rfl rfl (rd_step g4) (ih r.length (by simp at hlen; omega) r g3 ?_ rfl)
          first | (rw [← hG]; simp only [gp]; rw [dw_t]; simp only [isGp, decide_eq_true_eq]; omega)
        · skip
          have c11 : ¬ (x = 32) := fun z => c11 ((nI_eq (a := x) (b := 32) (by omega) (by omega)).mpr z)
          refine And.intro rfl ?_
          refine And.intro rfl ?_
          refine ⟨N, f, hrow, vp_in_nI (by omega) hN.2, ?_⟩
          rw [nI_clamp (by omega), hf _ g1, g2]
          refine And.intro (fun c18 => ?_) (fun c18 => ?_)
          · skip
            have c18 : ¬ (x = 9) := fun z => c18 ((nI_eq (a := x) (b := 9) (by omega) (by omega)).mpr z)
            refine vx_go hC hFt hini (vx_ends hC hr hlk) jc_Rd_skipGap 26 (by decide) rfl ?_
            refine And.intro (trivial) (And.intro ?_ (And.intro (Nat.le_refl _) (Nat.le_refl _)))
            refine And.intro rfl ?_
            rw [← hG]
            first | rfl | (simp only [gp]; rw [dw_f (by simp only [isGp, decide_eq_false_iff_not]; omega)])
          · skip
            have c18 := (nI_eq (a := x) (b := 9) (by omega) (by omega)).mp c18
            refine And.intro rfl ?_
            refine And.intro rfl ?_
            refine And.intro rfl (And.intro (And.intro rfl rfl) ?_)
            refine Vx.eqs rfl rfl rfl (rd_step g4) (ih r.length (by simp at hlen; omega) r g3 ?_ rfl)
            first | (rw [← hG]; simp only [gp]; rw [dw_t]; simp only [isGp, decide_eq_true_eq]; omega)
set_option maxRecDepth 100000 in
set_option maxHeartbeats 4000000 in
theorem c_Rd_findElement (l : Launch) (D : va_G) (tys : List (ClassId × FieldType)) (tc : Nat → ClassId) (hty : ∀ i : Nat, i < 4 → tys[i]? = some (tc i, vx_ty i)) (ci : Nat) (hci : ci < 5) (h ra sa : Nat) (ex : List Value) (T rs : List Nat) (sd : Nat → Int32) (ss : Nat) (hT : isT T) (hs : rs <:+ T) : Kt l y_Rd_findElement (yw y_Rd_findElement b_Rd_findElement 1 (some .boolean)) 0 0 0 0 D cls tys (rdF ra T) [.ref h] (rdW tc ci h ra sa ex T rs sd ss) (fun r w => r = some (.int (bI !(gc rs).isEmpty)) ∧ w = rdW tc ci h ra sa ex T (gc rs) sd ss) := by
  refine Kt.of (rdF_ro _ _) (by decide) rfl hty (Nat.le_of_ble_eq_true rfl) ?_
  intro p e s m args below meth c0 A hC hr hlk hnm hF
  have hFt : vx_Ft y_Rd_findElement.cls (yw y_Rd_findElement b_Rd_findElement 1 (some .boolean)) cls cty ft_Rd := ft_of (fun w h => List.mem_cons_of_mem _ h) fl_Rd_in ft_Rd_b
  have hini : false = true → meth.name = "<init>" := fun h => by cases h
  have hF0 := hF
  obtain ⟨N, f, hrow, hN, hf⟩ := hF
  have hTl := hT.1
  rcases (show ci = 0 ∨ ci = 1 ∨ ci = 2 ∨ ci = 3 ∨ ci = 4 by omega) with rfl | rfl | rfl | rfl | rfl
  all_goals
    generalize hG : gc rs = G
    induction hlen : rs.length using Nat.strongRecOn generalizing rs with
    | _ n ih =>
      refine vx_go hC hFt hini (vx_ends hC hr hlk) jc_Rd_findElement 0 (by decide) rfl ?_
      refine And.intro rfl ?_
      refine And.intro rfl ?_
      refine And.intro (fun c4 => ?_) (fun c4 => ?_)
      · skip
        have hle := sfx_le hs
        have hnil : rs = [] := by
          have h2 := (nI_leI (a := T.length) (b := T.length - rs.length) (by omega) (by omega)).mp c4
          exact List.eq_nil_of_length_eq_zero (by omega)
        subst hnil
        refine vx_go hC hFt hini (vx_ends hC hr hlk) jc_Rd_findElement 33 (by decide) rfl ?_
        refine And.intro rfl ?_
        refine And.intro rfl ?_
        refine And.intro (fun c37 => ?_) (fun c37 => ?_)
        · skip
          refine vx_go hC hFt hini (vx_ends hC hr hlk) jc_Rd_findElement 40 (by decide) rfl ?_
          refine And.intro (rfl) (And.intro ?_ (And.intro (Nat.le_refl _) (Nat.le_refl _)))
          rw [← hG]
          first | exact And.intro rfl rfl | (simp only [gc]; rw [dw_f (by simp only [isGc, decide_eq_false_iff_not]; omega)]; exact And.intro rfl rfl)
        · skip
          exact absurd c4 c37
      · skip
        have hle := sfx_le hs
        obtain ⟨x, r, hrs⟩ : ∃ x r, rs = x :: r := by
          cases hrs : rs with
          | nil => subst hrs; exact absurd ((nI_leI (a := T.length) (b := T.length - 0) (by omega) (by omega)).mpr (by omega)) c4
          | cons x r => exact ⟨x, r, rfl⟩
        obtain ⟨g1, g2, g3, g4, g5⟩ := sfx_at hs hrs
        have g6 := hT.2 x g5
        subst hrs
        refine And.intro rfl ?_
        refine And.intro rfl ?_
        refine ⟨N, f, hrow, vp_in_nI (by omega) hN.2, ?_⟩
        rw [nI_clamp (by omega), hf _ g1, g2]
        refine And.intro (fun c11 => ?_) (fun c11 => ?_)
        · skip
          have c11 := (nI_eq (a := x) (b := 32) (by omega) (by omega)).mp c11
          refine vx_go hC hFt hini (vx_ends hC hr hlk) jc_Rd_findElement 26 (by decide) rfl ?_
          refine And.intro rfl ?_
          refine And.intro rfl ?_
          refine And.intro rfl (And.intro (And.intro rfl rfl) ?_)
          refine Vx.eqs rfl rfl rfl (rd_step g4) (ih r.length (by simp at hlen; omega) r g3 ?_ rfl)
          first | (rw [← hG]; simp only [gc]; rw [dw_t]; simp only [isGc, decide_eq_true_eq]; omega)
        · skip
          have c11 : ¬ (x = 32) := fun z => c11 ((nI_eq (a := x) (b := 32) (by omega) (by omega)).mpr z)
          refine And.intro rfl ?_
          refine And.intro rfl ?_
          refine ⟨N, f, hrow, vp_in_nI (by omega) hN.2, ?_⟩
          rw [nI_clamp (by omega), hf _ g1, g2]
          refine And.intro (fun c18 => ?_) (fun c18 => ?_)
          · skip
            have c18 := (nI_eq (a := x) (b := 9) (by omega) (by omega)).mp c18
            refine vx_go hC hFt hini (vx_ends hC hr hlk) jc_Rd_findElement 26 (by decide) rfl ?_
            refine And.intro rfl ?_
            refine And.intro rfl ?_
            refine And.intro rfl (And.intro (And.intro rfl rfl) ?_)
            refine Vx.eqs rfl rfl rfl (rd_step g4) (ih r.length (by simp at hlen; omega) r g3 ?_ rfl)
            first | (rw [← hG]; simp only [gc]; rw [dw_t]; simp only [isGc, decide_eq_true_eq]; omega)
          · skip
            have c18 : ¬ (x = 9) := fun z => c18 ((nI_eq (a := x) (b := 9) (by omega) (by omega)).mpr z)
            refine And.intro rfl ?_
            refine And.intro rfl ?_
            refine ⟨N, f, hrow, vp_in_nI (by omega) hN.2, ?_⟩
            rw [nI_clamp (by omega), hf _ g1, g2]
            refine And.intro (fun c25 => ?_) (fun c25 => ?_)
            · skip
              have c25 : ¬ (x = 44) := fun z => c25 ((nI_eq (a := x) (b := 44) (by omega) (by omega)).mpr z)
              refine vx_go hC hFt hini (vx_ends hC hr hlk) jc_Rd_findElement 33 (by decide) rfl ?_
              refine And.intro rfl ?_
              refine And.intro rfl ?_
              refine And.intro (fun c37 => ?_) (fun c37 => ?_)
              · skip
                exact absurd c37 (nI_ge g1 (by omega))
              · skip
                refine vx_go hC hFt hini (vx_ends hC hr hlk) jc_Rd_findElement 41 (by decide) rfl ?_
                refine And.intro (rfl) (And.intro ?_ (And.intro (Nat.le_refl _) (Nat.le_refl _)))
                rw [← hG]
                first | exact And.intro rfl rfl | (simp only [gc]; rw [dw_f (by simp only [isGc, decide_eq_false_iff_not]; omega)]; exact And.intro rfl rfl)
            · skip
              have c25 := (nI_eq (a := x) (b := 44) (by omega) (by omega)).mp c25
              refine And.intro rfl ?_
              refine And.intro rfl ?_
              refine And.intro rfl (And.intro (And.intro rfl rfl) ?_)
              refine Vx.eqs rfl rfl rfl (rd_step g4) (ih r.length (by simp at hlen; omega) r g3 ?_ rfl)
              first | (rw [← hG]; simp only [gc]; rw [dw_t]; simp only [isGc, decide_eq_true_eq]; omega)
