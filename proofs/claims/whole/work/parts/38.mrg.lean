/-! MEDIA RANGES: what they say, by program (wip/whole/gen/p38.py) -/
theorem wls_ge {u v : Nat} {rs : List Nat} : v ≤ (wls u v rs).1 := by
  induction rs generalizing u v with
  | nil => exact Nat.le_refl _
  | cons x r ih =>
    rw [wls]
    split
    · exact Nat.le_trans (Nat.le_add_right _ _) ih
    · exact Nat.le_refl _
theorem wls_le {u v : Nat} {rs : List Nat} : (wls u v rs).1 ≤ v + 10 * u := by
  induction rs generalizing u v with
  | nil => exact Nat.le_add_right _ _
  | cons x r ih =>
    rw [wls]
    split
    · rename_i h
      have h1 := dg_in h.2
      refine Nat.le_trans ih ?_
      have h2 : u * (x - 48) ≤ u * 9 := Nat.mul_le_mul_left _ (by omega)
      omega
    · exact Nat.le_add_right _ _
theorem wlq_0 {v : Nat} {rs : List Nat} : wls 0 v rs = (v, rs) := by
  cases rs with
  | nil => rfl
  | cons x r => rw [wls, if_neg (by simp)]
theorem wlp_o {T : List Nat} {c n u v p : Nat} (hc : ¬ c = 49) (hu : u < 10 ^ n) : ∃ p2, wlp T c n u v p = some ((wls u v (T.drop p)).1, p2) ∧ T.drop p2 = (wls u v (T.drop p)).2 ∧ p ≤ p2 ∧ (p ≤ T.length → p2 ≤ T.length) := by
  induction n generalizing u v p with
  | zero =>
    obtain rfl : u = 0 := by simpa using hu
    rw [wlq_0]
    exact ⟨p, rfl, rfl, Nat.le_refl _, id⟩
  | succ n ih =>
    rw [wlp]
    by_cases h : 0 < u ∧ isDg (T.getD p 0) = true
    · have hin : p < T.length := T_in (by have := dg_in h.2; omega)
      rw [if_pos h, if_neg (fun z => hc z.1), drop_get hin, wls, if_pos h]
      obtain ⟨p2, h1, h2, h3, h4⟩ := ih (u := u / 10) (v := v + u * (T.getD p 0 - 48)) (p := p + 1) (by rw [Nat.pow_succ] at hu; omega)
      exact ⟨p2, h1, h2, by omega, fun _ => h4 hin⟩
    · rw [if_neg h]
      have e : wls u v (T.drop p) = (v, T.drop p) := by
        rcases Nat.lt_or_ge p T.length with h1 | h1
        · rw [drop_get h1, wls, if_neg h]
        · rw [drop_end h1]; rfl
      rw [e]
      exact ⟨p, rfl, rfl, Nat.le_refl _, id⟩
theorem wlp_1 {T : List Nat} {n u v p : Nat} (hu : u < 10 ^ n) : (∃ p2, wlp T 49 n u v p = some (v, p2) ∧ wls u v (T.drop p) = (v, T.drop p2) ∧ p ≤ p2 ∧ (p ≤ T.length → p2 ≤ T.length)) ∨ (wlp T 49 n u v p = none ∧ v < (wls u v (T.drop p)).1) := by
  induction n generalizing u v p with
  | zero =>
    obtain rfl : u = 0 := by simpa using hu
    rw [wlq_0]
    exact Or.inl ⟨p, rfl, rfl, Nat.le_refl _, id⟩
  | succ n ih =>
    rw [wlp]
    by_cases h : 0 < u ∧ isDg (T.getD p 0) = true
    · have hin : p < T.length := T_in (by have := dg_in h.2; omega)
      rw [if_pos h, drop_get hin, wls, if_pos h]
      by_cases h48 : 48 < T.getD p 0
      · rw [if_pos ⟨rfl, h48⟩]
        refine Or.inr ⟨rfl, Nat.lt_of_lt_of_le ?_ wls_ge⟩
        have := Nat.mul_le_mul (Nat.succ_le_of_lt h.1) (show 1 ≤ T.getD p 0 - 48 by omega)
        omega
      · rw [if_neg (fun z => h48 z.2), show T.getD p 0 - 48 = 0 by omega, Nat.mul_zero, Nat.add_zero]
        rcases ih (u := u / 10) (v := v) (p := p + 1) (by rw [Nat.pow_succ] at hu; omega) with ⟨p2, h1, h2, h3, h4⟩ | h1
        · exact Or.inl ⟨p2, h1, h2, by omega, fun _ => h4 hin⟩
        · exact Or.inr h1
    · rw [if_neg h]
      have e : wls u v (T.drop p) = (v, T.drop p) := by
        rcases Nat.lt_or_ge p T.length with h1 | h1
        · rw [drop_get h1, wls, if_neg h]
        · rw [drop_end h1]; rfl
      rw [e]
      exact Or.inl ⟨p, rfl, rfl, Nat.le_refl _, id⟩
/-- the reference's weight is the reader's -/
theorem wt_some {T : List Nat} {ps : Nat} {q : Nat × Nat} (h : T.getD ps 0 = 61) (hq : wgt T (ps + 1) = some q) : wt (T.drop ps) = (some q.1, T.drop q.2) ∧ q.1 ≤ 1000 ∧ q.2 ≤ T.length ∧ ps < q.2 := by
  rw [wt, pk_at (by decide), if_pos h]
  show (match pk 49 (T.drop (ps + 1)) with
    | (true, r) => wt2 1000 r
    | (false, r) => match pk 48 r with
      | (false, r) => (none, r)
      | (true, r) => wt2 0 r) = _ ∧ _
  rw [wgt] at hq
  have hd : T.getD (ps + 1) 0 = 48 ∨ T.getD (ps + 1) 0 = 49 := by
    rcases Decidable.em (T.getD (ps + 1) 0 = 48 ∨ T.getD (ps + 1) 0 = 49) with z | z
    · exact z
    · rw [if_neg z] at hq; cases hq
  rw [if_pos hd] at hq
  have hin : ps + 1 < T.length := T_in (by omega)
  rw [pk_at (by decide)]
  rcases hd with hd | hd
  · rw [if_neg (by omega)]
    show (match pk 48 (T.drop (ps + 1)) with
      | (false, r) => (none, r)
      | (true, r) => wt2 0 r) = _ ∧ _
    rw [pk_at (by decide), if_pos hd]
    show wt2 0 (T.drop (ps + 2)) = _ ∧ _
    rw [wt2, pk_at (by decide)]
    by_cases h46 : T.getD (ps + 2) 0 = 46
    · rw [if_pos h46]
      rw [if_pos h46, hd] at hq
      have hin2 : ps + 2 < T.length := T_in (by omega)
      obtain ⟨p2, h1, h2, h3, h4⟩ := wlp_o (T := T) (c := 48) (n := 4) (u := 100) (v := 1000 * (48 - 48)) (p := ps + 1 + 2) (by decide) (by decide)
      rw [h1] at hq
      obtain rfl := Option.some.inj hq
      have h5 := wls_le (u := 100) (v := 0) (rs := T.drop (ps + 3))
      exact ⟨by show (if 1000 < (wls 100 0 (T.drop (ps + 3))).1 then none else some (wls 100 0 (T.drop (ps + 3))).1, (wls 100 0 (T.drop (ps + 3))).2) = _; rw [if_neg (by omega)]; exact congrArg _ h2.symm, by omega, h4 (by omega), by show ps < p2; omega⟩
    · rw [if_neg h46]
      rw [if_neg h46, hd] at hq
      obtain rfl := Option.some.inj hq
      exact ⟨rfl, Nat.le_of_ble_eq_true rfl, hin, by show ps < ps + 1 + 1; omega⟩
  · rw [if_pos hd]
    show wt2 1000 (T.drop (ps + 2)) = _ ∧ _
    rw [wt2, pk_at (by decide)]
    by_cases h46 : T.getD (ps + 2) 0 = 46
    · rw [if_pos h46]
      rw [if_pos h46, hd] at hq
      have hin2 : ps + 2 < T.length := T_in (by omega)
      rcases wlp_1 (T := T) (n := 4) (u := 100) (v := 1000 * (49 - 48)) (p := ps + 1 + 2) (by decide) with ⟨p2, h1, h2, h3, h4⟩ | ⟨h1, h2⟩
      · rw [h1] at hq
        obtain rfl := Option.some.inj hq
        exact ⟨by show (if 1000 < (wls 100 1000 (T.drop (ps + 3))).1 then none else some (wls 100 1000 (T.drop (ps + 3))).1, (wls 100 1000 (T.drop (ps + 3))).2) = _; rw [show wls 100 1000 (T.drop (ps + 3)) = (1000, T.drop p2) from h2, if_neg (Nat.lt_irrefl 1000)], Nat.le_of_ble_eq_true rfl, h4 (by omega), by show ps < p2; omega⟩
      · rw [h1] at hq; cases hq
    · rw [if_neg h46]
      rw [if_neg h46, hd] at hq
      obtain rfl := Option.some.inj hq
      exact ⟨rfl, Nat.le_of_ble_eq_true rfl, hin, by show ps < ps + 1 + 1; omega⟩
theorem wt_none {T : List Nat} {ps : Nat} (h : T.getD ps 0 = 61) (hq : wgt T (ps + 1) = none) : (wt (T.drop ps)).1 = none := by
  rw [wt, pk_at (by decide), if_pos h]
  show (match pk 49 (T.drop (ps + 1)) with
    | (true, r) => wt2 1000 r
    | (false, r) => match pk 48 r with
      | (false, r) => (none, r)
      | (true, r) => wt2 0 r).1 = _
  rw [wgt] at hq
  rw [pk_at (by decide)]
  by_cases h49 : T.getD (ps + 1) 0 = 49
  · rw [if_pos h49]
    rw [if_pos (Or.inr h49)] at hq
    show (wt2 1000 (T.drop (ps + 2))).1 = _
    rw [wt2, pk_at (by decide)]
    by_cases h46 : T.getD (ps + 2) 0 = 46
    · rw [if_pos h46]
      rw [if_pos h46, h49] at hq
      rcases wlp_1 (T := T) (n := 4) (u := 100) (v := 1000 * (49 - 48)) (p := ps + 1 + 2) (by decide) with ⟨p2, h1, h2, h3, h4⟩ | ⟨h1, h2⟩
      · rw [h1] at hq; cases hq
      · show (if 1000 < (wls 100 1000 (T.drop (ps + 3))).1 then none else some (wls 100 1000 (T.drop (ps + 3))).1) = _
        rw [if_pos h2]
    · rw [if_neg h46] at hq; cases hq
  · rw [if_neg h49]
    show (match pk 48 (T.drop (ps + 1)) with
      | (false, r) => (none, r)
      | (true, r) => wt2 0 r).1 = _
    rw [pk_at (by decide)]
    by_cases h48 : T.getD (ps + 1) 0 = 48
    · rw [if_pos (Or.inl h48)] at hq
      by_cases h46 : T.getD (ps + 2) 0 = 46
      · rw [if_pos h46, h48] at hq
        obtain ⟨p2, h1, h2, h3, h4⟩ := wlp_o (T := T) (c := 48) (n := 4) (u := 100) (v := 1000 * (48 - 48)) (p := ps + 1 + 2) (by decide) (by decide)
        rw [h1] at hq; cases hq
      · rw [if_neg h46] at hq; cases hq
    · rw [if_neg h48]
theorem wt_no {T : List Nat} {ps : Nat} (h : ¬ T.getD ps 0 = 61) : (wt (T.drop ps)).1 = none := by
  rw [wt, pk_at (by decide), if_neg h]
/-- what stands behind a semicolon -/
def bsc (rs : List Nat) : List Nat := gp (pk 59 (gp rs)).2
/-- the parameters of a media range: whether it still fits, how much it tells, its weight, what is left behind a gap -/
def prm (P V : List Nat) : Nat → Bool → Nat → List Nat → Option (Bool × Nat × Nat × List Nat)
  | 0, _, _, _ => none
  | n + 1, fits, told, rs =>
    if (pk 59 (gp rs)).1 = true then
      (if (bsc rs).takeWhile isTk = [] then none
       else if alikeL ((bsc rs).takeWhile isTk) [113] = true then
         (match (wt ((bsc rs).dropWhile isTk)).1 with
           | some w => some (fits, told, w, gp (wt ((bsc rs).dropWhile isTk)).2)
           | none => none)
       else if (asg ((bsc rs).dropWhile isTk)).1 = true then prm P V n (fits && (alikeL ((bsc rs).takeWhile isTk) P && sameL (asg ((bsc rs).dropWhile isTk)).2.2 V)) (told + 1) (asg ((bsc rs).dropWhile isTk)).2.1
       else none)
    else some (fits, told, 1000, gp rs)
/-- a media range -/
def mrg (M S P V rs : List Nat) : Option (Bool × Nat × Nat × List Nat) :=
  if rs.takeWhile isTk = [] ∨ (pk 47 (rs.dropWhile isTk)).1 = false ∨ (pk 47 (rs.dropWhile isTk)).2.takeWhile isTk = [] ∨ (rs.takeWhile isTk ≠ [42] ∧ ss_star (rs.takeWhile isTk) = true) ∨ ((pk 47 (rs.dropWhile isTk)).2.takeWhile isTk ≠ [42] ∧ (rs.takeWhile isTk = [42] ∨ ss_star ((pk 47 (rs.dropWhile isTk)).2.takeWhile isTk) = true)) then none
  else prm P V 97 ((decide (rs.takeWhile isTk = [42]) || alikeL (rs.takeWhile isTk) M) && (decide ((pk 47 (rs.dropWhile isTk)).2.takeWhile isTk = [42]) || alikeL ((pk 47 (rs.dropWhile isTk)).2.takeWhile isTk) S)) ((if rs.takeWhile isTk = [42] then 0 else 1) + (if (pk 47 (rs.dropWhile isTk)).2.takeWhile isTk = [42] then 0 else 1)) ((pk 47 (rs.dropWhile isTk)).2.dropWhile isTk)
theorem gp_at {T : List Nat} {ps : Nat} : gp (T.drop ps) = T.drop (pz T ps isGp) := pz_dw.symm
theorem gc_at {T : List Nat} {ps : Nat} : gc (T.drop ps) = T.drop (pz T ps isGc) := pz_dw.symm
theorem sl_ne {T : List Nat} {a b : Nat} (hb : b ≤ T.length) : sl T a b = [] ↔ ¬ a < b := by
  rw [← List.length_eq_zero_iff, sl_len hb]; omega
section
variable {T P V : List Nat} {pp n told : Nat} {fits : Bool}
theorem bsc_at (h : T.getD (pz T pp isGp) 0 = 59) : bsc (T.drop pp) = T.drop (pz T (pz T pp isGp + 1) isGp) := by
  rw [bsc, gp_at, pk_at (by decide), if_pos h, gp_at]
theorem prm_end (h : ¬ T.getD (pz T pp isGp) 0 = 59) : prm P V (n + 1) fits told (T.drop pp) = some (fits, told, 1000, gp (T.drop pp)) := by
  rw [prm, gp_at, pk_at (by decide), if_neg h, if_neg (fun z => by cases z)]
theorem prm_on (h : T.getD (pz T pp isGp) 0 = 59) : prm P V (n + 1) fits told (T.drop pp) =
      (if (bsc (T.drop pp)).takeWhile isTk = [] then none
       else if alikeL ((bsc (T.drop pp)).takeWhile isTk) [113] = true then
         (match (wt ((bsc (T.drop pp)).dropWhile isTk)).1 with
           | some w => some (fits, told, w, gp (wt ((bsc (T.drop pp)).dropWhile isTk)).2)
           | none => none)
       else if (asg ((bsc (T.drop pp)).dropWhile isTk)).1 = true then prm P V n (fits && (alikeL ((bsc (T.drop pp)).takeWhile isTk) P && sameL (asg ((bsc (T.drop pp)).dropWhile isTk)).2.2 V)) (told + 1) (asg ((bsc (T.drop pp)).dropWhile isTk)).2.1
       else none) := by
  rw [prm, gp_at, pk_at (by decide), if_pos h, if_pos rfl]
theorem prm_nil (h : T.getD (pz T pp isGp) 0 = 59) {q b : Nat} (hq : pz T (pz T pp isGp + 1) isGp = q) (hb : pz T q isTk = b) (hbl : b ≤ T.length) (hn : ¬ q < b) : prm P V (n + 1) fits told (T.drop pp) = none := by
  rw [prm_on h, bsc_at h, hq, sl_tw, hb, if_pos ((sl_ne hbl).mpr hn)]
theorem prm_q (h : T.getD (pz T pp isGp) 0 = 59) {q b : Nat} (hq : pz T (pz T pp isGp + 1) isGp = q) (hb : pz T q isTk = b) (hbl : b ≤ T.length) (hn : q < b) (ha : alikeL (sl T q b) [113] = true) : prm P V (n + 1) fits told (T.drop pp) = match (wt (T.drop b)).1 with
    | some w => some (fits, told, w, gp (wt (T.drop b)).2)
    | none => none := by
  rw [prm_on h, bsc_at h, hq, sl_tw, ← pz_dw, hb, if_neg (fun z => (sl_ne hbl).mp z hn), if_pos ha]
theorem prm_as (h : T.getD (pz T pp isGp) 0 = 59) {q b : Nat} (hq : pz T (pz T pp isGp + 1) isGp = q) (hb : pz T q isTk = b) (hbl : b ≤ T.length) (hn : q < b) (ha : alikeL (sl T q b) [113] = false) : prm P V (n + 1) fits told (T.drop pp) = if (asg (T.drop b)).1 = true then prm P V n (fits && (alikeL (sl T q b) P && sameL (asg (T.drop b)).2.2 V)) (told + 1) (asg (T.drop b)).2.1 else none := by
  rw [prm_on h, bsc_at h, hq, sl_tw, ← pz_dw, hb, if_neg (fun z => (sl_ne hbl).mp z hn), if_neg (by rw [ha]; decide)]
end
theorem sl_oneL {T : List Nat} {a b c : Nat} (h : b ≤ T.length) (hc : lwr c = c) : alikeL (sl T a b) [c] = decide (b - a = 1 ∧ lwr (T.getD a 0) = c) := by
  unfold alikeL
  rw [List.map_cons, List.map_nil, hc]
  congr 1
  apply propext
  constructor
  · intro e
    have h1 := congrArg List.length e
    rw [List.length_map, sl_len h] at h1
    have h1 : b - a = 1 := h1
    rw [sl_cons (by omega) h, List.map_cons] at e
    exact ⟨h1, (List.cons.inj e).1⟩
  · intro ⟨e1, e2⟩
    rw [sl_cons (by omega) h, show b = a + 1 by omega, sl_nil, List.map_cons, e2]; rfl
theorem wgP.fq {tc : Nat → ClassId} {h : Nat} {ar : Nat → Nat} {now : Int64} {sc : Nat → Int32} {ai : Nat → Nat → Int32} {al : Nat → Nat → Int64} {v : Option (Nat × Nat)} {r : Option Value} {w : va_W} (hp : wgP tc h ar now sc ai al v r w) : r = some (.int (bI v.isSome)) ∧ ∃ s2, w = mdW tc h ar now s2 ai al ∧ gq sc s2 ∧ s2 11 = sc 11 ∧ ∀ q, v = some q → s2 12 = nI q.2 ∧ s2 16 = nI q.1 := by
  unfold wgP at hp
  cases v with
  | none =>
    obtain ⟨h1, a, b, h2⟩ := hp
    exact ⟨h1, _, h2, (gq.refl.upd (by decide)).upd (by decide), rfl, fun q z => by cases z⟩
  | some q =>
    obtain ⟨h1, h2⟩ := hp
    exact ⟨h1, _, h2, (gq.refl.upd (by decide)).upd (by decide), rfl, fun q z => by cases z; exact ⟨rfl, rfl⟩⟩
