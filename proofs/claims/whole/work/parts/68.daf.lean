/-! THE CLASS: Dates, its forms, by program (wip/whole/gen/p68.py) -/
abbrev Dt : Type := (Nat × Nat × Nat × Nat) × List Nat
def fS (r : List Nat) : Option Dt := sn (nmO monL r) fun k r => sb (pk 32 r) fun r => sn (pday r) fun d r => sb (pk 32 r) fun r => sn (clk r) fun t r => sb (pk 32 r) fun r => sn (dgO 4 r) fun y r => some ((y, k, d, t), r)
def fT (y k d : Nat) (r : List Nat) : Option Dt := sb (pk 32 r) fun r => sn (clk r) fun t r => sb (tt gmtL r) fun r => some ((y, k, d, t), r)
def fC (r : List Nat) : Option Dt := sb (pk 32 r) fun r => sn (dgO 2 r) fun d r => sb (pk 32 r) fun r => sn (nmO monL r) fun k r => sb (pk 32 r) fun r => sn (dgO 4 r) fun y r => fT y k d r
def fD (ly : Nat) (r : List Nat) : Option Dt := sb (tt [44, 32] r) fun r => sn (dgO 2 r) fun d r => sb (pk 45 r) fun r => sn (nmO monL r) fun k r => sb (pk 45 r) fun r => sn (dgO 2 r) fun v r => fT (shy ly v) k d r
def fin (v : Option Dt) : Option (Nat × List Nat) := match v with
  | none => none
  | some u => (cal u.1.1 u.1.2.1 u.1.2.2.1 u.1.2.2.2).map (fun t => (t, u.2))
theorem fin_n {v : Option (Nat × List Nat)} {f : Nat → List Nat → Option Dt} : fin (sn v f) = sn v (fun z r => fin (f z r)) := by cases v <;> rfl
theorem fin_b {v : Bool × List Nat} {f : List Nat → Option Dt} : fin (sb v f) = sb v (fun r => fin (f r)) := by unfold sb; split <;> rfl
theorem dA0_f {r : List Nat} : dA0 r = fin (fS r) := by
  unfold dA0 dA1 dA2 dA3 dA4 dA5 dA6 fS
  simp only [fin_n, fin_b]
  rfl
theorem dE7_f {y k d : Nat} {r : List Nat} : dE7 (some (k + 1)) (some d) (some y) r = fin (fT y k d r) := by
  unfold dE7 dE8 dE9 fT
  simp only [fin_n, fin_b]
  rfl
theorem dE1_f {ly : Nat} {r : List Nat} : dE1 ly false r = sb (pk 44 r) (fun r => fin (fC r)) := by
  unfold dE1 dE2 dE3 dE4 dE5 dE6 fC
  simp only [fin_n, fin_b, ← dE7_f]
  rfl
theorem fT_lo {y k d : Nat} {r : List Nat} (h : ¬ 1970 ≤ y) : fin (fT y k d r) = none := by
  unfold fT
  simp only [fin_n, fin_b]
  refine sb_e (fun _ => sn_e (fun t _ => sb_e (fun r2 => ?_)))
  show (cal y k d t).map _ = none
  rw [cal, if_neg (fun z => h z.1)]; rfl
theorem tt_cs {r : List Nat} {α : Type} {f : List Nat → Option α} : sb (tt [44, 32] r) f = sb (pk 44 r) (fun r => sb (pk 32 r) f) := by
  have e : tt [44, 32] r = if (pk 44 r).1 = true then ((pk 32 (pk 44 r).2).1, (pk 32 (pk 44 r).2).2) else (false, (pk 44 r).2) := by
    rw [tt]
    rcases hq : pk 44 r with ⟨a, b⟩
    cases a with
    | false => rfl
    | true =>
      show tt [32] b = ((pk 32 b).1, (pk 32 b).2)
      rw [tt]
      rcases hq2 : pk 32 b with ⟨a2, b2⟩
      cases a2 <;> rfl
  unfold sb
  rw [e]
  by_cases h : (pk 44 r).1 = true
  · rw [if_pos h, if_pos h]
  · rw [if_neg h, if_neg h]; rfl
theorem dE1_g {ly : Nat} {r : List Nat} : dE1 ly true r = fin (fD ly r) := by
  unfold dE1 dE2 dE3 dE4 dE5 dE6 fD
  simp only [fin_n, fin_b]
  rw [tt_cs]
  have key : ∀ (k d v : Nat) (r : List Nat), dE7 (some (k + 1)) (some d) (shv ly (some v)) r = fin (fT (shy ly v) k d r) := by
    intro k d v r
    by_cases e : 1970 ≤ shy ly v
    · rw [show shv ly (some v) = some (shy ly v) from if_pos e]; exact dE7_f
    · rw [show shv ly (some v) = none from if_neg e, dE7_n, fT_lo e]
  simp only [← key]
  rfl
/-- a field's date, as the class reads it -/
def dtC (ly wd : Nat) (r : List Nat) : Option Dt := if (pk 44 r).1 = true then fC (pk 44 r).2 else if (pk 32 r).1 = true then fS (pk 32 r).2 else sb (tt (rstL wd) r) (fD ly)
theorem pk_one {a b : Nat} {r : List Nat} (hab : a ≠ b) (h : (pk a r).1 = true) : (pk b r).1 = false := by
  cases r with
  | nil => cases h
  | cons c t =>
    simp only [pk] at h ⊢
    by_cases e : c = a
    · rw [if_neg (by omega)]
    · rw [if_neg e] at h; cases h
theorem dtB_C {ly wd : Nat} {r : List Nat} : dtB ly wd r = fin (dtC ly wd r) := by
  unfold dtB dtC
  by_cases h44 : (pk 44 r).1 = true
  · rw [if_pos h44, if_neg (by rw [pk_one (by decide) h44]; exact fun z => by cases z), if_pos h44, dE1_f, sb, if_pos h44]
  · by_cases h32 : (pk 32 r).1 = true
    · rw [if_pos h32, if_neg h44, if_pos h32, dA0_f]
    · rw [if_neg h32, if_neg h44, if_neg h44, if_neg h32, fin_b]
      congr 1
      funext q
      exact dE1_g
set_option maxRecDepth 100000 in
set_option maxHeartbeats 4000000 in
theorem c_Da_isInCalendar (l : Launch) (D : va_G) (tys : List (ClassId × FieldType)) (tc : Nat → ClassId) (hty : ∀ i : Nat, i < 4 → tys[i]? = some (tc i, vx_ty i)) (h ra sa : Nat) (T rs : List Nat) (sd : Nat → Int32) (ss : Nat) (hT : isT T) (hs : rs <:+ T) (K : Nat → Nat) (ly : Int32) (y mo d t : Nat) (hy : y < 10000) (hmo : mo < 12) (hd : d < 100) (ht : t < 86400) : Kt l y_Da_isInCalendar (yw y_Da_isInCalendar b_Da_isInCalendar 1 (some .boolean)) 1 21 0 0 D cls tys (fun A U H => rdF ra T A U H ∧ gF K A U H) [.ref h] (rdW tc 3 h ra sa [.int (ly), .int (nI y), .int (nI mo), .int (nI d), .int (nI t)] T rs sd ss) (fun r w => r = some (.int (bI (decide (1970 ≤ y ∧ y ≤ 2099 ∧ 1 ≤ d ∧ d ≤ dys mo y)))) ∧ w = (rdW tc 3 h ra sa [.int (ly), .int (nI y), .int (nI mo), .int (nI d), .int (nI t)] T rs sd ss)) := by
  refine Kt.of (ro_and (rdF_ro ra T) (gF_ro K)) (by decide) rfl hty (Nat.le_of_ble_eq_true rfl) ?_
  intro p e s m args below meth c0 A hC hr hlk hnm hF
  have hFt : vx_Ft y_Da_isInCalendar.cls (yw y_Da_isInCalendar b_Da_isInCalendar 1 (some .boolean)) cls cty ft_Da := ft_of (fun w h => List.mem_cons_of_mem _ h) fl_Da_in ft_Da_b
  have hini : false = true → meth.name = "<init>" := fun h => by cases h
  obtain ⟨hrd, hg⟩ := hF
  have hTl := hT.1
  refine vx_go hC hFt hini (vx_ends hC hr hlk) jc_Da_isInCalendar 0 (by decide) rfl ?_
  refine And.intro rfl ?_
  refine And.intro (fun c3 => ?_) (fun c3 => ?_)
  · skip
    have c3 : y < 1970 := (nI_ltI (b := 1970) (by omega) (by omega)).mp c3
    refine vx_go hC hFt hini (vx_ends hC hr hlk) jc_Da_isInCalendar 22 (by decide) rfl ?_
    refine And.intro (rfl) (And.intro ?_ (And.intro (Nat.le_refl _) (Nat.le_refl _)))
    rw [decide_eq_false (fun z => by omega)]
    exact And.intro rfl rfl
  · skip
    have c3 : ¬ y < 1970 := fun z => c3 ((nI_ltI (b := 1970) (by omega) (by omega)).mpr z)
    refine And.intro rfl ?_
    refine And.intro (fun c7 => ?_) (fun c7 => ?_)
    · skip
      have c7 : 2099 < y := (nI_ltI (a := 2099) (by omega) (by omega)).mp c7
      refine vx_go hC hFt hini (vx_ends hC hr hlk) jc_Da_isInCalendar 22 (by decide) rfl ?_
      refine And.intro (rfl) (And.intro ?_ (And.intro (Nat.le_refl _) (Nat.le_refl _)))
      rw [decide_eq_false (fun z => by omega)]
      exact And.intro rfl rfl
    · skip
      have c7 : ¬ 2099 < y := fun z => c7 ((nI_ltI (a := 2099) (by omega) (by omega)).mpr z)
      refine And.intro rfl ?_
      refine And.intro (fun c11 => ?_) (fun c11 => ?_)
      · skip
        have c11 : d < 1 := (nI_ltI (b := 1) (by omega) (by omega)).mp c11
        refine vx_go hC hFt hini (vx_ends hC hr hlk) jc_Da_isInCalendar 22 (by decide) rfl ?_
        refine And.intro (rfl) (And.intro ?_ (And.intro (Nat.le_refl _) (Nat.le_refl _)))
        rw [decide_eq_false (fun z => by omega)]
        exact And.intro rfl rfl
      · skip
        have c11 : ¬ d < 1 := fun z => c11 ((nI_ltI (b := 1) (by omega) (by omega)).mpr z)
        refine And.intro rfl ?_
        refine And.intro rfl ?_
        refine And.intro rfl ?_
        refine calls0 hC (c_Da_daysOf l D tys tc hty mo y hmo (by omega)) hg.2.2.2.1 wm_Da_daysOf wl_Da_115 wt_Da_daysOf ⟨by decide, by decide⟩ rfl rfl (Nat.le_of_ble_eq_true rfl) ⟨Nat.zero_le _, Nat.zero_le _⟩ (fun r' hp => ?_)
        subst hp
        have hdl := dys_le (mo := mo) (y := y)
        refine And.intro (fun c19 => ?_) (fun c19 => ?_)
        · skip
          have c19 : dys mo y < d := (nI_ltI (by omega) (by omega)).mp c19
          refine vx_go hC hFt hini (vx_ends hC hr hlk) jc_Da_isInCalendar 22 (by decide) rfl ?_
          refine And.intro (rfl) (And.intro ?_ (And.intro (Nat.le_refl _) (Nat.le_refl _)))
          rw [decide_eq_false (fun z => by omega)]
          exact And.intro rfl rfl
        · skip
          have c19 : ¬ dys mo y < d := fun z => c19 ((nI_ltI (by omega) (by omega)).mpr z)
          refine vx_go hC hFt hini (vx_ends hC hr hlk) jc_Da_isInCalendar 23 (by decide) rfl ?_
          refine And.intro (rfl) (And.intro ?_ (And.intro (Nat.le_refl _) (Nat.le_refl _)))
          rw [decide_eq_true (⟨by omega, by omega, by omega, by omega⟩)]
          exact And.intro rfl rfl
set_option maxRecDepth 100000 in
set_option maxHeartbeats 4000000 in
theorem c_Da_time (l : Launch) (D : va_G) (tys : List (ClassId × FieldType)) (tc : Nat → ClassId) (hty : ∀ i : Nat, i < 4 → tys[i]? = some (tc i, vx_ty i)) (h ra sa : Nat) (T rs : List Nat) (sd : Nat → Int32) (ss : Nat) (hT : isT T) (hs : rs <:+ T) (K : Nat → Nat) (ly : Int32) (y mo d t : Nat) (hy : y < 10000) (hmo : mo < 12) (hd : d < 100) (ht : t < 86400) (hc : (1970 ≤ y ∧ y ≤ 2099 ∧ 1 ≤ d ∧ d ≤ dys mo y)) : Kt l y_Da_time (yw y_Da_time b_Da_time 4 (some .long)) 1 21 0 0 D cls tys (fun A U H => rdF ra T A U H ∧ gF K A U H) [.ref h] (rdW tc 3 h ra sa [.int (ly), .int (nI y), .int (nI mo), .int (nI d), .int (nI t)] T rs sd ss) (fun r w => r = some (.long (lN (86400 * (dbf y + (d - 1) + mdb y mo) + t))) ∧ w = (rdW tc 3 h ra sa [.int (ly), .int (nI y), .int (nI mo), .int (nI d), .int (nI t)] T rs sd ss)) := by
  refine Kt.of (ro_and (rdF_ro ra T) (gF_ro K)) (by decide) rfl hty (Nat.le_of_ble_eq_true rfl) ?_
  intro p e s m args below meth c0 A hC hr hlk hnm hF
  have hFt : vx_Ft y_Da_time.cls (yw y_Da_time b_Da_time 4 (some .long)) cls cty ft_Da := ft_of (fun w h => List.mem_cons_of_mem _ h) fl_Da_in ft_Da_b
  have hini : false = true → meth.name = "<init>" := fun h => by cases h
  obtain ⟨hrd, hg⟩ := hF
  have hTl := hT.1
  refine vx_gon hC hFt hini (vx_ends hC hr hlk) jc_Da_time 0 12 (by decide) rfl ?_
  refine And.intro rfl ?_
  refine calls0 hC (c_Da_daysBefore l D tys tc hty y hc.1 hy) trivial wm_Da_daysBefore wl_Da_119 wt_Da_daysBefore ⟨by decide, by decide⟩ rfl rfl (Nat.le_of_ble_eq_true rfl) ⟨Nat.zero_le _, Nat.zero_le _⟩ (fun r' hp => ?_)
  subst hp
  have hdb : dbf y ≤ 60000 := by unfold dbf; omega
  refine And.intro rfl ?_
  refine Vx.subL (lv' := [(0, .ref h), (1, .long ((nI (dbf y) + nI d - nI 1).toInt64)), (3, .int (nI 0))]) [2, 1, 0] rfl ?_
  rw [nI_add, pk_sub (by omega), lN_n (by omega)]
  obtain ⟨k, hk0⟩ : ∃ k : Nat, k = 0 := ⟨_, rfl⟩
  obtain ⟨D9, hD0⟩ : ∃ D9 : Nat, D9 = dbf y + d - 1 := ⟨_, rfl⟩
  refine Vx.eqs rfl (lv2 := [(0, .ref h), (1, .long (lN D9)), (3, .int (nI k))]) (by rw [hk0, hD0]) rfl rfl ?_
  have hD : D9 = dbf y + (d - 1) + mdb y k := by rw [hk0, hD0]; show dbf y + d - 1 = dbf y + (d - 1) + 0; omega
  have hkl : k ≤ mo := by omega
  clear hk0 hD0
  induction hn : mo - k using Nat.strongRecOn generalizing k D9 with
  | _ n ih =>
    refine vx_go hC hFt hini (vx_ends hC hr hlk) jc_Da_time 12 (by decide) rfl ?_
    refine And.intro rfl ?_
    refine And.intro (fun c15 => ?_) (fun c15 => ?_)
    · skip
      have c15 : mo ≤ k := (nI_leI (by omega) (by omega)).mp c15
      refine vx_go hC hFt hini (vx_ends hC hr hlk) jc_Da_time 26 (by decide) rfl ?_
      refine And.intro (Or.inr (Or.inl ⟨_, rfl, hC.2.2.2.2.1 _ (List.mem_cons_of_mem _ wc_Da_122)⟩)) ?_
      refine And.intro rfl ?_
      refine And.intro (trivial) (And.intro ?_ (And.intro (Nat.le_refl _) (Nat.le_refl _)))
      refine And.intro ?_ rfl
      show some (Value.long (lN 86400 * lN D9 + (nI t).toInt64)) = _
      rw [lN_n (by omega), lN_mul, lN_add, hD, show k = mo by omega]
    · skip
      have c15 : ¬ mo ≤ k := fun z => c15 ((nI_leI (by omega) (by omega)).mpr z)
      refine And.intro rfl ?_
      refine calls0 hC (c_Da_daysOf l D tys tc hty k y (by omega) (by omega)) hg.2.2.2.1 wm_Da_daysOf wl_Da_115 wt_Da_daysOf ⟨by decide, by decide⟩ rfl rfl (Nat.le_of_ble_eq_true rfl) ⟨Nat.zero_le _, Nat.zero_le _⟩ (fun r' hp => ?_)
      subst hp
      refine Vx.subL (lv' := [(0, .ref h), (1, .long (lN D9 + (nI (dys k y)).toInt64)), (3, .int (nI k + 1))]) [2, 1, 0] rfl ?_
      have hdl := dys_le (mo := k) (y := y)
      rw [nI_1, lN_n (by omega), lN_add]
      exact ih (mo - (k + 1)) (by omega) (k + 1) (D9 + dys k y) (by rw [hD, mdb]; omega) (by omega) rfl
