/-! THE REFERENCE: years and seconds, by program (wip/whole/gen/p48.py) -/
def lI (v : Option Nat) : Int64 := match v with
  | none => -1
  | some a => lN a
def calO (oy om od ot : Option Nat) : Option Nat := match oy, om, od, ot with
  | some y, some mo, some d, some t => cal y (mo - 1) d t
  | _, _, _, _ => none
theorem calO_none {oy om od ot : Option Nat} (h : ∀ y mo d t, oy = some y → om = some mo → od = some d → ot = some t → ¬ (1970 ≤ y ∧ y ≤ 2099 ∧ 1 ≤ d ∧ d ≤ dys (mo - 1) y)) : calO oy om od ot = none := by
  unfold calO
  split
  · rename_i y mo d t
    exact if_neg (h y mo d t rfl rfl rfl rfl)
  · rfl
def shy (ly yy : Nat) : Nat := if ly < 2000 + yy then 1900 + yy else 2000 + yy
def shv (ly : Nat) (v : Option Nat) : Option Nat := match v with
  | none => none
  | some yy => if 1970 ≤ shy ly yy then some (shy ly yy) else none
theorem mod100 {y : Nat} (h : y < 2 ^ 31) : nI y - nI y / (100 : Int32) * (100 : Int32) = nI (y % 100) := pk_rem h (by decide) (by decide)
theorem dys_le {mo y : Nat} : dys mo y ≤ 31 := by
  unfold dys
  split
  · omega
  · rcases Nat.lt_or_ge mo 12 with z | z
    · rcases (show mo = 0 ∨ mo = 1 ∨ mo = 2 ∨ mo = 3 ∨ mo = 4 ∨ mo = 5 ∨ mo = 6 ∨ mo = 7 ∨ mo = 8 ∨ mo = 9 ∨ mo = 10 ∨ mo = 11 by omega) with rfl | rfl | rfl | rfl | rfl | rfl | rfl | rfl | rfl | rfl | rfl | rfl <;> decide
    · rw [List.getD_eq_getElem?_getD, List.getElem?_eq_none (by simpa using z)]; decide
theorem mdb_le {y mo : Nat} : mdb y mo ≤ 31 * mo := by
  induction mo with
  | zero => exact Nat.le_refl _
  | succ mo ih => rw [mdb]; have := dys_le (mo := mo) (y := y); omega
theorem l366 : (366 : Int32).toInt64 = lN 366 := nI_l (n := 366) (by decide)
theorem l365 : (365 : Int32).toInt64 = lN 365 := nI_l (n := 365) (by decide)
set_option maxRecDepth 100000 in
set_option maxHeartbeats 4000000 in
theorem c_Mo_yearOf (l : Launch) (D : va_G) (tys : List (ClassId × FieldType)) (tc : Nat → ClassId) (hty : ∀ i : Nat, i < 4 → tys[i]? = some (tc i, vx_ty i)) (N : Nat) (hN : N ≤ 4102444799) : Kt l y_Mo_yearOf (yw y_Mo_yearOf b_Mo_yearOf 5 (some .int)) 0 0 0 0 D cls tys (fun _ _ _ => True) [.long (lN N)] [] (fun r w => r = some (.int (nI (yrN N))) ∧ w = []) := by
  refine Kt.of ro_true (by decide) rfl hty (Nat.le_of_ble_eq_true rfl) ?_
  intro p e s m args below meth c0 A hC hr hlk hnm hF
  have hFt : vx_Ft y_Mo_yearOf.cls (yw y_Mo_yearOf b_Mo_yearOf 5 (some .int)) cls cty [] := (fun q h => by cases h)
  have hini : false = true → meth.name = "<init>" := fun h => by cases h
  refine vx_gon hC hFt hini (vx_ends hC hr hlk) jc_Mo_yearOf 0 6 (by decide) rfl ?_
  refine And.intro (Or.inr (Or.inl ⟨_, rfl, hC.2.2.2.2.1 _ (List.mem_cons_of_mem _ wc_Mo_257)⟩)) ?_
  refine And.intro (by decide) ?_
  refine Vx.subL (lv' := [(0, .long (lN N)), (2, .int (nI 1970)), (3, .long (lN N / lN 86400))]) [2, 1, 0] rfl ?_
  rw [lW_div (by omega) (by decide) (by decide)]
  obtain ⟨y, hy⟩ : ∃ y : Nat, y = 1970 := ⟨_, rfl⟩
  obtain ⟨d, hd⟩ : ∃ d : Nat, d = N / 86400 := ⟨_, rfl⟩
  refine Vx.eqs rfl (lv2 := [(0, .long (lN N)), (2, .int (nI y)), (3, .long (lN d))]) (by rw [hy, hd]) rfl rfl ?_
  have hy0 : 1970 ≤ y := by omega
  have hyl : y + d ≤ 100000 := by omega
  have hsum : d + dbf y = N / 86400 := by rw [hy, hd]; exact Nat.add_zero _
  clear hy hd
  induction d using Nat.strongRecOn generalizing y with
  | _ d ih =>
    refine vx_go hC hFt hini (vx_ends hC hr hlk) jc_Mo_yearOf 6 (by decide) rfl ?_
    refine And.intro (by decide) ?_
    refine And.intro (fun c10 => ?_) (fun c10 => ?_)
    · skip
      have c10 : ¬ y % 4 = 0 := fun z => c10 (show nI y - nI y / (4 : Int32) * (4 : Int32) = 0 by rw [mod4 (by omega), z]; rfl)
      refine vx_go hC hFt hini (vx_ends hC hr hlk) jc_Mo_yearOf 13 (by decide) rfl ?_
      refine And.intro (fun c16 => ?_) (fun c16 => ?_)
      · skip
        have c16 : d < 365 := by
          have c16 : lg_cmp (lN d) ((365 : Int32).toInt64) < 0 := c16
          rw [l365] at c16
          exact (lW_lt (by omega) (by omega)).mp (lc_lt.mp c16)
        refine vx_go hC hFt hini (vx_ends hC hr hlk) jc_Mo_yearOf 29 (by decide) rfl ?_
        refine And.intro (trivial) (And.intro ?_ (And.intro (Nat.le_refl _) (Nat.le_refl _)))
        have hst := dbf_s hy0
        rw [if_neg c10] at hst
        obtain ⟨k1, k2, k3, k4⟩ := yrN_ok hN
        exact And.intro (by rw [yr_un k3 k4 (show dbf y ≤ N / 86400 by omega) (by omega)]) rfl
      · skip
        have c16 : ¬ d < 365 := fun z => c16 (show lg_cmp (lN d) ((365 : Int32).toInt64) < 0 by rw [l365]; exact lc_lt.mpr ((lW_lt (by omega) (by omega)).mpr z))
        refine And.intro (by decide) ?_
        refine And.intro (fun c21 => ?_) (fun c21 => ?_)
        · skip
          refine vx_go hC hFt hini (vx_ends hC hr hlk) jc_Mo_yearOf 24 (by decide) rfl ?_
          refine And.intro (Or.inr (Or.inl ⟨_, rfl, hC.2.2.2.2.1 _ (List.mem_cons_of_mem _ wc_Mo_261)⟩)) ?_
          refine Vx.subL (lv' := [(0, .long (lN N)), (2, .int (nI y + 1)), (3, .long (lN d - lN 365))]) [2, 0, 1] rfl ?_
          have hst := dbf_s hy0
          rw [if_neg c10] at hst
          rw [nI_1, lW_sub (by omega)]
          exact ih (d - 365) (by omega) (y + 1) (by omega) (by omega) (by omega)
        · skip
          exact absurd (show y % 4 = 0 by
            have c21 : nI y - nI y / (4 : Int32) * (4 : Int32) = nI 0 := c21
            rw [mod4 (by omega)] at c21
            exact (nI_eq (by omega) (by omega)).mp c21) c10
    · skip
      have c10 : y % 4 = 0 := by
        have c10 : nI y - nI y / (4 : Int32) * (4 : Int32) = nI 0 := c10
        rw [mod4 (by omega)] at c10
        exact (nI_eq (by omega) (by omega)).mp c10
      refine vx_go hC hFt hini (vx_ends hC hr hlk) jc_Mo_yearOf 14 (by decide) rfl ?_
      refine And.intro (fun c16 => ?_) (fun c16 => ?_)
      · skip
        have c16 : d < 366 := by
          have c16 : lg_cmp (lN d) ((366 : Int32).toInt64) < 0 := c16
          rw [l366] at c16
          exact (lW_lt (by omega) (by omega)).mp (lc_lt.mp c16)
        refine vx_go hC hFt hini (vx_ends hC hr hlk) jc_Mo_yearOf 29 (by decide) rfl ?_
        refine And.intro (trivial) (And.intro ?_ (And.intro (Nat.le_refl _) (Nat.le_refl _)))
        have hst := dbf_s hy0
        rw [if_pos c10] at hst
        obtain ⟨k1, k2, k3, k4⟩ := yrN_ok hN
        exact And.intro (by rw [yr_un k3 k4 (show dbf y ≤ N / 86400 by omega) (by omega)]) rfl
      · skip
        have c16 : ¬ d < 366 := fun z => c16 (show lg_cmp (lN d) ((366 : Int32).toInt64) < 0 by rw [l366]; exact lc_lt.mpr ((lW_lt (by omega) (by omega)).mpr z))
        refine And.intro (by decide) ?_
        refine And.intro (fun c21 => ?_) (fun c21 => ?_)
        · skip
          exact absurd (show nI y - nI y / (4 : Int32) * (4 : Int32) = 0 by rw [mod4 (by omega), c10]; rfl) c21
        · skip
          refine And.intro (Or.inr (Or.inl ⟨_, rfl, hC.2.2.2.2.1 _ (List.mem_cons_of_mem _ wc_Mo_259)⟩)) ?_
          refine vx_go hC hFt hini (vx_ends hC hr hlk) jc_Mo_yearOf 25 (by decide) rfl ?_
          refine Vx.subL (lv' := [(0, .long (lN N)), (2, .int (nI y + 1)), (3, .long (lN d - lN 366))]) [2, 0, 1] rfl ?_
          have hst := dbf_s hy0
          rw [if_pos c10] at hst
          rw [nI_1, lW_sub (by omega)]
          exact ih (d - 366) (by omega) (y + 1) (by omega) (by omega) (by omega)
set_option maxRecDepth 100000 in
set_option maxHeartbeats 4000000 in
theorem c_Mo_secondsOf (l : Launch) (D : va_G) (tys : List (ClassId × FieldType)) (tc : Nat → ClassId) (hty : ∀ i : Nat, i < 4 → tys[i]? = some (tc i, vx_ty i)) (oy om od ot : Option Nat) (hy : ∀ y, oy = some y → y ≤ 9999) (hm : ∀ mo, om = some mo → 1 ≤ mo ∧ mo ≤ 12) (hd : ∀ d, od = some d → d ≤ 99) (ht : ∀ t, ot = some t → t ≤ 86399) : Kt l y_Mo_secondsOf (yw y_Mo_secondsOf b_Mo_secondsOf 7 (some .long)) 1 21 0 0 D cls tys (fun _ _ _ => True) [.int (iI oy), .int (iI om), .int (iI od), .int (iI ot)] [] (fun r w => r = some (.long (lI (calO oy om od ot))) ∧ w = []) := by
  refine Kt.of ro_true (by decide) rfl hty (Nat.le_of_ble_eq_true rfl) ?_
  intro p e s m args below meth c0 A hC hr hlk hnm hF
  have hFt : vx_Ft y_Mo_secondsOf.cls (yw y_Mo_secondsOf b_Mo_secondsOf 7 (some .long)) cls cty [] := (fun q h => by cases h)
  have hini : false = true → meth.name = "<init>" := fun h => by cases h
  refine vx_gon hC hFt hini (vx_ends hC hr hlk) jc_Mo_secondsOf 0 28 (by decide) rfl ?_
  refine And.intro (fun c2 => ?_) (fun c2 => ?_)
  · skip
    refine vx_gon hC hFt hini (vx_ends hC hr hlk) jc_Mo_secondsOf 19 9 (by decide) rfl ?_
    refine And.intro (Or.inr (Or.inl ⟨_, rfl, hC.2.2.2.2.1 _ (List.mem_cons_of_mem _ wc_Mo_267)⟩)) ?_
    refine And.intro (trivial) (And.intro ?_ (And.intro (Nat.le_refl _) (Nat.le_refl _)))
    rw [calO_none (fun y9 m9 d9 t9 e1 e2 e3 e4 z => by
      rw [e1] at c2
      have := (nI_ltI (a := y9) (b := 1970) (by have := (hy y9 e1); omega) (by omega)).mp c2
      omega)]
    exact And.intro rfl rfl
  · skip
    obtain ⟨y, rfl⟩ : ∃ y, oy = some y := by
      cases oy with
      | none => exact absurd (show iI none < 1970 by decide) c2
      | some y => exact ⟨y, rfl⟩
    have hy := hy y rfl
    have c2 : 1970 ≤ y := Nat.le_of_not_lt (fun z => c2 ((nI_ltI (a := y) (b := 1970) (by omega) (by omega)).mpr z))
    refine And.intro (fun c5 => ?_) (fun c5 => ?_)
    · skip
      refine vx_gon hC hFt hini (vx_ends hC hr hlk) jc_Mo_secondsOf 19 9 (by decide) rfl ?_
      refine And.intro (Or.inr (Or.inl ⟨_, rfl, hC.2.2.2.2.1 _ (List.mem_cons_of_mem _ wc_Mo_267)⟩)) ?_
      refine And.intro (trivial) (And.intro ?_ (And.intro (Nat.le_refl _) (Nat.le_refl _)))
      rw [calO_none (fun y9 m9 d9 t9 e1 e2 e3 e4 z => by
        have := Option.some.inj e1
        have := (nI_ltI (a := 2099) (b := y) (by omega) (by omega)).mp c5
        omega)]
      exact And.intro rfl rfl
    · skip
      have c5 : ¬ 2099 < y := fun z => c5 ((nI_ltI (a := 2099) (by omega) (by omega)).mpr z)
      refine And.intro (fun c8 => ?_) (fun c8 => ?_)
      · skip
        refine vx_gon hC hFt hini (vx_ends hC hr hlk) jc_Mo_secondsOf 19 9 (by decide) rfl ?_
        refine And.intro (Or.inr (Or.inl ⟨_, rfl, hC.2.2.2.2.1 _ (List.mem_cons_of_mem _ wc_Mo_267)⟩)) ?_
        refine And.intro (trivial) (And.intro ?_ (And.intro (Nat.le_refl _) (Nat.le_refl _)))
        rw [calO_none (fun y9 m9 d9 t9 e1 e2 e3 e4 z => by
          rw [e2] at c8
          have := (nI_ltI (a := m9) (b := 1) (by have := (hm m9 e2); omega) (by omega)).mp c8
          have := hm m9 e2
          omega)]
        exact And.intro rfl rfl
      · skip
        obtain ⟨mo, rfl⟩ : ∃ mo, om = some mo := by
          cases om with
          | none => exact absurd (show iI none < 1 by decide) c8
          | some mo => exact ⟨mo, rfl⟩
        have hm := hm mo rfl
        refine And.intro (fun c11 => ?_) (fun c11 => ?_)
        · skip
          refine vx_gon hC hFt hini (vx_ends hC hr hlk) jc_Mo_secondsOf 19 9 (by decide) rfl ?_
          refine And.intro (Or.inr (Or.inl ⟨_, rfl, hC.2.2.2.2.1 _ (List.mem_cons_of_mem _ wc_Mo_267)⟩)) ?_
          refine And.intro (trivial) (And.intro ?_ (And.intro (Nat.le_refl _) (Nat.le_refl _)))
          rw [calO_none (fun y9 m9 d9 t9 e1 e2 e3 e4 z => by
            rw [e3] at c11
            have := (nI_ltI (a := d9) (b := 1) (by have := (hd d9 e3); omega) (by omega)).mp c11
            omega)]
          exact And.intro rfl rfl
        · skip
          obtain ⟨d, rfl⟩ : ∃ d, od = some d := by
            cases od with
            | none => exact absurd (show iI none < 1 by decide) c11
            | some d => exact ⟨d, rfl⟩
          have hd := hd d rfl
          have c11 : 1 ≤ d := Nat.le_of_not_lt (fun z => c11 ((nI_ltI (a := d) (b := 1) (by omega) (by omega)).mpr z))
          refine mo_calls hC (c_Mo_daysOf l D tys tc hty mo y hm (by omega)) wm_Mo_daysOf wl_Mo_263 wt_Mo_daysOf ⟨by decide, by decide⟩ rfl rfl (Nat.le_of_ble_eq_true rfl) ⟨Nat.zero_le _, Nat.zero_le _⟩ (fun r' hp => ?_)
          subst hp
          refine And.intro (fun c16 => ?_) (fun c16 => ?_)
          · skip
            refine vx_gon hC hFt hini (vx_ends hC hr hlk) jc_Mo_secondsOf 19 9 (by decide) rfl ?_
            refine And.intro (Or.inr (Or.inl ⟨_, rfl, hC.2.2.2.2.1 _ (List.mem_cons_of_mem _ wc_Mo_267)⟩)) ?_
            refine And.intro (trivial) (And.intro ?_ (And.intro (Nat.le_refl _) (Nat.le_refl _)))
            rw [calO_none (fun y9 m9 d9 t9 e1 e2 e3 e4 z => by
              have h1 := Option.some.inj e1
              have h2 := Option.some.inj e2
              have h3 := Option.some.inj e3
              rw [← h1, ← h2, ← h3] at z
              have := (nI_ltI (a := dys (mo - 1) y) (b := d) (by have := dys_le (mo := mo - 1) (y := y); omega) (by omega)).mp c16
              omega)]
            exact And.intro rfl rfl
          · skip
            have c16 : ¬ dys (mo - 1) y < d := fun z => c16 ((nI_ltI (a := dys (mo - 1) y) (b := d) (by omega) (by omega)).mpr z)
            refine And.intro (fun c18 => ?_) (fun c18 => ?_)
            · skip
              obtain ⟨t, rfl⟩ : ∃ t, ot = some t := by
                cases ot with
                | none => exact absurd c18 (by decide)
                | some t => exact ⟨t, rfl⟩
              have ht := ht t rfl
              refine vx_gon hC hFt hini (vx_ends hC hr hlk) jc_Mo_secondsOf 21 7 (by decide) rfl ?_
              refine Vx.subL (lv' := [(0, .int (nI y)), (1, .int (nI mo)), (2, .int (nI d)), (3, .int (nI t)), (4, .long ((nI d - nI 1).toInt64)), (6, .int (nI 1970))]) [2, 3, 4, 5, 1, 0] rfl ?_
              rw [pk_sub c11, nI_l (by omega)]
              obtain ⟨yy, hyy⟩ : ∃ yy : Nat, yy = 1970 := ⟨_, rfl⟩
              obtain ⟨D9, hD9⟩ : ∃ D9 : Nat, D9 = d - 1 := ⟨_, rfl⟩
              refine Vx.eqs rfl (lv2 := [(0, .int (nI y)), (1, .int (nI mo)), (2, .int (nI d)), (3, .int (nI t)), (4, .long (lN D9)), (6, .int (nI yy))]) (by rw [hyy, hD9]) rfl rfl ?_
              have hyy0 : 1970 ≤ yy ∧ yy ≤ y := by omega
              have hD : D9 = dbf yy + (d - 1) := by rw [hyy, hD9]; exact (Nat.zero_add _).symm
              clear hyy hD9
              induction hn : y - yy using Nat.strongRecOn generalizing yy D9 with
              | _ n ih =>
                refine vx_gon hC hFt hini (vx_ends hC hr hlk) jc_Mo_secondsOf 28 17 (by decide) rfl ?_
                refine And.intro (fun c30 => ?_) (fun c30 => ?_)
                · skip
                  have c30 := (nI_leI (a := y) (b := yy) (by omega) (by omega)).mp c30
                  refine vx_gon hC hFt hini (vx_ends hC hr hlk) jc_Mo_secondsOf 43 2 (by decide) rfl ?_
                  refine Vx.subL (lv' := [(0, .int (nI y)), (1, .int (nI mo)), (2, .int (nI d)), (3, .int (nI t)), (4, .long (lN D9)), (6, .int (nI 1))]) [1, 2, 3, 4, 5, 0] rfl ?_
                  obtain ⟨mm, hmm⟩ : ∃ mm : Nat, mm = 1 := ⟨_, rfl⟩
                  refine Vx.eqs rfl (lv2 := [(0, .int (nI y)), (1, .int (nI mo)), (2, .int (nI d)), (3, .int (nI t)), (4, .long (lN D9)), (6, .int (nI mm))]) (by rw [hmm]) rfl rfl ?_
                  have hmm0 : 1 ≤ mm ∧ mm ≤ mo := by omega
                  replace hD : D9 = dbf y + (d - 1) + mdb y (mm - 1) := by rw [hD, show yy = y by omega, hmm]; exact (Nat.add_zero _).symm
                  clear hmm ih hyy0 hn c30
                  induction hn2 : mo - mm using Nat.strongRecOn generalizing mm D9 with
                  | _ n2 ih2 =>
                    refine vx_go hC hFt hini (vx_ends hC hr hlk) jc_Mo_secondsOf 45 (by decide) rfl ?_
                    refine And.intro (fun c47 => ?_) (fun c47 => ?_)
                    · skip
                      have c47 := (nI_leI (a := mo) (b := mm) (by omega) (by omega)).mp c47
                      refine vx_go hC hFt hini (vx_ends hC hr hlk) jc_Mo_secondsOf 57 (by decide) rfl ?_
                      refine And.intro (Or.inr (Or.inl ⟨_, rfl, hC.2.2.2.2.1 _ (List.mem_cons_of_mem _ wc_Mo_257)⟩)) ?_
                      refine And.intro (trivial) (And.intro ?_ (And.intro (Nat.le_refl _) (Nat.le_refl _)))
                      have hc : calO (some y) (some mo) (some d) (some t) = some (86400 * (dbf y + (d - 1) + mdb y (mo - 1)) + t) := if_pos ⟨by omega, by omega, by omega, by omega⟩
                      rw [hc]
                      refine And.intro ?_ rfl
                      show some (Value.long (lN 86400 * lN D9 + (nI t).toInt64)) = some (Value.long (lN _))
                      rw [nI_l (by omega), lN_mul, lN_add, hD, show mm - 1 = mo - 1 by omega]
                    · skip
                      have c47 : ¬ (mo ≤ mm) := fun z => c47 ((nI_leI (a := mo) (b := mm) (by omega) (by omega)).mpr z)
                      refine mo_calls hC (c_Mo_daysOf l D tys tc hty mm y (by omega) (by omega)) wm_Mo_daysOf wl_Mo_263 wt_Mo_daysOf ⟨by decide, by decide⟩ rfl rfl (Nat.le_of_ble_eq_true rfl) ⟨Nat.zero_le _, Nat.zero_le _⟩ (fun r' hp => ?_)
                      subst hp
                      refine Vx.subL (lv' := [(0, .int (nI y)), (1, .int (nI mo)), (2, .int (nI d)), (3, .int (nI t)), (4, .long (lN D9 + (nI (dys (mm - 1) y)).toInt64)), (6, .int (nI mm + 1))]) [2, 3, 4, 5, 1, 0] rfl ?_
                      rw [nI_1, nI_l (by have := dys_le (mo := mm - 1) (y := y); omega), lN_add]
                      have hmd : mdb y (mm + 1 - 1) = mdb y (mm - 1) + dys (mm - 1) y := by
                        rw [show mm + 1 - 1 = (mm - 1) + 1 by omega, mdb]
                      exact ih2 (mo - (mm + 1)) (by omega) (D9 + dys (mm - 1) y) (mm + 1) (by omega) (by rw [hmd, hD]; omega) rfl
                · skip
                  have c30 : ¬ (y ≤ yy) := fun z => c30 ((nI_leI (a := y) (b := yy) (by omega) (by omega)).mpr z)
                  refine And.intro (by decide) ?_
                  refine And.intro (fun c35 => ?_) (fun c35 => ?_)
                  · skip
                    have c35 : ¬ yy % 4 = 0 := fun z => c35 (show nI yy - nI yy / (4 : Int32) * (4 : Int32) = 0 by rw [mod4 (by omega), z]; rfl)
                    refine vx_gon hC hFt hini (vx_ends hC hr hlk) jc_Mo_secondsOf 38 7 (by decide) rfl ?_
                    refine And.intro (Or.inr (Or.inl ⟨_, rfl, hC.2.2.2.2.1 _ (List.mem_cons_of_mem _ wc_Mo_261)⟩)) ?_
                    refine Vx.subL (lv' := [(0, .int (nI y)), (1, .int (nI mo)), (2, .int (nI d)), (3, .int (nI t)), (4, .long (lN D9 + lN 365)), (6, .int (nI yy + 1))]) [2, 3, 4, 5, 1, 0] rfl ?_
                    have hst := dbf_s (y := yy) (by omega)
                    rw [if_neg c35] at hst
                    rw [nI_1, lN_add]
                    exact ih (y - (yy + 1)) (by omega) (yy + 1) (D9 + 365) (by omega) (by omega) rfl
                  · skip
                    have c35 : yy % 4 = 0 := by
                      have c35 : nI yy - nI yy / (4 : Int32) * (4 : Int32) = nI 0 := c35
                      rw [mod4 (by omega)] at c35
                      exact (nI_eq (by omega) (by omega)).mp c35
                    refine And.intro (Or.inr (Or.inl ⟨_, rfl, hC.2.2.2.2.1 _ (List.mem_cons_of_mem _ wc_Mo_259)⟩)) ?_
                    refine vx_gon hC hFt hini (vx_ends hC hr hlk) jc_Mo_secondsOf 39 6 (by decide) rfl ?_
                    refine Vx.subL (lv' := [(0, .int (nI y)), (1, .int (nI mo)), (2, .int (nI d)), (3, .int (nI t)), (4, .long (lN D9 + lN 366)), (6, .int (nI yy + 1))]) [2, 3, 4, 5, 1, 0] rfl ?_
                    have hst := dbf_s (y := yy) (by omega)
                    rw [if_pos c35] at hst
                    rw [nI_1, lN_add]
                    exact ih (y - (yy + 1)) (by omega) (yy + 1) (D9 + 366) (by omega) (by omega) rfl
            · skip
              refine And.intro (Or.inr (Or.inl ⟨_, rfl, hC.2.2.2.2.1 _ (List.mem_cons_of_mem _ wc_Mo_267)⟩)) ?_
              refine And.intro (trivial) (And.intro ?_ (And.intro (Nat.le_refl _) (Nat.le_refl _)))
              rw [calO_none (fun y9 m9 d9 t9 e1 e2 e3 e4 z => by
                rw [e4] at c18
                exact c18 (nI_pos' (by have := ht t9 e4; omega)))]
              exact And.intro rfl rfl
set_option maxRecDepth 100000 in
set_option maxHeartbeats 4000000 in
theorem c_Mo_shortYear (l : Launch) (D : va_G) (tys : List (ClassId × FieldType)) (tc : Nat → ClassId) (hty : ∀ i : Nat, i < 4 → tys[i]? = some (tc i, vx_ty i)) (h : Nat) (ar : Nat → Nat) (now : Int64) (sc : Nat → Int32) (ai : Nat → Nat → Int32) (al : Nat → Nat → Int64) (N : Nat) (hN : N ≤ 4102444799) (hnow : now = lN N) (two : Option Nat) (htw : ∀ yy, two = some yy → yy ≤ 99) : Kt l y_Mo_shortYear (yw y_Mo_shortYear b_Mo_shortYear 3 (some .int)) 1 24 0 0 D cls tys (fun _ _ _ => True) [.ref h, .int (iI two)] (mdW tc h ar now sc ai al) (fun r w => r = some (.int (iI (shv (yrN N + 50) two))) ∧ w = (mdW tc h ar now sc ai al)) := by
  refine Kt.of ro_true (by decide) rfl hty (Nat.le_of_ble_eq_true rfl) ?_
  intro p e s m args below meth c0 A hC hr hlk hnm hF
  have hFt : vx_Ft y_Mo_shortYear.cls (yw y_Mo_shortYear b_Mo_shortYear 3 (some .int)) cls cty ft_Mo := ft_of (fun w h => List.mem_cons_of_mem _ h) fl_Mo_in ft_Mo_b
  have hini : false = true → meth.name = "<init>" := fun h => by cases h
  obtain ⟨k1, k2, k3, k4⟩ := yrN_ok hN
  refine vx_gon hC hFt hini (vx_ends hC hr hlk) jc_Mo_shortYear 0 15 (by decide) rfl ?_
  refine And.intro rfl ?_
  refine mo_calls hC (c_Mo_yearOf l D tys tc hty N hN) wm_Mo_yearOf wl_Mo_269 wt_Mo_yearOf ⟨by decide, by decide⟩ rfl (by rw [hnow]; rfl) (Nat.le_of_ble_eq_true rfl) ⟨Nat.zero_le _, Nat.zero_le _⟩ (fun r' hp => ?_)
  subst hp
  refine And.intro (fun c6 => ?_) (fun c6 => ?_)
  · skip
    have c6 : ¬ 2099 < yrN N + 50 := Nat.not_lt.mpr ((nI_leI (a := yrN N + 50) (b := 2099) (by omega) (by omega)).mp (by rw [← nI_add]; exact c6))
    refine vx_gon hC hFt hini (vx_ends hC hr hlk) jc_Mo_shortYear 9 6 (by decide) rfl ?_
    refine And.intro rfl ?_
    refine mo_calls hC (c_Mo_yearOf l D tys tc hty N hN) wm_Mo_yearOf wl_Mo_269 wt_Mo_yearOf ⟨by decide, by decide⟩ rfl (by rw [hnow]; rfl) (Nat.le_of_ble_eq_true rfl) ⟨Nat.zero_le _, Nat.zero_le _⟩ (fun r' hp => ?_)
    subst hp
    refine Vx.subL (lv' := [(0, .ref h), (1, .int (iI two)), (2, .int (nI (yrN N) + nI 50))]) [1, 2, 0] rfl ?_
    obtain ⟨y, hy⟩ : ∃ y : Nat, y = (if 2099 < yrN N + 50 then 2099 else yrN N + 50) := ⟨_, rfl⟩
    refine Vx.eqs rfl (lv2 := [(0, .ref h), (1, .int (iI two)), (2, .int (nI y))]) (by rw [hy, nI_add, if_neg c6]) rfl rfl ?_
    have hy0 : 1969 ≤ y ∧ y ≤ (if 2099 < yrN N + 50 then 2099 else yrN N + 50) := by rw [hy]; split <;> omega
    have hY : (if 2099 < yrN N + 50 then 2099 else yrN N + 50) ≤ 2099 ∧ 2020 ≤ (if 2099 < yrN N + 50 then 2099 else yrN N + 50) ∧ (if 2099 < yrN N + 50 then 2099 else yrN N + 50) ≤ yrN N + 50 ∧ (yrN N + 50 ≤ 2099 → (if 2099 < yrN N + 50 then 2099 else yrN N + 50) = yrN N + 50) ∧ (2099 < yrN N + 50 → (if 2099 < yrN N + 50 then 2099 else yrN N + 50) = 2099) := by split <;> omega
    have hmx : ∀ yy, two = some yy → ∀ z, y < z → z ≤ (if 2099 < yrN N + 50 then 2099 else yrN N + 50) → ¬ z % 100 = yy := fun yy _ z z1 z2 => by omega
    clear hy
    generalize (if 2099 < yrN N + 50 then 2099 else yrN N + 50) = YM at hy0 hY hmx
    induction y using Nat.strongRecOn with
    | _ y ih =>
      refine vx_go hC hFt hini (vx_ends hC hr hlk) jc_Mo_shortYear 15 (by decide) rfl ?_
      refine And.intro (fun c17 => ?_) (fun c17 => ?_)
      · skip
        have c17 := (nI_ltI (a := y) (b := 1970) (by omega) (by omega)).mp c17
        refine vx_go hC hFt hini (vx_ends hC hr hlk) jc_Mo_shortYear 25 (by decide) rfl ?_
        refine And.intro (fun c26 => ?_) (fun c26 => ?_)
        · skip
          refine vx_go hC hFt hini (vx_ends hC hr hlk) jc_Mo_shortYear 30 (by decide) rfl ?_
          refine vx_go hC hFt hini (vx_ends hC hr hlk) jc_Mo_shortYear 33 (by decide) rfl ?_
          refine And.intro (trivial) (And.intro ?_ (And.intro (Nat.le_refl _) (Nat.le_refl _)))
          have h2 : two = none := by
            cases two with
            | none => rfl
            | some yy => exact absurd c26 (nI_pos (by have := htw yy rfl; omega))
          rw [h2]
          exact And.intro rfl rfl
        · skip
          refine And.intro (fun c29 => ?_) (fun c29 => ?_)
          · skip
            have c29 : 1970 ≤ y := (nI_leI (a := 1970) (by omega) (by omega)).mp c29
            refine vx_go hC hFt hini (vx_ends hC hr hlk) jc_Mo_shortYear 32 (by decide) rfl ?_
            refine And.intro (trivial) (And.intro ?_ (And.intro (Nat.le_refl _) (Nat.le_refl _)))
            obtain ⟨yy, rfl⟩ : ∃ yy, two = some yy := by
              cases two with
              | none => exact absurd (show iI none < 0 by decide) c26
              | some yy => exact ⟨yy, rfl⟩
            have htw := htw yy rfl
            have hmx := hmx yy rfl
            omega
          · skip
            have c29 : ¬ 1970 ≤ y := fun z => c29 ((nI_leI (a := 1970) (by omega) (by omega)).mpr z)
            refine vx_go hC hFt hini (vx_ends hC hr hlk) jc_Mo_shortYear 33 (by decide) rfl ?_
            refine And.intro (trivial) (And.intro ?_ (And.intro (Nat.le_refl _) (Nat.le_refl _)))
            obtain ⟨yy, rfl⟩ : ∃ yy, two = some yy := by
              cases two with
              | none => exact absurd (show iI none < 0 by decide) c26
              | some yy => exact ⟨yy, rfl⟩
            have htw := htw yy rfl
            have hmx := hmx yy rfl
            have hy : ¬ 1970 ≤ shy (yrN N + 50) yy := by
              have h9 := hmx (2000 + yy)
              have h8 := hmx (1900 + yy)
              unfold shy
              split <;> omega
            show (_ : Option Value) = some (.int (iI (if 1970 ≤ shy (yrN N + 50) yy then some (shy (yrN N + 50) yy) else none))) ∧ _
            rw [if_neg hy]
            exact And.intro rfl rfl
      · skip
        have c17 : ¬ (y < 1970) := fun z => c17 ((nI_ltI (a := y) (b := 1970) (by omega) (by omega)).mpr z)
        refine And.intro (by decide) ?_
        refine And.intro (fun c22 => ?_) (fun c22 => ?_)
        · skip
          have c22 : ∀ yy, two = some yy → y % 100 = yy := by
            intro yy e9
            have c22 : nI y - nI y / (100 : Int32) * (100 : Int32) = iI two := c22
            rw [mod100 (by omega), e9] at c22
            exact (nI_eq (by omega) (by have := htw yy e9; omega)).mp c22
          refine vx_go hC hFt hini (vx_ends hC hr hlk) jc_Mo_shortYear 25 (by decide) rfl ?_
          refine And.intro (fun c26 => ?_) (fun c26 => ?_)
          · skip
            refine vx_go hC hFt hini (vx_ends hC hr hlk) jc_Mo_shortYear 30 (by decide) rfl ?_
            refine vx_go hC hFt hini (vx_ends hC hr hlk) jc_Mo_shortYear 33 (by decide) rfl ?_
            refine And.intro (trivial) (And.intro ?_ (And.intro (Nat.le_refl _) (Nat.le_refl _)))
            have h2 : two = none := by
              cases two with
              | none => rfl
              | some yy => exact absurd c26 (nI_pos (by have := htw yy rfl; omega))
            rw [h2]
            exact And.intro rfl rfl
          · skip
            refine And.intro (fun c29 => ?_) (fun c29 => ?_)
            · skip
              have c29 : 1970 ≤ y := (nI_leI (a := 1970) (by omega) (by omega)).mp c29
              refine vx_go hC hFt hini (vx_ends hC hr hlk) jc_Mo_shortYear 32 (by decide) rfl ?_
              refine And.intro (trivial) (And.intro ?_ (And.intro (Nat.le_refl _) (Nat.le_refl _)))
              obtain ⟨yy, rfl⟩ : ∃ yy, two = some yy := by
                cases two with
                | none => exact absurd (show iI none < 0 by decide) c26
                | some yy => exact ⟨yy, rfl⟩
              have htw := htw yy rfl
              have hmx := hmx yy rfl
              have hy : y = shy (yrN N + 50) yy := by
                have h9 := hmx (2000 + yy)
                unfold shy
                split <;> (have := c22 yy rfl; omega)
              show (_ : Option Value) = some (.int (iI (if 1970 ≤ shy (yrN N + 50) yy then some (shy (yrN N + 50) yy) else none))) ∧ _
              rw [← hy, if_pos c29]
              exact And.intro rfl rfl
            · skip
              have c29 : ¬ 1970 ≤ y := fun z => c29 ((nI_leI (a := 1970) (by omega) (by omega)).mpr z)
              refine vx_go hC hFt hini (vx_ends hC hr hlk) jc_Mo_shortYear 33 (by decide) rfl ?_
              refine And.intro (trivial) (And.intro ?_ (And.intro (Nat.le_refl _) (Nat.le_refl _)))
              obtain ⟨yy, rfl⟩ : ∃ yy, two = some yy := by
                cases two with
                | none => exact absurd (show iI none < 0 by decide) c26
                | some yy => exact ⟨yy, rfl⟩
              have htw := htw yy rfl
              have hmx := hmx yy rfl
              omega
        · skip
          have c22 : ∀ yy, two = some yy → ¬ y % 100 = yy := by
            intro yy e9 z
            exact c22 (show nI y - nI y / (100 : Int32) * (100 : Int32) = iI two by rw [mod100 (by omega), e9, z]; rfl)
          refine Vx.subL (lv' := [(0, .ref h), (1, .int (iI two)), (2, .int (nI y + (-1)))]) [1, 2, 0] rfl ?_
          obtain ⟨y2, rfl⟩ : ∃ y2, y = y2 + 1 := ⟨y - 1, by omega⟩
          rw [nI_dec]
          exact ih y2 (by omega) (by omega) (fun yy e9 z z1 z2 => by
            rcases Nat.lt_or_ge (y2 + 1) z with z3 | z3
            · exact hmx yy e9 z z3 z2
            · rw [show z = y2 + 1 by omega]; exact c22 yy e9)
  · skip
    have c6 : 2099 < yrN N + 50 := Nat.lt_of_not_le (fun z => c6 (show nI (yrN N) + nI 50 ≤ nI 2099 by rw [nI_add]; exact (nI_leI (by omega) (by omega)).mpr z))
    refine vx_gon hC hFt hini (vx_ends hC hr hlk) jc_Mo_shortYear 14 1 (by decide) rfl ?_
    refine Vx.subL (lv' := [(0, .ref h), (1, .int (iI two)), (2, .int (nI 2099))]) [1, 2, 0] rfl ?_
    obtain ⟨y, hy⟩ : ∃ y : Nat, y = (if 2099 < yrN N + 50 then 2099 else yrN N + 50) := ⟨_, rfl⟩
    refine Vx.eqs rfl (lv2 := [(0, .ref h), (1, .int (iI two)), (2, .int (nI y))]) (by rw [hy, if_pos c6]) rfl rfl ?_
    have hy0 : 1969 ≤ y ∧ y ≤ (if 2099 < yrN N + 50 then 2099 else yrN N + 50) := by rw [hy]; split <;> omega
    have hY : (if 2099 < yrN N + 50 then 2099 else yrN N + 50) ≤ 2099 ∧ 2020 ≤ (if 2099 < yrN N + 50 then 2099 else yrN N + 50) ∧ (if 2099 < yrN N + 50 then 2099 else yrN N + 50) ≤ yrN N + 50 ∧ (yrN N + 50 ≤ 2099 → (if 2099 < yrN N + 50 then 2099 else yrN N + 50) = yrN N + 50) ∧ (2099 < yrN N + 50 → (if 2099 < yrN N + 50 then 2099 else yrN N + 50) = 2099) := by split <;> omega
    have hmx : ∀ yy, two = some yy → ∀ z, y < z → z ≤ (if 2099 < yrN N + 50 then 2099 else yrN N + 50) → ¬ z % 100 = yy := fun yy _ z z1 z2 => by omega
    clear hy
    generalize (if 2099 < yrN N + 50 then 2099 else yrN N + 50) = YM at hy0 hY hmx
    induction y using Nat.strongRecOn with
    | _ y ih =>
      refine vx_go hC hFt hini (vx_ends hC hr hlk) jc_Mo_shortYear 15 (by decide) rfl ?_
      refine And.intro (fun c17 => ?_) (fun c17 => ?_)
      · skip
        have c17 := (nI_ltI (a := y) (b := 1970) (by omega) (by omega)).mp c17
        refine vx_go hC hFt hini (vx_ends hC hr hlk) jc_Mo_shortYear 25 (by decide) rfl ?_
        refine And.intro (fun c26 => ?_) (fun c26 => ?_)
        · skip
          refine vx_go hC hFt hini (vx_ends hC hr hlk) jc_Mo_shortYear 30 (by decide) rfl ?_
          refine vx_go hC hFt hini (vx_ends hC hr hlk) jc_Mo_shortYear 33 (by decide) rfl ?_
          refine And.intro (trivial) (And.intro ?_ (And.intro (Nat.le_refl _) (Nat.le_refl _)))
          have h2 : two = none := by
            cases two with
            | none => rfl
            | some yy => exact absurd c26 (nI_pos (by have := htw yy rfl; omega))
          rw [h2]
          exact And.intro rfl rfl
        · skip
          refine And.intro (fun c29 => ?_) (fun c29 => ?_)
          · skip
            have c29 : 1970 ≤ y := (nI_leI (a := 1970) (by omega) (by omega)).mp c29
            refine vx_go hC hFt hini (vx_ends hC hr hlk) jc_Mo_shortYear 32 (by decide) rfl ?_
            refine And.intro (trivial) (And.intro ?_ (And.intro (Nat.le_refl _) (Nat.le_refl _)))
            obtain ⟨yy, rfl⟩ : ∃ yy, two = some yy := by
              cases two with
              | none => exact absurd (show iI none < 0 by decide) c26
              | some yy => exact ⟨yy, rfl⟩
            have htw := htw yy rfl
            have hmx := hmx yy rfl
            omega
          · skip
            have c29 : ¬ 1970 ≤ y := fun z => c29 ((nI_leI (a := 1970) (by omega) (by omega)).mpr z)
            refine vx_go hC hFt hini (vx_ends hC hr hlk) jc_Mo_shortYear 33 (by decide) rfl ?_
            refine And.intro (trivial) (And.intro ?_ (And.intro (Nat.le_refl _) (Nat.le_refl _)))
            obtain ⟨yy, rfl⟩ : ∃ yy, two = some yy := by
              cases two with
              | none => exact absurd (show iI none < 0 by decide) c26
              | some yy => exact ⟨yy, rfl⟩
            have htw := htw yy rfl
            have hmx := hmx yy rfl
            have hy : ¬ 1970 ≤ shy (yrN N + 50) yy := by
              have h9 := hmx (2000 + yy)
              have h8 := hmx (1900 + yy)
              unfold shy
              split <;> omega
            show (_ : Option Value) = some (.int (iI (if 1970 ≤ shy (yrN N + 50) yy then some (shy (yrN N + 50) yy) else none))) ∧ _
            rw [if_neg hy]
            exact And.intro rfl rfl
      · skip
        have c17 : ¬ (y < 1970) := fun z => c17 ((nI_ltI (a := y) (b := 1970) (by omega) (by omega)).mpr z)
        refine And.intro (by decide) ?_
        refine And.intro (fun c22 => ?_) (fun c22 => ?_)
        · skip
          have c22 : ∀ yy, two = some yy → y % 100 = yy := by
            intro yy e9
            have c22 : nI y - nI y / (100 : Int32) * (100 : Int32) = iI two := c22
            rw [mod100 (by omega), e9] at c22
            exact (nI_eq (by omega) (by have := htw yy e9; omega)).mp c22
          refine vx_go hC hFt hini (vx_ends hC hr hlk) jc_Mo_shortYear 25 (by decide) rfl ?_
          refine And.intro (fun c26 => ?_) (fun c26 => ?_)
          · skip
            refine vx_go hC hFt hini (vx_ends hC hr hlk) jc_Mo_shortYear 30 (by decide) rfl ?_
            refine vx_go hC hFt hini (vx_ends hC hr hlk) jc_Mo_shortYear 33 (by decide) rfl ?_
            refine And.intro (trivial) (And.intro ?_ (And.intro (Nat.le_refl _) (Nat.le_refl _)))
            have h2 : two = none := by
              cases two with
              | none => rfl
              | some yy => exact absurd c26 (nI_pos (by have := htw yy rfl; omega))
            rw [h2]
            exact And.intro rfl rfl
          · skip
            refine And.intro (fun c29 => ?_) (fun c29 => ?_)
            · skip
              have c29 : 1970 ≤ y := (nI_leI (a := 1970) (by omega) (by omega)).mp c29
              refine vx_go hC hFt hini (vx_ends hC hr hlk) jc_Mo_shortYear 32 (by decide) rfl ?_
              refine And.intro (trivial) (And.intro ?_ (And.intro (Nat.le_refl _) (Nat.le_refl _)))
              obtain ⟨yy, rfl⟩ : ∃ yy, two = some yy := by
                cases two with
                | none => exact absurd (show iI none < 0 by decide) c26
                | some yy => exact ⟨yy, rfl⟩
              have htw := htw yy rfl
              have hmx := hmx yy rfl
              have hy : y = shy (yrN N + 50) yy := by
                have h9 := hmx (2000 + yy)
                unfold shy
                split <;> (have := c22 yy rfl; omega)
              show (_ : Option Value) = some (.int (iI (if 1970 ≤ shy (yrN N + 50) yy then some (shy (yrN N + 50) yy) else none))) ∧ _
              rw [← hy, if_pos c29]
              exact And.intro rfl rfl
            · skip
              have c29 : ¬ 1970 ≤ y := fun z => c29 ((nI_leI (a := 1970) (by omega) (by omega)).mpr z)
              refine vx_go hC hFt hini (vx_ends hC hr hlk) jc_Mo_shortYear 33 (by decide) rfl ?_
              refine And.intro (trivial) (And.intro ?_ (And.intro (Nat.le_refl _) (Nat.le_refl _)))
              obtain ⟨yy, rfl⟩ : ∃ yy, two = some yy := by
                cases two with
                | none => exact absurd (show iI none < 0 by decide) c26
                | some yy => exact ⟨yy, rfl⟩
              have htw := htw yy rfl
              have hmx := hmx yy rfl
              omega
        · skip
          have c22 : ∀ yy, two = some yy → ¬ y % 100 = yy := by
            intro yy e9 z
            exact c22 (show nI y - nI y / (100 : Int32) * (100 : Int32) = iI two by rw [mod100 (by omega), e9, z]; rfl)
          refine Vx.subL (lv' := [(0, .ref h), (1, .int (iI two)), (2, .int (nI y + (-1)))]) [1, 2, 0] rfl ?_
          obtain ⟨y2, rfl⟩ : ∃ y2, y = y2 + 1 := ⟨y - 1, by omega⟩
          rw [nI_dec]
          exact ih y2 (by omega) (by omega) (fun yy e9 z z1 z2 => by
            rcases Nat.lt_or_ge (y2 + 1) z with z3 | z3
            · exact hmx yy e9 z z3 z2
            · rw [show z = y2 + 1 by omega]; exact c22 yy e9)
