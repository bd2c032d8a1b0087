/-! THE REFERENCE: zone, rests of names, padded days, times, by program (wip/whole/gen/p46.py) -/
def gmtL : List Nat := [32, 71, 77, 84]
def rstL (wd : Nat) : List Nat := if wd = 2 then [115, 100, 97, 121] else if wd = 3 then [110, 101, 115, 100, 97, 121] else if wd = 4 then [114, 115, 100, 97, 121] else if wd = 6 then [117, 114, 100, 97, 121] else [100, 97, 121]
theorem tt_cons {T W : List Nat} {ps c : Nat} (hc : 0 < c) : tt (c :: W) (T.drop ps) = if T.getD ps 0 = c then tt W (T.drop (ps + 1)) else (false, T.drop ps) := by
  rw [tt, pk_at hc]
  by_cases h : T.getD ps 0 = c
  · rw [if_pos h, if_pos h]
  · rw [if_neg h, if_neg h]
/-- a day, its tens perhaps a space -/
def pday (rs : List Nat) : Option (Nat × List Nat) := if (pk 32 rs).1 = true then (match dgs 1 0 (pk 32 rs).2 with
    | (some d, r) => some (d, r)
    | (none, _) => none) else match dgs 2 0 rs with
    | (some d, r) => if d < 10 then none else some (d, r)
    | (none, _) => none
/-- a time of the day, in seconds -/
def clk (rs : List Nat) : Option (Nat × List Nat) := match dgs 2 0 rs with
  | (none, _) => none
  | (some h, r) => if 23 < h then none else match pk 58 r with
    | (false, _) => none
    | (true, r) => match dgs 2 0 r with
      | (none, _) => none
      | (some m, r) => if 59 < m then none else match pk 58 r with
        | (false, _) => none
        | (true, r) => match dgs 2 0 r with
          | (none, _) => none
          | (some s, r) => if 59 < s then none else some (3600 * h + 60 * m + s, r)
set_option maxRecDepth 100000 in
set_option maxHeartbeats 4000000 in
theorem c_Mo_zone (l : Launch) (D : va_G) (tys : List (ClassId × FieldType)) (tc : Nat → ClassId) (hty : ∀ i : Nat, i < 4 → tys[i]? = some (tc i, vx_ty i)) (h : Nat) (ar : Nat → Nat) (now : Int64) (sc : Nat → Int32) (ai : Nat → Nat → Int32) (al : Nat → Nat → Int64) (F : Nat) (T : List Nat) (ps : Nat) (hM : mdS sc ai F T ps) (hp3 : ps ≤ 300) : Kt l y_Mo_zone (yw y_Mo_zone b_Mo_zone 1 (some .boolean)) 3 63 0 0 D cls tys (fun _ _ _ => True) [.ref h] (mdW tc h ar now sc ai al) (fun r w => bP tc h ar now sc ai al T (ps + 4) (tt gmtL (T.drop ps)) r w) := by
  refine Kt.of ro_true (by decide) rfl hty (Nat.le_of_ble_eq_true rfl) ?_
  intro p e s m args below meth c0 A hC hr hlk hnm hF
  have hFt : vx_Ft y_Mo_zone.cls (yw y_Mo_zone b_Mo_zone 1 (some .boolean)) cls cty ft_Mo := ft_of (fun w h => List.mem_cons_of_mem _ h) fl_Mo_in ft_Mo_b
  have hini : false = true → meth.name = "<init>" := fun h => by cases h
  obtain ⟨hF8, h11, hlenT, htx, hT, h12, hps⟩ := id hM
  have hTl := hT.1
  refine vx_go hC hFt hini (vx_ends hC hr hlk) jc_Mo_zone 0 (by decide) rfl ?_
  refine mo_call hC (c_Mo_take l D tys tc hty h ar now sc ai al F T ps hM 32 (by decide)) wm_Mo_take wl_Mo_153 wi_Mo_take ws_Mo_Mo_take ⟨by decide, by decide⟩ rfl rfl (Nat.le_of_ble_eq_true rfl) ⟨Nat.zero_le _, Nat.zero_le _⟩ (fun r' w1 hp => ?_)
  obtain ⟨rfl, rfl⟩ := hp
  refine And.intro (fun c3 => ?_) (fun c3 => ?_)
  · skip
    have c3 : ¬ T.getD (ps) 0 = 32 := of_decide_eq_false (bI_eq c3)
    refine vx_go hC hFt hini (vx_ends hC hr hlk) jc_Mo_zone 18 (by decide) rfl ?_
    refine And.intro (rfl) (And.intro ?_ (And.intro (Nat.le_refl _) (Nat.le_refl _)))
    rw [gmtL]
    rw [tt_cons (by decide), if_neg c3]
    exact ⟨rfl, _, ps, rfl, gq.refl.upd (by decide), rfl, by rw [if_neg c3]; rfl, Nat.le_add_right _ _, (fun z => by cases z)⟩
  · skip
    have c3 : T.getD (ps) 0 = 32 := of_decide_eq_true (bI_ne c3)
    rw [if_pos c3]
    refine mo_call hC (c_Mo_take l D tys tc hty h ar now (upd sc 12 (nI (ps + 1))) ai al F T (ps + 1) (hM.at (p2 := ps + 1) (by omega)) 71 (by decide)) wm_Mo_take wl_Mo_153 wi_Mo_take ws_Mo_Mo_take ⟨by decide, by decide⟩ rfl rfl (Nat.le_of_ble_eq_true rfl) ⟨Nat.zero_le _, Nat.zero_le _⟩ (fun r' w1 hp => ?_)
    obtain ⟨rfl, rfl⟩ := hp
    refine And.intro (fun c7 => ?_) (fun c7 => ?_)
    · skip
      have c7 : ¬ T.getD (ps + 1) 0 = 71 := of_decide_eq_false (bI_eq c7)
      refine vx_go hC hFt hini (vx_ends hC hr hlk) jc_Mo_zone 18 (by decide) rfl ?_
      refine And.intro (rfl) (And.intro ?_ (And.intro (Nat.le_refl _) (Nat.le_refl _)))
      rw [gmtL]
      rw [tt_cons (by decide), if_pos c3]
      rw [tt_cons (by decide), if_neg c7]
      exact ⟨rfl, _, ps + 1, rfl, ((gq.refl.upd (k := 12) (by decide)).upd (k := 12) (by decide)), rfl, by rw [if_neg c7]; rfl, by omega, (fun z => by cases z)⟩
    · skip
      have c7 : T.getD (ps + 1) 0 = 71 := of_decide_eq_true (bI_ne c7)
      rw [if_pos c7]
      refine mo_call hC (c_Mo_take l D tys tc hty h ar now (upd (upd sc 12 (nI (ps + 1))) 12 (nI (ps + 2))) ai al F T (ps + 2) ((hM.at (p2 := ps + 1) (by omega)).at (p2 := ps + 2) (by omega)) 77 (by decide)) wm_Mo_take wl_Mo_153 wi_Mo_take ws_Mo_Mo_take ⟨by decide, by decide⟩ rfl rfl (Nat.le_of_ble_eq_true rfl) ⟨Nat.zero_le _, Nat.zero_le _⟩ (fun r' w1 hp => ?_)
      obtain ⟨rfl, rfl⟩ := hp
      refine And.intro (fun c11 => ?_) (fun c11 => ?_)
      · skip
        have c11 : ¬ T.getD (ps + 2) 0 = 77 := of_decide_eq_false (bI_eq c11)
        refine vx_go hC hFt hini (vx_ends hC hr hlk) jc_Mo_zone 18 (by decide) rfl ?_
        refine And.intro (rfl) (And.intro ?_ (And.intro (Nat.le_refl _) (Nat.le_refl _)))
        rw [gmtL]
        rw [tt_cons (by decide), if_pos c3]
        rw [tt_cons (by decide), if_pos c7]
        rw [tt_cons (by decide), if_neg c11]
        exact ⟨rfl, _, ps + 2, rfl, (((gq.refl.upd (k := 12) (by decide)).upd (k := 12) (by decide)).upd (k := 12) (by decide)), rfl, by rw [if_neg c11]; rfl, by omega, (fun z => by cases z)⟩
      · skip
        have c11 : T.getD (ps + 2) 0 = 77 := of_decide_eq_true (bI_ne c11)
        rw [if_pos c11]
        refine mo_call hC (c_Mo_take l D tys tc hty h ar now (upd (upd (upd sc 12 (nI (ps + 1))) 12 (nI (ps + 2))) 12 (nI (ps + 3))) ai al F T (ps + 3) (((hM.at (p2 := ps + 1) (by omega)).at (p2 := ps + 2) (by omega)).at (p2 := ps + 3) (by omega)) 84 (by decide)) wm_Mo_take wl_Mo_153 wi_Mo_take ws_Mo_Mo_take ⟨by decide, by decide⟩ rfl rfl (Nat.le_of_ble_eq_true rfl) ⟨Nat.zero_le _, Nat.zero_le _⟩ (fun r' w1 hp => ?_)
        obtain ⟨rfl, rfl⟩ := hp
        refine And.intro (fun c15 => ?_) (fun c15 => ?_)
        · skip
          have c15 : ¬ T.getD (ps + 3) 0 = 84 := of_decide_eq_false (bI_eq c15)
          refine vx_go hC hFt hini (vx_ends hC hr hlk) jc_Mo_zone 18 (by decide) rfl ?_
          refine And.intro (rfl) (And.intro ?_ (And.intro (Nat.le_refl _) (Nat.le_refl _)))
          rw [gmtL]
          rw [tt_cons (by decide), if_pos c3]
          rw [tt_cons (by decide), if_pos c7]
          rw [tt_cons (by decide), if_pos c11]
          rw [tt_cons (by decide), if_neg c15]
          exact ⟨rfl, _, ps + 3, rfl, ((((gq.refl.upd (k := 12) (by decide)).upd (k := 12) (by decide)).upd (k := 12) (by decide)).upd (k := 12) (by decide)), rfl, by rw [if_neg c15]; rfl, by omega, (fun z => by cases z)⟩
        · skip
          have c15 : T.getD (ps + 3) 0 = 84 := of_decide_eq_true (bI_ne c15)
          refine vx_go hC hFt hini (vx_ends hC hr hlk) jc_Mo_zone 19 (by decide) rfl ?_
          refine And.intro (rfl) (And.intro ?_ (And.intro (Nat.le_refl _) (Nat.le_refl _)))
          rw [gmtL]
          rw [tt_cons (by decide), if_pos c3]
          rw [tt_cons (by decide), if_pos c7]
          rw [tt_cons (by decide), if_pos c11]
          rw [tt_cons (by decide), if_pos c15]
          exact ⟨rfl, _, ps + 4, rfl, ((((gq.refl.upd (k := 12) (by decide)).upd (k := 12) (by decide)).upd (k := 12) (by decide)).upd (k := 12) (by decide)), rfl, by rw [if_pos c15]; rfl, Nat.le_refl _, fun _ => ⟨rfl, T_in (T := T) (k := ps + 3) (by omega)⟩⟩
set_option maxRecDepth 100000 in
set_option maxHeartbeats 4000000 in
theorem c_Mo_paddedDay (l : Launch) (D : va_G) (tys : List (ClassId × FieldType)) (tc : Nat → ClassId) (hty : ∀ i : Nat, i < 4 → tys[i]? = some (tc i, vx_ty i)) (h : Nat) (ar : Nat → Nat) (now : Int64) (sc : Nat → Int32) (ai : Nat → Nat → Int32) (al : Nat → Nat → Int64) (F : Nat) (T : List Nat) (ps : Nat) (hM : mdS sc ai F T ps) (hp3 : ps ≤ 300) : Kt l y_Mo_paddedDay (yw y_Mo_paddedDay b_Mo_paddedDay 2 (some .int)) 3 64 0 0 D cls tys (fun _ _ _ => True) [.ref h] (mdW tc h ar now sc ai al) (fun r w => nP tc h ar now sc ai al T (ps + 2) (fun k => k) (pday (T.drop ps)) r w) := by
  refine Kt.of ro_true (by decide) rfl hty (Nat.le_of_ble_eq_true rfl) ?_
  intro p e s m args below meth c0 A hC hr hlk hnm hF
  have hFt : vx_Ft y_Mo_paddedDay.cls (yw y_Mo_paddedDay b_Mo_paddedDay 2 (some .int)) cls cty ft_Mo := ft_of (fun w h => List.mem_cons_of_mem _ h) fl_Mo_in ft_Mo_b
  have hini : false = true → meth.name = "<init>" := fun h => by cases h
  obtain ⟨hF8, h11, hlenT, htx, hT, h12, hps⟩ := id hM
  have hTl := hT.1
  refine vx_go hC hFt hini (vx_ends hC hr hlk) jc_Mo_paddedDay 0 (by decide) rfl ?_
  refine mo_call hC (c_Mo_take l D tys tc hty h ar now sc ai al F T ps hM 32 (by decide)) wm_Mo_take wl_Mo_153 wi_Mo_take ws_Mo_Mo_take ⟨by decide, by decide⟩ rfl rfl (Nat.le_of_ble_eq_true rfl) ⟨Nat.zero_le _, Nat.zero_le _⟩ (fun r' w1 hp => ?_)
  obtain ⟨rfl, rfl⟩ := hp
  refine And.intro (fun c3 => ?_) (fun c3 => ?_)
  · skip
    have c3 : ¬ T.getD ps 0 = 32 := of_decide_eq_false (bI_eq c3)
    rw [if_neg c3]
    refine vx_go hC hFt hini (vx_ends hC hr hlk) jc_Mo_paddedDay 8 (by decide) rfl ?_
    refine mo_call hC (c_Mo_digits l D tys tc hty h ar now (upd sc 12 (nI ps)) ai al F T ps (hM.at (by omega)) 2 (by decide)) wm_Mo_digits wl_Mo_254 wi_Mo_digits ws_Mo_Mo_digits ⟨by decide, by decide⟩ rfl rfl (Nat.le_of_ble_eq_true rfl) ⟨Nat.zero_le _, Nat.zero_le _⟩ (fun r' w1 hp => ?_)
    obtain ⟨rfl, rfl⟩ := hp
    refine And.intro (fun c14 => ?_) (fun c14 => ?_)
    · skip
      have c14 : ∃ d, (dgq T 2 0 ps).1 = some d ∧ 10 ≤ d := by
        cases hd : (dgq T 2 0 ps).1 with
        | none => rw [hd] at c14; exact absurd c14 (by decide)
        | some d => rw [hd] at c14; exact ⟨d, rfl, (nI_leI (a := 10) (by omega) (by have := (dgq_v hd).1; omega)).mp c14⟩
      refine vx_go hC hFt hini (vx_ends hC hr hlk) jc_Mo_paddedDay 17 (by decide) rfl ?_
      refine And.intro (trivial) (And.intro ?_ (And.intro (Nat.le_refl _) (Nat.le_refl _)))
      have hpd : pday (T.drop ps) = (match dgs 2 0 (T.drop ps) with
          | (some d, r) => if d < 10 then none else some (d, r)
          | (none, _) => none) := by rw [pday, pk_at (by decide), if_neg c3, if_neg (fun z => by cases z)]
      rw [hpd, dgq_dgs]
      have hle := dgq_le (T := T) (k := 2) (a := 0) (ps := ps)
      obtain ⟨d, hd, hd10⟩ := c14
      rw [hd]
      show nP _ _ _ _ _ _ _ _ _ _ (if d < 10 then none else some (d, T.drop (dgq T 2 0 ps).2)) _ _
      rw [if_neg (by omega)]
      exact ⟨rfl, _, (dgq T 2 0 ps).2, rfl, (gq.refl.upd (k := 12) (by decide)).upd (k := 12) (by decide), rfl, rfl, by omega, (fun u hu => by obtain rfl := Option.some.inj hu; exact ⟨rfl, (dgq_v hd).2 (by decide)⟩)⟩
    · skip
      have c14 : ∀ d, (dgq T 2 0 ps).1 = some d → d < 10 := by
        intro d hd
        rw [hd] at c14
        exact Nat.lt_of_not_le (fun z => c14 ((nI_leI (a := 10) (by omega) (by have := (dgq_v hd).1; omega)).mpr z))
      refine vx_go hC hFt hini (vx_ends hC hr hlk) jc_Mo_paddedDay 18 (by decide) rfl ?_
      refine And.intro (trivial) (And.intro ?_ (And.intro (Nat.le_refl _) (Nat.le_refl _)))
      have hpd : pday (T.drop ps) = (match dgs 2 0 (T.drop ps) with
          | (some d, r) => if d < 10 then none else some (d, r)
          | (none, _) => none) := by rw [pday, pk_at (by decide), if_neg c3, if_neg (fun z => by cases z)]
      rw [hpd, dgq_dgs]
      have hle := dgq_le (T := T) (k := 2) (a := 0) (ps := ps)
      cases hd : (dgq T 2 0 ps).1 with
      | none => exact ⟨rfl, _, (dgq T 2 0 ps).2, rfl, (gq.refl.upd (k := 12) (by decide)).upd (k := 12) (by decide), rfl, rfl, by omega, (fun u hu => by cases hu)⟩
      | some d =>
        show nP _ _ _ _ _ _ _ _ _ _ (if d < 10 then none else some (d, T.drop (dgq T 2 0 ps).2)) _ _
        rw [if_pos (c14 d hd)]
        exact ⟨rfl, _, (dgq T 2 0 ps).2, rfl, (gq.refl.upd (k := 12) (by decide)).upd (k := 12) (by decide), rfl, rfl, by omega, (fun u hu => by cases hu)⟩
  · skip
    have c3 : T.getD ps 0 = 32 := of_decide_eq_true (bI_ne c3)
    rw [if_pos c3]
    refine mo_call hC (c_Mo_digits l D tys tc hty h ar now (upd sc 12 (nI (ps + 1))) ai al F T (ps + 1) (hM.at (by omega)) 1 (by decide)) wm_Mo_digits wl_Mo_254 wi_Mo_digits ws_Mo_Mo_digits ⟨by decide, by decide⟩ rfl rfl (Nat.le_of_ble_eq_true rfl) ⟨Nat.zero_le _, Nat.zero_le _⟩ (fun r' w1 hp => ?_)
    obtain ⟨rfl, rfl⟩ := hp
    refine And.intro (trivial) (And.intro ?_ (And.intro (Nat.le_refl _) (Nat.le_refl _)))
    have hpd : pday (T.drop ps) = (match dgs 1 0 (T.drop (ps + 1)) with
        | (some d, r) => some (d, r)
        | (none, _) => none) := by rw [pday, pk_at (by decide), if_pos c3, if_pos rfl]
    rw [hpd, dgq_dgs]
    have hle := dgq_le (T := T) (k := 1) (a := 0) (ps := ps + 1)
    cases hd : (dgq T 1 0 (ps + 1)).1 with
    | none => exact ⟨rfl, _, (dgq T 1 0 (ps + 1)).2, rfl, (gq.refl.upd (k := 12) (by decide)).upd (k := 12) (by decide), rfl, rfl, by omega, (fun u hu => by cases hu)⟩
    | some d => exact ⟨rfl, _, (dgq T 1 0 (ps + 1)).2, rfl, (gq.refl.upd (k := 12) (by decide)).upd (k := 12) (by decide), rfl, rfl, by omega, (fun u hu => by obtain rfl := Option.some.inj hu; exact ⟨rfl, (dgq_v hd).2 (by decide)⟩)⟩
theorem clk_inv {T : List Nat} {ps : Nat} {u : Nat × List Nat} (h : clk (T.drop ps) = some u) : ∃ v1 v2 v3, (dgq T 2 0 ps).1 = some v1 ∧ (dgq T 2 0 ((dgq T 2 0 ps).2 + 1)).1 = some v2 ∧ (dgq T 2 0 ((dgq T 2 0 ((dgq T 2 0 ps).2 + 1)).2 + 1)).1 = some v3 ∧ T.getD (dgq T 2 0 ps).2 0 = 58 ∧ T.getD (dgq T 2 0 ((dgq T 2 0 ps).2 + 1)).2 0 = 58 ∧ v1 ≤ 23 ∧ v2 ≤ 59 ∧ v3 ≤ 59 := by
  rw [clk, dgq_dgs] at h
  split at h
  · cases h
  · rename_i h1 r1 e1
    obtain ⟨e1, rfl⟩ := Prod.mk.inj e1
    split at h
    · cases h
    · rename_i hh1
      rw [pk_at (by decide)] at h
      by_cases k1 : T.getD (dgq T 2 0 ps).2 0 = 58
      · rw [if_pos k1] at h
        replace h : (match dgs 2 0 (T.drop ((dgq T 2 0 ps).2 + 1)) with
          | (none, _) => none
          | (some m, r) => if 59 < m then none else match pk 58 r with
            | (false, _) => none
            | (true, r) => match dgs 2 0 r with
              | (none, _) => none
              | (some s, r) => if 59 < s then none else some (3600 * h1 + 60 * m + s, r)) = some u := h
        rw [dgq_dgs] at h
        split at h
        · cases h
        · rename_i h2 r2 e2
          obtain ⟨e2, rfl⟩ := Prod.mk.inj e2
          split at h
          · cases h
          · rename_i hh2
            rw [pk_at (by decide)] at h
            by_cases k2 : T.getD (dgq T 2 0 ((dgq T 2 0 ps).2 + 1)).2 0 = 58
            · rw [if_pos k2] at h
              replace h : (match dgs 2 0 (T.drop ((dgq T 2 0 ((dgq T 2 0 ps).2 + 1)).2 + 1)) with
                | (none, _) => none
                | (some s, r) => if 59 < s then none else some (3600 * h1 + 60 * h2 + s, r)) = some u := h
              rw [dgq_dgs] at h
              split at h
              · cases h
              · rename_i h3 r3 e3
                obtain ⟨e3, rfl⟩ := Prod.mk.inj e3
                split at h
                · cases h
                · rename_i hh3
                  exact ⟨h1, h2, h3, congrArg Prod.fst e1, congrArg Prod.fst e2, congrArg Prod.fst e3, k1, k2, by omega, by omega, by omega⟩
            · rw [if_neg k2] at h; cases h
      · rw [if_neg k1] at h; cases h
set_option maxRecDepth 100000 in
set_option maxHeartbeats 4000000 in
theorem c_Mo_time (l : Launch) (D : va_G) (tys : List (ClassId × FieldType)) (tc : Nat → ClassId) (hty : ∀ i : Nat, i < 4 → tys[i]? = some (tc i, vx_ty i)) (h : Nat) (ar : Nat → Nat) (now : Int64) (sc : Nat → Int32) (ai : Nat → Nat → Int32) (al : Nat → Nat → Int64) (F : Nat) (T : List Nat) (ps : Nat) (hM : mdS sc ai F T ps) (hp3 : ps ≤ 300) : Kt l y_Mo_time (yw y_Mo_time b_Mo_time 5 (some .int)) 3 64 0 0 D cls tys (fun _ _ _ => True) [.ref h] (mdW tc h ar now sc ai al) (fun r w => nP tc h ar now sc ai al T (ps + 8) (fun k => k) (clk (T.drop ps)) r w) := by
  refine Kt.of ro_true (by decide) rfl hty (Nat.le_of_ble_eq_true rfl) ?_
  intro p e s m args below meth c0 A hC hr hlk hnm hF
  have hFt : vx_Ft y_Mo_time.cls (yw y_Mo_time b_Mo_time 5 (some .int)) cls cty ft_Mo := ft_of (fun w h => List.mem_cons_of_mem _ h) fl_Mo_in ft_Mo_b
  have hini : false = true → meth.name = "<init>" := fun h => by cases h
  obtain ⟨hF8, h11, hlenT, htx, hT, h12, hps⟩ := id hM
  have hTl := hT.1
  rcases hd1 : dgq T 2 0 ps with ⟨o1, p1⟩
  obtain ⟨q1, hq1⟩ : ∃ q1, (if T.getD p1 0 = 58 then p1 + 1 else p1) = q1 := ⟨_, rfl⟩
  obtain ⟨b1, hb1⟩ : ∃ b1, decide (T.getD p1 0 = 58) = b1 := ⟨_, rfl⟩
  rcases hd2 : dgq T 2 0 q1 with ⟨o2, p2⟩
  obtain ⟨q2, hq2⟩ : ∃ q2, (if T.getD p2 0 = 58 then p2 + 1 else p2) = q2 := ⟨_, rfl⟩
  obtain ⟨b2, hb2⟩ : ∃ b2, decide (T.getD p2 0 = 58) = b2 := ⟨_, rfl⟩
  rcases hd3 : dgq T 2 0 q2 with ⟨o3, p3⟩
  have l1 := dgq_le (T := T) (k := 2) (a := 0) (ps := ps)
  rw [hd1] at l1
  have l2 := dgq_le (T := T) (k := 2) (a := 0) (ps := q1)
  rw [hd2] at l2
  have l3 := dgq_le (T := T) (k := 2) (a := 0) (ps := q2)
  rw [hd3] at l3
  simp only [] at l1 l2 l3
  have k1 : q1 ≤ p1 + 1 := by rw [← hq1]; split <;> omega
  have k2 : q2 ≤ p2 + 1 := by rw [← hq2]; split <;> omega
  refine vx_cut (α := Bool) 38 (fun u => (b1 && b2) = u) (fun u => [(0, .ref h), (1, .int (iI o1)), (2, .int (bI u)), (3, .int (iI o2))]) (fun u => []) (fun u => mdW tc h ar now (upd (upd (upd (upd sc 12 (nI p1)) 12 (nI q1)) 12 (nI p2)) 12 (nI q2)) ai al) (fun hJ22 => ?_) ?_
  · skip
    refine vx_gon hC hFt hini (vx_ends hC hr hlk) jc_Mo_time 0 22 (by decide) rfl ?_
    refine mo_call hC (c_Mo_digits l D tys tc hty h ar now sc ai al F T ps hM 2 (by decide)) wm_Mo_digits wl_Mo_254 wi_Mo_digits ws_Mo_Mo_digits ⟨by decide, by decide⟩ rfl rfl (Nat.le_of_ble_eq_true rfl) ⟨Nat.zero_le _, Nat.zero_le _⟩ (fun r' w1 hp => ?_)
    obtain ⟨rfl, rfl⟩ := hp
    rw [hd1]
    refine mo_call hC (c_Mo_take l D tys tc hty h ar now (upd sc 12 (nI p1)) ai al F T p1 (hM.at (p2 := p1) (by omega)) 58 (by decide)) wm_Mo_take wl_Mo_153 wi_Mo_take ws_Mo_Mo_take ⟨by decide, by decide⟩ rfl rfl (Nat.le_of_ble_eq_true rfl) ⟨Nat.zero_le _, Nat.zero_le _⟩ (fun r' w1 hp => ?_)
    obtain ⟨rfl, rfl⟩ := hp
    rw [hq1, hb1]
    refine mo_call hC (c_Mo_digits l D tys tc hty h ar now (upd (upd sc 12 (nI p1)) 12 (nI q1)) ai al F T q1 ((hM.at (p2 := p1) (by omega)).at (p2 := q1) (by omega)) 2 (by decide)) wm_Mo_digits wl_Mo_254 wi_Mo_digits ws_Mo_Mo_digits ⟨by decide, by decide⟩ rfl rfl (Nat.le_of_ble_eq_true rfl) ⟨Nat.zero_le _, Nat.zero_le _⟩ (fun r' w1 hp => ?_)
    obtain ⟨rfl, rfl⟩ := hp
    rw [hd2]
    refine mo_call hC (c_Mo_take l D tys tc hty h ar now (upd (upd (upd sc 12 (nI p1)) 12 (nI q1)) 12 (nI p2)) ai al F T p2 (((hM.at (p2 := p1) (by omega)).at (p2 := q1) (by omega)).at (p2 := p2) (by omega)) 58 (by decide)) wm_Mo_take wl_Mo_153 wi_Mo_take ws_Mo_Mo_take ⟨by decide, by decide⟩ rfl rfl (Nat.le_of_ble_eq_true rfl) ⟨Nat.zero_le _, Nat.zero_le _⟩ (fun r' w1 hp => ?_)
    obtain ⟨rfl, rfl⟩ := hp
    rw [hq2, hb2]
    refine And.intro (fun c15 => ?_) (fun c15 => ?_)
    · skip
      have c15 : b2 = false := bI_eq c15
      refine vx_gon hC hFt hini (vx_ends hC hr hlk) jc_Mo_time 20 2 (by decide) rfl ?_
      refine Vx.subL (lv' := [(0, .ref h), (1, .int (iI o1)), (2, .int (bI false)), (3, .int (iI o2))]) [3, 2, 0, 1] rfl ?_
      exact hJ22 false (by rw [c15]; exact Bool.and_false _)
    · skip
      have c15 : b2 = true := bI_ne c15
      refine And.intro (fun c17 => ?_) (fun c17 => ?_)
      · skip
        have c17 : b1 = false := bI_eq c17
        refine vx_gon hC hFt hini (vx_ends hC hr hlk) jc_Mo_time 20 2 (by decide) rfl ?_
        refine Vx.subL (lv' := [(0, .ref h), (1, .int (iI o1)), (2, .int (bI false)), (3, .int (iI o2))]) [3, 2, 0, 1] rfl ?_
        exact hJ22 false (by rw [c17]; rfl)
      · skip
        have c17 : b1 = true := bI_ne c17
        refine vx_gon hC hFt hini (vx_ends hC hr hlk) jc_Mo_time 21 1 (by decide) rfl ?_
        refine Vx.subL (lv' := [(0, .ref h), (1, .int (iI o1)), (2, .int (bI true)), (3, .int (iI o2))]) [3, 2, 0, 1] rfl ?_
        exact hJ22 true (by rw [c15, c17]; rfl)
  · intro good hgood
    refine vx_go hC hFt hini (vx_ends hC hr hlk) jc_Mo_time 22 (by decide) rfl ?_
    refine mo_call hC (c_Mo_digits l D tys tc hty h ar now (upd (upd (upd (upd sc 12 (nI p1)) 12 (nI q1)) 12 (nI p2)) 12 (nI q2)) ai al F T q2 ((((hM.at (p2 := p1) (by omega)).at (p2 := q1) (by omega)).at (p2 := p2) (by omega)).at (p2 := q2) (by omega)) 2 (by decide)) wm_Mo_digits wl_Mo_254 wi_Mo_digits ws_Mo_Mo_digits ⟨by decide, by decide⟩ rfl rfl (Nat.le_of_ble_eq_true rfl) ⟨Nat.zero_le _, Nat.zero_le _⟩ (fun r' w1 hp => ?_)
    obtain ⟨rfl, rfl⟩ := hp
    rw [hd3]
    refine And.intro (fun c27 => ?_) (fun c27 => ?_)
    · skip
      have c27 : good = false := bI_eq c27
      refine vx_go hC hFt hini (vx_ends hC hr hlk) jc_Mo_time 53 (by decide) rfl ?_
      refine And.intro (trivial) (And.intro ?_ (And.intro (Nat.le_refl _) (Nat.le_refl _)))
      have hk : clk (T.drop ps) = none := by
        cases hk : clk (T.drop ps) with
        | none => rfl
        | some u =>
          exfalso
          obtain ⟨w1, w2, w3, g1, g2, g3, g4, g5, g6, g7, g8⟩ := clk_inv hk
          rw [hd1] at g1 g4 g2 g5 g3
          obtain rfl : o1 = some w1 := g1
          have hb1t : b1 = true := by rw [← hb1]; exact decide_eq_true g4
          subst hb1t
          have e1 : q1 = p1 + 1 := by rw [← hq1, if_pos (of_decide_eq_true hb1)]
          replace g2 : (dgq T 2 0 (p1 + 1)).1 = some w2 := g2
          replace g5 : T.getD (dgq T 2 0 (p1 + 1)).2 0 = 58 := g5
          replace g3 : (dgq T 2 0 ((dgq T 2 0 (p1 + 1)).2 + 1)).1 = some w3 := g3
          rw [← e1, hd2] at g2 g5 g3
          obtain rfl : o2 = some w2 := g2
          have hb2t : b2 = true := by rw [← hb2]; exact decide_eq_true g5
          subst hb2t
          have e2 : q2 = p2 + 1 := by rw [← hq2, if_pos (of_decide_eq_true hb2)]
          replace g3 : (dgq T 2 0 (p2 + 1)).1 = some w3 := g3
          rw [← e2, hd3] at g3
          obtain rfl : o3 = some w3 := g3
          rw [c27] at hgood; cases hgood
      rw [hk]
      exact ⟨rfl, (upd (upd (upd (upd (upd sc 12 (nI p1)) 12 (nI q1)) 12 (nI p2)) 12 (nI q2)) 12 (nI p3)), p3, rfl, (((((gq.refl.upd (k := 12) (by decide)).upd (k := 12) (by decide)).upd (k := 12) (by decide)).upd (k := 12) (by decide)).upd (k := 12) (by decide)), rfl, rfl, by omega, (fun u hu => by cases hu)⟩
    · skip
      have c27 : good = true := bI_ne c27
      rw [c27] at hgood
      refine And.intro (fun c29 => ?_) (fun c29 => ?_)
      · skip
        refine vx_go hC hFt hini (vx_ends hC hr hlk) jc_Mo_time 53 (by decide) rfl ?_
        refine And.intro (trivial) (And.intro ?_ (And.intro (Nat.le_refl _) (Nat.le_refl _)))
        have hk : clk (T.drop ps) = none := by
          cases hk : clk (T.drop ps) with
          | none => rfl
          | some u =>
            exfalso
            obtain ⟨w1, w2, w3, g1, g2, g3, g4, g5, g6, g7, g8⟩ := clk_inv hk
            rw [hd1] at g1 g4 g2 g5 g3
            obtain rfl : o1 = some w1 := g1
            have hb1t : b1 = true := by rw [← hb1]; exact decide_eq_true g4
            subst hb1t
            have e1 : q1 = p1 + 1 := by rw [← hq1, if_pos (of_decide_eq_true hb1)]
            replace g2 : (dgq T 2 0 (p1 + 1)).1 = some w2 := g2
            replace g5 : T.getD (dgq T 2 0 (p1 + 1)).2 0 = 58 := g5
            replace g3 : (dgq T 2 0 ((dgq T 2 0 (p1 + 1)).2 + 1)).1 = some w3 := g3
            rw [← e1, hd2] at g2 g5 g3
            obtain rfl : o2 = some w2 := g2
            have hb2t : b2 = true := by rw [← hb2]; exact decide_eq_true g5
            subst hb2t
            have e2 : q2 = p2 + 1 := by rw [← hq2, if_pos (of_decide_eq_true hb2)]
            replace g3 : (dgq T 2 0 (p2 + 1)).1 = some w3 := g3
            rw [← e2, hd3] at g3
            obtain rfl : o3 = some w3 := g3
            exact absurd c29 (nI_pos (by omega))
        rw [hk]
        exact ⟨rfl, (upd (upd (upd (upd (upd sc 12 (nI p1)) 12 (nI q1)) 12 (nI p2)) 12 (nI q2)) 12 (nI p3)), p3, rfl, (((((gq.refl.upd (k := 12) (by decide)).upd (k := 12) (by decide)).upd (k := 12) (by decide)).upd (k := 12) (by decide)).upd (k := 12) (by decide)), rfl, rfl, by omega, (fun u hu => by cases hu)⟩
      · skip
        obtain ⟨v1, rfl⟩ : ∃ v1, o1 = some v1 := by
          cases o1 with
          | none => exact absurd (show iI none < 0 by decide) c29
          | some v1 => exact ⟨v1, rfl⟩
        have bv1 : v1 < 100 := by have := (dgq_v (T := T) (k := 2) (a := 0) (ps := ps) (v := v1) (by rw [hd1])).1; omega
        refine And.intro (fun c32 => ?_) (fun c32 => ?_)
        · skip
          refine vx_go hC hFt hini (vx_ends hC hr hlk) jc_Mo_time 53 (by decide) rfl ?_
          refine And.intro (trivial) (And.intro ?_ (And.intro (Nat.le_refl _) (Nat.le_refl _)))
          have hk : clk (T.drop ps) = none := by
            cases hk : clk (T.drop ps) with
            | none => rfl
            | some u =>
              exfalso
              obtain ⟨w1, w2, w3, g1, g2, g3, g4, g5, g6, g7, g8⟩ := clk_inv hk
              rw [hd1] at g1 g4 g2 g5 g3
              obtain rfl := Option.some.inj (show some v1 = some w1 from g1)
              have hb1t : b1 = true := by rw [← hb1]; exact decide_eq_true g4
              subst hb1t
              have e1 : q1 = p1 + 1 := by rw [← hq1, if_pos (of_decide_eq_true hb1)]
              replace g2 : (dgq T 2 0 (p1 + 1)).1 = some w2 := g2
              replace g5 : T.getD (dgq T 2 0 (p1 + 1)).2 0 = 58 := g5
              replace g3 : (dgq T 2 0 ((dgq T 2 0 (p1 + 1)).2 + 1)).1 = some w3 := g3
              rw [← e1, hd2] at g2 g5 g3
              obtain rfl : o2 = some w2 := g2
              have hb2t : b2 = true := by rw [← hb2]; exact decide_eq_true g5
              subst hb2t
              have e2 : q2 = p2 + 1 := by rw [← hq2, if_pos (of_decide_eq_true hb2)]
              replace g3 : (dgq T 2 0 (p2 + 1)).1 = some w3 := g3
              rw [← e2, hd3] at g3
              obtain rfl : o3 = some w3 := g3
              exact absurd ((nI_ltI (a := 23) (by omega) (by omega)).mp c32) (by omega)
          rw [hk]
          exact ⟨rfl, (upd (upd (upd (upd (upd sc 12 (nI p1)) 12 (nI q1)) 12 (nI p2)) 12 (nI q2)) 12 (nI p3)), p3, rfl, (((((gq.refl.upd (k := 12) (by decide)).upd (k := 12) (by decide)).upd (k := 12) (by decide)).upd (k := 12) (by decide)).upd (k := 12) (by decide)), rfl, rfl, by omega, (fun u hu => by cases hu)⟩
        · skip
          have c32 : ¬ (23 < v1) := fun z => c32 ((nI_ltI (a := 23) (by omega) (by omega)).mpr z)
          refine And.intro (fun c34 => ?_) (fun c34 => ?_)
          · skip
            refine vx_go hC hFt hini (vx_ends hC hr hlk) jc_Mo_time 53 (by decide) rfl ?_
            refine And.intro (trivial) (And.intro ?_ (And.intro (Nat.le_refl _) (Nat.le_refl _)))
            have hk : clk (T.drop ps) = none := by
              cases hk : clk (T.drop ps) with
              | none => rfl
              | some u =>
                exfalso
                obtain ⟨w1, w2, w3, g1, g2, g3, g4, g5, g6, g7, g8⟩ := clk_inv hk
                rw [hd1] at g1 g4 g2 g5 g3
                obtain rfl := Option.some.inj (show some v1 = some w1 from g1)
                have hb1t : b1 = true := by rw [← hb1]; exact decide_eq_true g4
                subst hb1t
                have e1 : q1 = p1 + 1 := by rw [← hq1, if_pos (of_decide_eq_true hb1)]
                replace g2 : (dgq T 2 0 (p1 + 1)).1 = some w2 := g2
                replace g5 : T.getD (dgq T 2 0 (p1 + 1)).2 0 = 58 := g5
                replace g3 : (dgq T 2 0 ((dgq T 2 0 (p1 + 1)).2 + 1)).1 = some w3 := g3
                rw [← e1, hd2] at g2 g5 g3
                obtain rfl : o2 = some w2 := g2
                have hb2t : b2 = true := by rw [← hb2]; exact decide_eq_true g5
                subst hb2t
                have e2 : q2 = p2 + 1 := by rw [← hq2, if_pos (of_decide_eq_true hb2)]
                replace g3 : (dgq T 2 0 (p2 + 1)).1 = some w3 := g3
                rw [← e2, hd3] at g3
                obtain rfl : o3 = some w3 := g3
                exact absurd c34 (nI_pos (by omega))
            rw [hk]
            exact ⟨rfl, (upd (upd (upd (upd (upd sc 12 (nI p1)) 12 (nI q1)) 12 (nI p2)) 12 (nI q2)) 12 (nI p3)), p3, rfl, (((((gq.refl.upd (k := 12) (by decide)).upd (k := 12) (by decide)).upd (k := 12) (by decide)).upd (k := 12) (by decide)).upd (k := 12) (by decide)), rfl, rfl, by omega, (fun u hu => by cases hu)⟩
          · skip
            obtain ⟨v2, rfl⟩ : ∃ v2, o2 = some v2 := by
              cases o2 with
              | none => exact absurd (show iI none < 0 by decide) c34
              | some v2 => exact ⟨v2, rfl⟩
            have bv2 : v2 < 100 := by have := (dgq_v (T := T) (k := 2) (a := 0) (ps := q1) (v := v2) (by rw [hd2])).1; omega
            refine And.intro (fun c37 => ?_) (fun c37 => ?_)
            · skip
              refine vx_go hC hFt hini (vx_ends hC hr hlk) jc_Mo_time 53 (by decide) rfl ?_
              refine And.intro (trivial) (And.intro ?_ (And.intro (Nat.le_refl _) (Nat.le_refl _)))
              have hk : clk (T.drop ps) = none := by
                cases hk : clk (T.drop ps) with
                | none => rfl
                | some u =>
                  exfalso
                  obtain ⟨w1, w2, w3, g1, g2, g3, g4, g5, g6, g7, g8⟩ := clk_inv hk
                  rw [hd1] at g1 g4 g2 g5 g3
                  obtain rfl := Option.some.inj (show some v1 = some w1 from g1)
                  have hb1t : b1 = true := by rw [← hb1]; exact decide_eq_true g4
                  subst hb1t
                  have e1 : q1 = p1 + 1 := by rw [← hq1, if_pos (of_decide_eq_true hb1)]
                  replace g2 : (dgq T 2 0 (p1 + 1)).1 = some w2 := g2
                  replace g5 : T.getD (dgq T 2 0 (p1 + 1)).2 0 = 58 := g5
                  replace g3 : (dgq T 2 0 ((dgq T 2 0 (p1 + 1)).2 + 1)).1 = some w3 := g3
                  rw [← e1, hd2] at g2 g5 g3
                  obtain rfl := Option.some.inj (show some v2 = some w2 from g2)
                  have hb2t : b2 = true := by rw [← hb2]; exact decide_eq_true g5
                  subst hb2t
                  have e2 : q2 = p2 + 1 := by rw [← hq2, if_pos (of_decide_eq_true hb2)]
                  replace g3 : (dgq T 2 0 (p2 + 1)).1 = some w3 := g3
                  rw [← e2, hd3] at g3
                  obtain rfl : o3 = some w3 := g3
                  exact absurd ((nI_ltI (a := 59) (by omega) (by omega)).mp c37) (by omega)
              rw [hk]
              exact ⟨rfl, (upd (upd (upd (upd (upd sc 12 (nI p1)) 12 (nI q1)) 12 (nI p2)) 12 (nI q2)) 12 (nI p3)), p3, rfl, (((((gq.refl.upd (k := 12) (by decide)).upd (k := 12) (by decide)).upd (k := 12) (by decide)).upd (k := 12) (by decide)).upd (k := 12) (by decide)), rfl, rfl, by omega, (fun u hu => by cases hu)⟩
            · skip
              have c37 : ¬ (59 < v2) := fun z => c37 ((nI_ltI (a := 59) (by omega) (by omega)).mpr z)
              refine And.intro (fun c39 => ?_) (fun c39 => ?_)
              · skip
                refine vx_go hC hFt hini (vx_ends hC hr hlk) jc_Mo_time 53 (by decide) rfl ?_
                refine And.intro (trivial) (And.intro ?_ (And.intro (Nat.le_refl _) (Nat.le_refl _)))
                have hk : clk (T.drop ps) = none := by
                  cases hk : clk (T.drop ps) with
                  | none => rfl
                  | some u =>
                    exfalso
                    obtain ⟨w1, w2, w3, g1, g2, g3, g4, g5, g6, g7, g8⟩ := clk_inv hk
                    rw [hd1] at g1 g4 g2 g5 g3
                    obtain rfl := Option.some.inj (show some v1 = some w1 from g1)
                    have hb1t : b1 = true := by rw [← hb1]; exact decide_eq_true g4
                    subst hb1t
                    have e1 : q1 = p1 + 1 := by rw [← hq1, if_pos (of_decide_eq_true hb1)]
                    replace g2 : (dgq T 2 0 (p1 + 1)).1 = some w2 := g2
                    replace g5 : T.getD (dgq T 2 0 (p1 + 1)).2 0 = 58 := g5
                    replace g3 : (dgq T 2 0 ((dgq T 2 0 (p1 + 1)).2 + 1)).1 = some w3 := g3
                    rw [← e1, hd2] at g2 g5 g3
                    obtain rfl := Option.some.inj (show some v2 = some w2 from g2)
                    have hb2t : b2 = true := by rw [← hb2]; exact decide_eq_true g5
                    subst hb2t
                    have e2 : q2 = p2 + 1 := by rw [← hq2, if_pos (of_decide_eq_true hb2)]
                    replace g3 : (dgq T 2 0 (p2 + 1)).1 = some w3 := g3
                    rw [← e2, hd3] at g3
                    obtain rfl : o3 = some w3 := g3
                    exact absurd c39 (nI_pos (by omega))
                rw [hk]
                exact ⟨rfl, (upd (upd (upd (upd (upd sc 12 (nI p1)) 12 (nI q1)) 12 (nI p2)) 12 (nI q2)) 12 (nI p3)), p3, rfl, (((((gq.refl.upd (k := 12) (by decide)).upd (k := 12) (by decide)).upd (k := 12) (by decide)).upd (k := 12) (by decide)).upd (k := 12) (by decide)), rfl, rfl, by omega, (fun u hu => by cases hu)⟩
              · skip
                obtain ⟨v3, rfl⟩ : ∃ v3, o3 = some v3 := by
                  cases o3 with
                  | none => exact absurd (show iI none < 0 by decide) c39
                  | some v3 => exact ⟨v3, rfl⟩
                have bv3 : v3 < 100 := by have := (dgq_v (T := T) (k := 2) (a := 0) (ps := q2) (v := v3) (by rw [hd3])).1; omega
                refine And.intro (fun c42 => ?_) (fun c42 => ?_)
                · skip
                  refine vx_go hC hFt hini (vx_ends hC hr hlk) jc_Mo_time 53 (by decide) rfl ?_
                  refine And.intro (trivial) (And.intro ?_ (And.intro (Nat.le_refl _) (Nat.le_refl _)))
                  have hk : clk (T.drop ps) = none := by
                    cases hk : clk (T.drop ps) with
                    | none => rfl
                    | some u =>
                      exfalso
                      obtain ⟨w1, w2, w3, g1, g2, g3, g4, g5, g6, g7, g8⟩ := clk_inv hk
                      rw [hd1] at g1 g4 g2 g5 g3
                      obtain rfl := Option.some.inj (show some v1 = some w1 from g1)
                      have hb1t : b1 = true := by rw [← hb1]; exact decide_eq_true g4
                      subst hb1t
                      have e1 : q1 = p1 + 1 := by rw [← hq1, if_pos (of_decide_eq_true hb1)]
                      replace g2 : (dgq T 2 0 (p1 + 1)).1 = some w2 := g2
                      replace g5 : T.getD (dgq T 2 0 (p1 + 1)).2 0 = 58 := g5
                      replace g3 : (dgq T 2 0 ((dgq T 2 0 (p1 + 1)).2 + 1)).1 = some w3 := g3
                      rw [← e1, hd2] at g2 g5 g3
                      obtain rfl := Option.some.inj (show some v2 = some w2 from g2)
                      have hb2t : b2 = true := by rw [← hb2]; exact decide_eq_true g5
                      subst hb2t
                      have e2 : q2 = p2 + 1 := by rw [← hq2, if_pos (of_decide_eq_true hb2)]
                      replace g3 : (dgq T 2 0 (p2 + 1)).1 = some w3 := g3
                      rw [← e2, hd3] at g3
                      obtain rfl := Option.some.inj (show some v3 = some w3 from g3)
                      exact absurd ((nI_ltI (a := 59) (by omega) (by omega)).mp c42) (by omega)
                  rw [hk]
                  exact ⟨rfl, (upd (upd (upd (upd (upd sc 12 (nI p1)) 12 (nI q1)) 12 (nI p2)) 12 (nI q2)) 12 (nI p3)), p3, rfl, (((((gq.refl.upd (k := 12) (by decide)).upd (k := 12) (by decide)).upd (k := 12) (by decide)).upd (k := 12) (by decide)).upd (k := 12) (by decide)), rfl, rfl, by omega, (fun u hu => by cases hu)⟩
                · skip
                  have c42 : ¬ (59 < v3) := fun z => c42 ((nI_ltI (a := 59) (by omega) (by omega)).mpr z)
                  refine vx_go hC hFt hini (vx_ends hC hr hlk) jc_Mo_time 54 (by decide) rfl ?_
                  refine And.intro (trivial) (And.intro ?_ (And.intro (Nat.le_refl _) (Nat.le_refl _)))
                  have hk : clk (T.drop ps) = some (3600 * v1 + 60 * v2 + v3, T.drop p3) := by
                    obtain ⟨rfl, rfl⟩ : b1 = true ∧ b2 = true := by cases b1 <;> cases b2 <;> simp_all
                    have e1 : q1 = p1 + 1 := by rw [← hq1, if_pos (of_decide_eq_true hb1)]
                    have e2 : q2 = p2 + 1 := by rw [← hq2, if_pos (of_decide_eq_true hb2)]
                    rw [clk, dgq_dgs, hd1]
                    show (if 23 < v1 then _ else _) = _
                    rw [if_neg c32, pk_at (by decide), if_pos (of_decide_eq_true hb1), ← e1]
                    show (match dgs 2 0 (T.drop q1) with | (none, _) => none | (some m, r) => _) = _
                    rw [dgq_dgs, hd2]
                    show (if 59 < v2 then _ else _) = _
                    rw [if_neg c37, pk_at (by decide), if_pos (of_decide_eq_true hb2), ← e2]
                    show (match dgs 2 0 (T.drop q2) with | (none, _) => none | (some s, r) => _) = _
                    rw [dgq_dgs, hd3]
                    show (if 59 < v3 then _ else _) = _
                    rw [if_neg c42]
                  rw [hk]
                  refine ⟨?_, (upd (upd (upd (upd (upd sc 12 (nI p1)) 12 (nI q1)) 12 (nI p2)) 12 (nI q2)) 12 (nI p3)), p3, rfl, (((((gq.refl.upd (k := 12) (by decide)).upd (k := 12) (by decide)).upd (k := 12) (by decide)).upd (k := 12) (by decide)).upd (k := 12) (by decide)), rfl, rfl, by omega, (fun u hu => by obtain rfl := Option.some.inj hu; exact ⟨rfl, by have := (dgq_v (T := T) (k := 2) (a := 0) (ps := q2) (v := v3) (by rw [hd3])).2 (by decide); rw [hd3] at this; exact this⟩)⟩
                  show some (Value.int ((3600 : Int32) * nI v1 + (60 : Int32) * nI v2 + nI v3)) = some (Value.int (nI (3600 * v1 + 60 * v2 + v3)))
                  rw [show (3600 : Int32) = nI 3600 from rfl, show (60 : Int32) = nI 60 from rfl, pk_mul, pk_mul, nI_add, nI_add]
