/-! THE REFERENCE: tokens, digits, weights, by program (wip/whole/gen/p32.py) -/
theorem md_sub13 {sc : Nat → Int32} {ps : Nat} (h12 : sc 12 = nI ps) : upd sc 13 (sc 12) = upd (upd sc 13 (nI ps)) 12 (nI ps) := by rw [h12, upd_same (f := upd sc 13 (nI ps)) (k := 12) ((pk_un (by decide)).trans h12)]
/-- after a digit 0 or 1 (c): the digits of a weight from ps on, each worth u; none where one must be 0 and isn't -/
def wlp (T : List Nat) (c : Nat) : Nat → Nat → Nat → Nat → Option (Nat × Nat)
  | 0, _, v, ps => some (v, ps)
  | n + 1, u, v, ps => if 0 < u ∧ isDg (T.getD ps 0) = true then (if c = 49 ∧ 48 < T.getD ps 0 then none else wlp T c n (u / 10) (v + u * (T.getD ps 0 - 48)) (ps + 1)) else some (v, ps)
/-- a weight's number from ps on: its thousandths and the place behind it -/
def wgt (T : List Nat) (ps : Nat) : Option (Nat × Nat) := if T.getD ps 0 = 48 ∨ T.getD ps 0 = 49 then (if T.getD (ps + 1) 0 = 46 then wlp T (T.getD ps 0) 4 100 (1000 * (T.getD ps 0 - 48)) (ps + 2) else some (1000 * (T.getD ps 0 - 48), ps + 1)) else none
set_option maxRecDepth 100000 in
set_option maxHeartbeats 4000000 in
theorem c_Mo_token (l : Launch) (D : va_G) (tys : List (ClassId × FieldType)) (tc : Nat → ClassId) (hty : ∀ i : Nat, i < 4 → tys[i]? = some (tc i, vx_ty i)) (h : Nat) (ar : Nat → Nat) (now : Int64) (sc : Nat → Int32) (ai : Nat → Nat → Int32) (al : Nat → Nat → Int64) (F : Nat) (T : List Nat) (ps : Nat) (hM : mdS sc ai F T ps) : Kt l y_Mo_token (yw y_Mo_token b_Mo_token 1 (some .boolean)) 2 41 0 0 D cls tys (fun _ _ _ => True) [.ref h] (mdW tc h ar now sc ai al) (fun r w => r = some (.int (bI (decide (ps < (pz T ps isTk))))) ∧ w = mdW tc h ar now (upd (upd (upd sc 13 (nI ps)) 12 (nI (pz T ps isTk))) 14 (nI (pz T ps isTk))) ai al) := by
  refine Kt.of ro_true (by decide) rfl hty (Nat.le_of_ble_eq_true rfl) ?_
  intro p e s m args below meth c0 A hC hr hlk hnm hF
  have hFt : vx_Ft y_Mo_token.cls (yw y_Mo_token b_Mo_token 1 (some .boolean)) cls cty ft_Mo := ft_of (fun w h => List.mem_cons_of_mem _ h) fl_Mo_in ft_Mo_b
  have hini : false = true → meth.name = "<init>" := fun h => by cases h
  obtain ⟨hF8, h11, hlenT, htx, hT, h12, hps⟩ := id hM
  have hTl := hT.1
  refine vx_gon hC hFt hini (vx_ends hC hr hlk) jc_Mo_token 0 4 (by decide) rfl ?_
  refine And.intro rfl ?_
  refine And.intro rfl (And.intro (And.intro rfl rfl) ?_)
  generalize hPF : (pz T ps isTk) = PF
  refine Vx.eqs rfl rfl rfl (w2 := mdW tc h ar now (upd (upd sc 13 (nI ps)) 12 (nI ps)) ai al) (by rw [← md_sub13 h12]; rfl) ?_
  have hM0 := hM
  have hps0 := hps
  clear hM h12
  obtain ⟨pp, hpp⟩ : ∃ pp : Nat, pp = ps := ⟨_, rfl⟩
  have hge : ps ≤ pp := by omega
  rw [← hpp] at hPF hps
  refine Vx.eqs rfl rfl rfl (w2 := mdW tc h ar now (upd (upd sc 13 (nI ps)) 12 (nI pp)) ai al) (by rw [hpp]) ?_
  clear hpp
  induction hn : T.length - pp using Nat.strongRecOn generalizing pp with
  | _ n ih =>
    refine vx_go hC hFt hini (vx_ends hC hr hlk) jc_Mo_token 4 (by decide) rfl ?_
    refine mo_call hC (c_Mo_next l D tys tc hty h ar now (upd (upd sc 13 (nI ps)) 12 (nI pp)) ai al F T pp ((hM0.ot (by decide) (by decide)).at hps)) wm_Mo_next wl_Mo_115 wi_Mo_next ws_Mo_Mo_next ⟨by decide, by decide⟩ rfl rfl (Nat.le_of_ble_eq_true rfl) ⟨Nat.zero_le _, Nat.zero_le _⟩ (fun r' w1 hp => ?_)
    obtain ⟨rfl, rfl⟩ := hp
    refine mo_calls hC (c_Mo_isToken l D tys tc hty (T.getD pp 0) (T_lt hT pp)) wm_Mo_isToken wl_Mo_129 wt_Mo_isToken ⟨by decide, by decide⟩ rfl rfl (Nat.le_of_ble_eq_true rfl) ⟨Nat.zero_le _, Nat.zero_le _⟩ (fun r' hp => ?_)
    subst hp
    refine And.intro (fun c7 => ?_) (fun c7 => ?_)
    · skip
      have c7 : isTk (T.getD pp 0) = false := bI_eq c7
      refine vx_go hC hFt hini (vx_ends hC hr hlk) jc_Mo_token 15 (by decide) rfl ?_
      refine And.intro rfl ?_
      refine And.intro rfl (And.intro (And.intro rfl rfl) ?_)
      refine And.intro rfl ?_
      refine And.intro rfl ?_
      refine And.intro (fun c23 => ?_) (fun c23 => ?_)
      · skip
        have c23 := (nI_leI (a := pp) (b := ps) (by omega) (by omega)).mp c23
        refine vx_go hC hFt hini (vx_ends hC hr hlk) jc_Mo_token 26 (by decide) rfl ?_
        refine And.intro (rfl) (And.intro ?_ (And.intro (Nat.le_refl _) (Nat.le_refl _)))
        rw [← hPF, pz_f (q := isTk) c7, decide_eq_false (by omega)]
        exact And.intro rfl rfl
      · skip
        have c23 : ¬ (pp ≤ ps) := fun z => c23 ((nI_leI (a := pp) (b := ps) (by omega) (by omega)).mpr z)
        refine vx_go hC hFt hini (vx_ends hC hr hlk) jc_Mo_token 27 (by decide) rfl ?_
        refine And.intro (rfl) (And.intro ?_ (And.intro (Nat.le_refl _) (Nat.le_refl _)))
        rw [← hPF, pz_f (q := isTk) c7, decide_eq_true (by omega)]
        exact And.intro rfl rfl
    · skip
      have c7 : isTk (T.getD pp 0) = true := bI_ne c7
      have hin := T_in (T := T) (k := pp) (fun z => by rw [z, tk_0] at c7; cases c7)
      refine And.intro rfl ?_
      refine And.intro rfl ?_
      refine And.intro rfl (And.intro (And.intro rfl rfl) ?_)
      refine Vx.eqs rfl rfl rfl (show _ = mdW tc h ar now (upd (upd sc 13 (nI ps)) 12 (nI pp + 1)) ai al from rfl) ?_
      rw [nI_1]
      exact ih (T.length - (pp + 1)) (by omega) (pp + 1) (by omega) (by rw [← hPF, pz_t c7 hin]) (by omega) rfl
set_option maxRecDepth 100000 in
set_option maxHeartbeats 4000000 in
theorem c_Mo_digits (l : Launch) (D : va_G) (tys : List (ClassId × FieldType)) (tc : Nat → ClassId) (hty : ∀ i : Nat, i < 4 → tys[i]? = some (tc i, vx_ty i)) (h : Nat) (ar : Nat → Nat) (now : Int64) (sc : Nat → Int32) (ai : Nat → Nat → Int32) (al : Nat → Nat → Int64) (F : Nat) (T : List Nat) (ps : Nat) (hM : mdS sc ai F T ps) (mn : Nat) (hmn : mn < 100) : Kt l y_Mo_digits (yw y_Mo_digits b_Mo_digits 4 (some .int)) 2 41 0 0 D cls tys (fun _ _ _ => True) [.ref h, .int (nI mn)] (mdW tc h ar now sc ai al) (fun r w => r = some (.int (iI (dgq T mn 0 ps).1)) ∧ w = mdW tc h ar now (upd sc 12 (nI (dgq T mn 0 ps).2)) ai al) := by
  refine Kt.of ro_true (by decide) rfl hty (Nat.le_of_ble_eq_true rfl) ?_
  intro p e s m args below meth c0 A hC hr hlk hnm hF
  have hFt : vx_Ft y_Mo_digits.cls (yw y_Mo_digits b_Mo_digits 4 (some .int)) cls cty ft_Mo := ft_of (fun w h => List.mem_cons_of_mem _ h) fl_Mo_in ft_Mo_b
  have hini : false = true → meth.name = "<init>" := fun h => by cases h
  obtain ⟨hF8, h11, hlenT, htx, hT, h12, hps⟩ := id hM
  have hTl := hT.1
  refine vx_gon hC hFt hini (vx_ends hC hr hlk) jc_Mo_digits 0 4 (by decide) rfl ?_
  generalize hres : dgq T mn 0 ps = RES
  refine Vx.subL (lv' := [(0, .ref h), (1, .int (nI mn)), (2, .int (nI 0)), (3, .int (nI 0))]) [2, 3, 1, 0] rfl ?_
  obtain ⟨a, ha⟩ : ∃ a : Nat, a = 0 := ⟨_, rfl⟩
  obtain ⟨i, hi⟩ : ∃ i : Nat, i = 0 := ⟨_, rfl⟩
  obtain ⟨k, hk⟩ : ∃ k : Nat, k = mn := ⟨_, rfl⟩
  obtain ⟨pp, hpp⟩ : ∃ pp : Nat, pp = ps := ⟨_, rfl⟩
  have hik : i + k = mn := by omega
  refine Vx.eqs rfl (lv2 := [(0, .ref h), (1, .int (nI mn)), (2, .int (nI a)), (3, .int (nI i))]) (by rw [ha, hi]) rfl (w2 := mdW tc h ar now (upd sc 12 (nI pp)) ai al) (by rw [hpp, upd_same h12]) ?_
  replace hres : dgq T k a pp = RES := by rw [hk, ha, hpp]; exact hres
  have hM0 := hM
  rw [← hpp] at hps
  clear ha hi hk hpp hM h12
  induction k using Nat.strongRecOn generalizing pp a i with
  | _ k ih =>
    refine vx_go hC hFt hini (vx_ends hC hr hlk) jc_Mo_digits 4 (by decide) rfl ?_
    refine And.intro (fun c6 => ?_) (fun c6 => ?_)
    · skip
      have c6 := (nI_leI (a := mn) (b := i) (by omega) (by omega)).mp c6
      obtain rfl : k = 0 := by omega
      refine vx_go hC hFt hini (vx_ends hC hr hlk) jc_Mo_digits 30 (by decide) rfl ?_
      refine And.intro (trivial) (And.intro ?_ (And.intro (Nat.le_refl _) (Nat.le_refl _)))
      rw [← hres]
      exact And.intro rfl rfl
    · skip
      have c6 : ¬ (mn ≤ i) := fun z => c6 ((nI_leI (a := mn) (b := i) (by omega) (by omega)).mpr z)
      obtain ⟨k2, rfl⟩ : ∃ k2, k = k2 + 1 := ⟨k - 1, by omega⟩
      refine mo_call hC (c_Mo_next l D tys tc hty h ar now (upd sc 12 (nI pp)) ai al F T pp (hM0.at hps)) wm_Mo_next wl_Mo_115 wi_Mo_next ws_Mo_Mo_next ⟨by decide, by decide⟩ rfl rfl (Nat.le_of_ble_eq_true rfl) ⟨Nat.zero_le _, Nat.zero_le _⟩ (fun r' w1 hp => ?_)
      obtain ⟨rfl, rfl⟩ := hp
      refine mo_calls hC (c_Mo_isDigit l D tys tc hty (T.getD pp 0) (T_lt hT pp)) wm_Mo_isDigit wl_Mo_119 wt_Mo_isDigit ⟨by decide, by decide⟩ rfl rfl (Nat.le_of_ble_eq_true rfl) ⟨Nat.zero_le _, Nat.zero_le _⟩ (fun r' hp => ?_)
      subst hp
      refine And.intro (fun c10 => ?_) (fun c10 => ?_)
      · skip
        have c10 : isDg (T.getD pp 0) = true := bI_ne c10
        have hdg := dg_in c10
        have hin := T_in (T := T) (k := pp) (by omega)
        refine vx_go hC hFt hini (vx_ends hC hr hlk) jc_Mo_digits 13 (by decide) rfl ?_
        refine mo_call hC (c_Mo_next l D tys tc hty h ar now (upd sc 12 (nI pp)) ai al F T pp (hM0.at hps)) wm_Mo_next wl_Mo_115 wi_Mo_next ws_Mo_Mo_next ⟨by decide, by decide⟩ rfl rfl (Nat.le_of_ble_eq_true rfl) ⟨Nat.zero_le _, Nat.zero_le _⟩ (fun r' w1 hp => ?_)
        obtain ⟨rfl, rfl⟩ := hp
        refine And.intro rfl ?_
        refine And.intro rfl ?_
        refine And.intro rfl (And.intro (And.intro rfl rfl) ?_)
        refine Vx.subL (lv' := [(0, .ref h), (1, .int (nI mn)), (2, .int ((10 : Int32) * nI a + nI (T.getD pp 0) - 48)), (3, .int (nI i + 1))]) [2, 3, 1, 0] rfl ?_
        refine Vx.eqs rfl rfl rfl (show _ = mdW tc h ar now (upd sc 12 (nI pp + 1)) ai al from rfl) ?_
        rw [ten_add (by omega), nI_1, nI_1]
        exact ih k2 (by omega) (10 * a + T.getD pp 0 - 48) (i + 1) (pp + 1) (by omega) (by omega) (by rw [← hres]; simp only [dgq, c10, if_true])
      · skip
        have c10 : isDg (T.getD pp 0) = false := bI_eq c10
        refine And.intro (trivial) (And.intro ?_ (And.intro (Nat.le_refl _) (Nat.le_refl _)))
        rw [← hres]
        simp only [dgq, c10]
        exact And.intro rfl rfl
