/-! THE REFERENCE: gaps, tokens, lists, digits, by program (wip/whole/gen/p31.py) -/
theorem upd_same {f : Nat → Int32} {k : Nat} {v : Int32} (h : f k = v) : upd f k v = f := by
  funext j
  by_cases e : j = k
  · rw [e, pk_us, h]
  · rw [pk_un e]
theorem upd_upd {f : Nat → Int32} {k : Nat} {v w : Int32} : upd (upd f k v) k w = upd f k w := by
  funext j
  by_cases e : j = k
  · rw [e, pk_us, pk_us]
  · rw [pk_un e, pk_un e, pk_un e]
/-- the place behind all q from ps on -/
def pz (T : List Nat) (ps : Nat) (q : Nat → Bool) : Nat := ps + ((T.drop ps).takeWhile q).length
theorem pz_t {T : List Nat} {ps : Nat} {q : Nat → Bool} (h : q (T.getD ps 0) = true) (hl : ps < T.length) : pz T ps q = pz T (ps + 1) q := by
  unfold pz
  rw [drop_get hl, tw_t h, List.length_cons]
  omega
theorem pz_f {T : List Nat} {ps : Nat} {q : Nat → Bool} (h : q (T.getD ps 0) = false) : pz T ps q = ps := by
  unfold pz
  rcases Nat.lt_or_ge ps T.length with h1 | h1
  · rw [drop_get h1, tw_f h]; rfl
  · rw [drop_end h1]; rfl
theorem pz_le {T : List Nat} {ps M : Nat} {q : Nat → Bool} (h1 : ps ≤ M) (h2 : T.length ≤ M) : pz T ps q ≤ M := by
  unfold pz
  have h3 := (List.takeWhile_sublist (l := T.drop ps) q).length_le
  rw [List.length_drop] at h3
  omega
theorem pz_no {T : List Nat} {ps : Nat} {q : Nat → Bool} (q0 : q 0 = false) : q (T.getD (pz T ps q) 0) = false := by
  induction hn : T.length - ps using Nat.strongRecOn generalizing ps with
  | _ n ih =>
    rcases Nat.lt_or_ge ps T.length with h1 | h1
    · cases h2 : q (T.getD ps 0) with
      | true => rw [pz_t h2 h1]; exact ih _ (by omega) rfl
      | false => rw [pz_f h2]; exact h2
    · have h2 : q (T.getD ps 0) = false := by rw [T_out h1]; exact q0
      rw [pz_f h2]; exact h2
theorem gp_0 : isGp 0 = false := by decide
theorem gc_0 : isGc 0 = false := by decide
theorem tk_0 : isTk 0 = false := by decide
theorem gp_gc {x : Nat} (h : isGp x = true) : isGc x = true := by simp only [isGp, isGc, decide_eq_true_eq] at h ⊢; omega
theorem pz_gpgc {T : List Nat} {ps : Nat} : pz T (pz T ps isGp) isGc = pz T ps isGc := by
  induction hn : T.length - ps using Nat.strongRecOn generalizing ps with
  | _ n ih =>
    rcases Nat.lt_or_ge ps T.length with h1 | h1
    · cases h2 : isGp (T.getD ps 0) with
      | true => rw [pz_t h2 h1, pz_t (gp_gc h2) h1]; exact ih _ (by omega) rfl
      | false => rw [pz_f h2]
    · rw [pz_f (q := isGp) (by rw [T_out h1]; exact gp_0)]
def sepv (T : List Nat) (P : Nat) : Int32 := if T.length ≤ P then 0 else if T.getD P 0 = 44 then 1 else -1
/-- k digits from ps on, behind a -/
def dgq (T : List Nat) : Nat → Nat → Nat → Option Nat × Nat
  | 0, a, ps => (some a, ps)
  | k + 1, a, ps => if isDg (T.getD ps 0) then dgq T k (10 * a + T.getD ps 0 - 48) (ps + 1) else (none, ps)
set_option maxRecDepth 100000 in
set_option maxHeartbeats 4000000 in
theorem c_Mo_gap (l : Launch) (D : va_G) (tys : List (ClassId × FieldType)) (tc : Nat → ClassId) (hty : ∀ i : Nat, i < 4 → tys[i]? = some (tc i, vx_ty i)) (h : Nat) (ar : Nat → Nat) (now : Int64) (sc : Nat → Int32) (ai : Nat → Nat → Int32) (al : Nat → Nat → Int64) (F : Nat) (T : List Nat) (ps : Nat) (hM : mdS sc ai F T ps) : Kt l y_Mo_gap (yw y_Mo_gap b_Mo_gap 1 none) 2 41 0 0 D cls tys (fun _ _ _ => True) [.ref h] (mdW tc h ar now sc ai al) (fun r w => r = none ∧ w = mdW tc h ar now (upd sc 12 (nI (pz T ps isGp))) ai al) := by
  refine Kt.of ro_true (by decide) rfl hty (Nat.le_of_ble_eq_true rfl) ?_
  intro p e s m args below meth c0 A hC hr hlk hnm hF
  have hFt : vx_Ft y_Mo_gap.cls (yw y_Mo_gap b_Mo_gap 1 none) cls cty ft_Mo := ft_of (fun w h => List.mem_cons_of_mem _ h) fl_Mo_in ft_Mo_b
  have hini : false = true → meth.name = "<init>" := fun h => by cases h
  obtain ⟨hF8, h11, hlenT, htx, hT, h12, hps⟩ := id hM
  have hTl := hT.1
  generalize hPF : pz T ps isGp = PF
  refine Vx.eqs rfl rfl rfl (w2 := mdW tc h ar now (upd sc 12 (nI ps)) ai al) (by rw [upd_same h12]) ?_
  have hM0 := hM
  clear hM h12
  generalize hp0 : ps = pp at hPF hps ⊢
  clear hp0
  induction hn : T.length - pp using Nat.strongRecOn generalizing pp with
  | _ n ih =>
    refine vx_go hC hFt hini (vx_ends hC hr hlk) jc_Mo_gap 0 (by decide) rfl ?_
    refine mo_call hC (c_Mo_next l D tys tc hty h ar now (upd sc 12 (nI pp)) ai al F T pp (hM0.at hps)) wm_Mo_next wl_Mo_115 wi_Mo_next ws_Mo_Mo_next ⟨by decide, by decide⟩ rfl rfl (Nat.le_of_ble_eq_true rfl) ⟨Nat.zero_le _, Nat.zero_le _⟩ (fun r' w1 hp => ?_)
    obtain ⟨rfl, rfl⟩ := hp
    refine And.intro (fun c3 => ?_) (fun c3 => ?_)
    · skip
      have c3 : T.getD pp 0 = 32 := (nI_eq (by have := T_lt hT pp; omega) (by omega)).mp c3
      have hin := T_in (T := T) (k := pp) (by omega)
      refine vx_go hC hFt hini (vx_ends hC hr hlk) jc_Mo_gap 8 (by decide) rfl ?_
      refine And.intro rfl ?_
      refine And.intro rfl ?_
      refine And.intro rfl (And.intro (And.intro rfl rfl) ?_)
      refine Vx.eqs rfl rfl rfl (show _ = mdW tc h ar now (upd sc 12 (nI pp + 1)) ai al from rfl) ?_
      rw [nI_1]
      exact ih (T.length - (pp + 1)) (by omega) (pp + 1) (by rw [← hPF, pz_t (by simp only [isGp, decide_eq_true_eq]; omega) hin]) (by omega) rfl
    · skip
      have c3 : ¬ (T.getD pp 0 = 32) := fun z => c3 (by rw [z]; rfl)
      refine mo_call hC (c_Mo_next l D tys tc hty h ar now (upd sc 12 (nI pp)) ai al F T pp (hM0.at hps)) wm_Mo_next wl_Mo_115 wi_Mo_next ws_Mo_Mo_next ⟨by decide, by decide⟩ rfl rfl (Nat.le_of_ble_eq_true rfl) ⟨Nat.zero_le _, Nat.zero_le _⟩ (fun r' w1 hp => ?_)
      obtain ⟨rfl, rfl⟩ := hp
      refine And.intro (fun c7 => ?_) (fun c7 => ?_)
      · skip
        have c7 : ¬ (T.getD pp 0 = 9) := fun z => c7 (by rw [z]; rfl)
        refine vx_go hC hFt hini (vx_ends hC hr hlk) jc_Mo_gap 15 (by decide) rfl ?_
        refine And.intro (trivial) (And.intro ?_ (And.intro (Nat.le_refl _) (Nat.le_refl _)))
        rw [← hPF, pz_f (q := isGp) (by simp only [isGp, decide_eq_false_iff_not]; omega)]
        exact And.intro rfl rfl
      · skip
        have c7 : T.getD pp 0 = 9 := (nI_eq (by have := T_lt hT pp; omega) (by omega)).mp c7
        have hin := T_in (T := T) (k := pp) (by omega)
        refine And.intro rfl ?_
        refine And.intro rfl ?_
        refine And.intro rfl (And.intro (And.intro rfl rfl) ?_)
        refine Vx.eqs rfl rfl rfl (show _ = mdW tc h ar now (upd sc 12 (nI pp + 1)) ai al from rfl) ?_
        rw [nI_1]
        exact ih (T.length - (pp + 1)) (by omega) (pp + 1) (by rw [← hPF, pz_t (by simp only [isGp, decide_eq_true_eq]; omega) hin]) (by omega) rfl
set_option maxRecDepth 100000 in
set_option maxHeartbeats 4000000 in
theorem c_Mo_open (l : Launch) (D : va_G) (tys : List (ClassId × FieldType)) (tc : Nat → ClassId) (hty : ∀ i : Nat, i < 4 → tys[i]? = some (tc i, vx_ty i)) (h : Nat) (ar : Nat → Nat) (now : Int64) (sc : Nat → Int32) (ai : Nat → Nat → Int32) (al : Nat → Nat → Int64) (G : Nat) : Kt l y_Mo_open (yw y_Mo_open b_Mo_open 2 none) 0 0 0 0 D cls tys (fun _ _ _ => True) [.ref h, .int (nI G)] (mdW tc h ar now sc ai al) (fun r w => r = none ∧ w = mdW tc h ar now (upd (upd sc 11 (nI G)) 12 (nI 0)) ai al) := by
  refine Kt.of ro_true (by decide) rfl hty (Nat.le_of_ble_eq_true rfl) ?_
  intro p e s m args below meth c0 A hC hr hlk hnm hF
  have hFt : vx_Ft y_Mo_open.cls (yw y_Mo_open b_Mo_open 2 none) cls cty ft_Mo := ft_of (fun w h => List.mem_cons_of_mem _ h) fl_Mo_in ft_Mo_b
  have hini : false = true → meth.name = "<init>" := fun h => by cases h
  refine vx_go hC hFt hini (vx_ends hC hr hlk) jc_Mo_open 0 (by decide) rfl ?_
  refine And.intro rfl (And.intro (And.intro rfl rfl) ?_)
  refine And.intro rfl (And.intro (And.intro rfl rfl) ?_)
  refine And.intro (trivial) (And.intro ?_ (And.intro (Nat.le_refl _) (Nat.le_refl _)))
  exact And.intro rfl rfl
set_option maxRecDepth 100000 in
set_option maxHeartbeats 4000000 in
theorem c_Mo_there (l : Launch) (D : va_G) (tys : List (ClassId × FieldType)) (tc : Nat → ClassId) (hty : ∀ i : Nat, i < 4 → tys[i]? = some (tc i, vx_ty i)) (h : Nat) (ar : Nat → Nat) (now : Int64) (sc : Nat → Int32) (ai : Nat → Nat → Int32) (al : Nat → Nat → Int64) (G : Nat) (T : List Nat) (hG : G < 8) (hT : isT T) (hlenG : ai 8 G = nI T.length) : Kt l y_Mo_there (yw y_Mo_there b_Mo_there 2 (some .boolean)) 0 0 0 0 D cls tys (fun _ _ _ => True) [.ref h, .int (nI G)] (mdW tc h ar now sc ai al) (fun r w => r = some (.int (bI (decide (0 < T.length)))) ∧ w = (mdW tc h ar now sc ai al)) := by
  refine Kt.of ro_true (by decide) rfl hty (Nat.le_of_ble_eq_true rfl) ?_
  intro p e s m args below meth c0 A hC hr hlk hnm hF
  have hFt : vx_Ft y_Mo_there.cls (yw y_Mo_there b_Mo_there 2 (some .boolean)) cls cty ft_Mo := ft_of (fun w h => List.mem_cons_of_mem _ h) fl_Mo_in ft_Mo_b
  have hini : false = true → meth.name = "<init>" := fun h => by cases h
  refine vx_go hC hFt hini (vx_ends hC hr hlk) jc_Mo_there 0 (by decide) rfl ?_
  refine And.intro rfl ?_
  refine And.intro rfl (And.intro rfl (And.intro (vp_in_nI hG (by decide)) ?_))
  rw [nI_clamp (by omega), hlenG]
  refine And.intro (fun c4 => ?_) (fun c4 => ?_)
  · skip
    have c4 : T.length = 0 := Nat.eq_zero_of_not_pos (fun z => absurd c4 (nI_nle z (by have := hT.1; omega)))
    refine vx_go hC hFt hini (vx_ends hC hr hlk) jc_Mo_there 7 (by decide) rfl ?_
    refine And.intro (rfl) (And.intro ?_ (And.intro (Nat.le_refl _) (Nat.le_refl _)))
    rw [decide_eq_false (by omega)]
    exact And.intro rfl rfl
  · skip
    have c4 : 0 < T.length := Nat.pos_of_ne_zero (fun z => c4 (by rw [z]; exact nI_le (Nat.le_refl 0) (by decide)))
    refine vx_go hC hFt hini (vx_ends hC hr hlk) jc_Mo_there 8 (by decide) rfl ?_
    refine And.intro (rfl) (And.intro ?_ (And.intro (Nat.le_refl _) (Nat.le_refl _)))
    rw [decide_eq_true (by omega)]
    exact And.intro rfl rfl
set_option maxRecDepth 100000 in
set_option maxHeartbeats 4000000 in
theorem c_Mo_separator (l : Launch) (D : va_G) (tys : List (ClassId × FieldType)) (tc : Nat → ClassId) (hty : ∀ i : Nat, i < 4 → tys[i]? = some (tc i, vx_ty i)) (h : Nat) (ar : Nat → Nat) (now : Int64) (sc : Nat → Int32) (ai : Nat → Nat → Int32) (al : Nat → Nat → Int64) (F : Nat) (T : List Nat) (ps : Nat) (hM : mdS sc ai F T ps) : Kt l y_Mo_separator (yw y_Mo_separator b_Mo_separator 1 (some .int)) 3 63 0 0 D cls tys (fun _ _ _ => True) [.ref h] (mdW tc h ar now sc ai al) (fun r w => r = some (.int (sepv T (pz T ps isGp))) ∧ w = mdW tc h ar now (upd sc 12 (nI (if T.getD (pz T ps isGp) 0 = 44 then (pz T ps isGp) + 1 else (pz T ps isGp)))) ai al) := by
  refine Kt.of ro_true (by decide) rfl hty (Nat.le_of_ble_eq_true rfl) ?_
  intro p e s m args below meth c0 A hC hr hlk hnm hF
  have hFt : vx_Ft y_Mo_separator.cls (yw y_Mo_separator b_Mo_separator 1 (some .int)) cls cty ft_Mo := ft_of (fun w h => List.mem_cons_of_mem _ h) fl_Mo_in ft_Mo_b
  have hini : false = true → meth.name = "<init>" := fun h => by cases h
  obtain ⟨hF8, h11, hlenT, htx, hT, h12, hps⟩ := id hM
  have hTl := hT.1
  have hP := pz_le (q := isGp) hps (show T.length ≤ 400 by omega)
  have hMP := hM.at hP
  refine vx_go hC hFt hini (vx_ends hC hr hlk) jc_Mo_separator 0 (by decide) rfl ?_
  refine mo_call hC (c_Mo_gap l D tys tc hty h ar now sc ai al F T ps hM) wm_Mo_gap wl_Mo_156 wi_Mo_gap ws_Mo_Mo_gap ⟨by decide, by decide⟩ rfl rfl (Nat.le_of_ble_eq_true rfl) ⟨Nat.zero_le _, Nat.zero_le _⟩ (fun r' w1 hp => ?_)
  obtain ⟨rfl, rfl⟩ := hp
  refine mo_call hC (c_Mo_ended l D tys tc hty h ar now (upd sc 12 (nI (pz T ps isGp))) ai al F T (pz T ps isGp) hMP) wm_Mo_ended wl_Mo_166 wi_Mo_ended ws_Mo_Mo_ended ⟨by decide, by decide⟩ rfl rfl (Nat.le_of_ble_eq_true rfl) ⟨Nat.zero_le _, Nat.zero_le _⟩ (fun r' w1 hp => ?_)
  obtain ⟨rfl, rfl⟩ := hp
  refine And.intro (fun c4 => ?_) (fun c4 => ?_)
  · skip
    have c4 : ¬ T.length ≤ (pz T ps isGp) := of_decide_eq_false (bI_eq c4)
    refine vx_go hC hFt hini (vx_ends hC hr hlk) jc_Mo_separator 7 (by decide) rfl ?_
    refine mo_call hC (c_Mo_take l D tys tc hty h ar now (upd sc 12 (nI (pz T ps isGp))) ai al F T (pz T ps isGp) hMP 44 (by decide)) wm_Mo_take wl_Mo_153 wi_Mo_take ws_Mo_Mo_take ⟨by decide, by decide⟩ rfl rfl (Nat.le_of_ble_eq_true rfl) ⟨Nat.zero_le _, Nat.zero_le _⟩ (fun r' w1 hp => ?_)
    obtain ⟨rfl, rfl⟩ := hp
    refine And.intro (fun c10 => ?_) (fun c10 => ?_)
    · skip
      have c10 : ¬ T.getD (pz T ps isGp) 0 = 44 := of_decide_eq_false (bI_eq c10)
      refine vx_go hC hFt hini (vx_ends hC hr hlk) jc_Mo_separator 13 (by decide) rfl ?_
      refine And.intro (trivial) (And.intro ?_ (And.intro (Nat.le_refl _) (Nat.le_refl _)))
      rw [sepv, if_neg c4, if_neg c10, if_neg c10, upd_upd]
      exact And.intro rfl rfl
    · skip
      have c10 : T.getD (pz T ps isGp) 0 = 44 := of_decide_eq_true (bI_ne c10)
      refine vx_go hC hFt hini (vx_ends hC hr hlk) jc_Mo_separator 14 (by decide) rfl ?_
      refine And.intro (trivial) (And.intro ?_ (And.intro (Nat.le_refl _) (Nat.le_refl _)))
      rw [sepv, if_neg c4, if_pos c10, if_pos c10, upd_upd]
      exact And.intro rfl rfl
  · skip
    have c4 : T.length ≤ (pz T ps isGp) := of_decide_eq_true (bI_ne c4)
    refine And.intro (trivial) (And.intro ?_ (And.intro (Nat.le_refl _) (Nat.le_refl _)))
    rw [sepv, if_pos c4, if_neg (by rw [T_out c4]; decide)]
    exact And.intro rfl rfl
set_option maxRecDepth 100000 in
set_option maxHeartbeats 4000000 in
theorem c_Mo_semicolon (l : Launch) (D : va_G) (tys : List (ClassId × FieldType)) (tc : Nat → ClassId) (hty : ∀ i : Nat, i < 4 → tys[i]? = some (tc i, vx_ty i)) (h : Nat) (ar : Nat → Nat) (now : Int64) (sc : Nat → Int32) (ai : Nat → Nat → Int32) (al : Nat → Nat → Int64) (F : Nat) (T : List Nat) (ps : Nat) (hM : mdS sc ai F T ps) : Kt l y_Mo_semicolon (yw y_Mo_semicolon b_Mo_semicolon 2 (some .boolean)) 3 63 0 0 D cls tys (fun _ _ _ => True) [.ref h] (mdW tc h ar now sc ai al) (fun r w => r = some (.int (bI (decide (T.getD (pz T ps isGp) 0 = 59)))) ∧ w = mdW tc h ar now (upd sc 12 (nI (if T.getD (pz T ps isGp) 0 = 59 then pz T ((pz T ps isGp) + 1) isGp else ps))) ai al) := by
  refine Kt.of ro_true (by decide) rfl hty (Nat.le_of_ble_eq_true rfl) ?_
  intro p e s m args below meth c0 A hC hr hlk hnm hF
  have hFt : vx_Ft y_Mo_semicolon.cls (yw y_Mo_semicolon b_Mo_semicolon 2 (some .boolean)) cls cty ft_Mo := ft_of (fun w h => List.mem_cons_of_mem _ h) fl_Mo_in ft_Mo_b
  have hini : false = true → meth.name = "<init>" := fun h => by cases h
  obtain ⟨hF8, h11, hlenT, htx, hT, h12, hps⟩ := id hM
  have hTl := hT.1
  have hP := pz_le (q := isGp) hps (show T.length ≤ 400 by omega)
  have hMP := hM.at hP
  refine vx_go hC hFt hini (vx_ends hC hr hlk) jc_Mo_semicolon 0 (by decide) rfl ?_
  refine And.intro rfl ?_
  refine mo_call hC (c_Mo_gap l D tys tc hty h ar now sc ai al F T ps hM) wm_Mo_gap wl_Mo_156 wi_Mo_gap ws_Mo_Mo_gap ⟨by decide, by decide⟩ rfl rfl (Nat.le_of_ble_eq_true rfl) ⟨Nat.zero_le _, Nat.zero_le _⟩ (fun r' w1 hp => ?_)
  obtain ⟨rfl, rfl⟩ := hp
  refine mo_call hC (c_Mo_take l D tys tc hty h ar now (upd sc 12 (nI (pz T ps isGp))) ai al F T (pz T ps isGp) hMP 59 (by decide)) wm_Mo_take wl_Mo_153 wi_Mo_take ws_Mo_Mo_take ⟨by decide, by decide⟩ rfl rfl (Nat.le_of_ble_eq_true rfl) ⟨Nat.zero_le _, Nat.zero_le _⟩ (fun r' w1 hp => ?_)
  obtain ⟨rfl, rfl⟩ := hp
  refine And.intro (fun c8 => ?_) (fun c8 => ?_)
  · skip
    have c8 : ¬ T.getD (pz T ps isGp) 0 = 59 := of_decide_eq_false (bI_eq c8)
    refine vx_go hC hFt hini (vx_ends hC hr hlk) jc_Mo_semicolon 13 (by decide) rfl ?_
    refine And.intro rfl (And.intro (And.intro rfl rfl) ?_)
    refine And.intro (rfl) (And.intro ?_ (And.intro (Nat.le_refl _) (Nat.le_refl _)))
    rw [decide_eq_false c8, if_neg c8, upd_same h12]
    refine And.intro rfl ?_
    rw [show sc = upd sc 12 (sc 12) from (upd_same rfl).symm]
    rfl
  · skip
    have c8 : T.getD (pz T ps isGp) 0 = 59 := of_decide_eq_true (bI_ne c8)
    rw [show (if T.getD (pz T ps isGp) 0 = 59 then (pz T ps isGp) + 1 else (pz T ps isGp)) = (pz T ps isGp) + 1 from if_pos c8, upd_upd]
    have hin := T_in (T := T) (k := (pz T ps isGp)) (by omega)
    have hP1 : (pz T ps isGp) + 1 ≤ 400 := by omega
    refine mo_call hC (c_Mo_gap l D tys tc hty h ar now (upd sc 12 (nI ((pz T ps isGp) + 1))) ai al F T ((pz T ps isGp) + 1) (hM.at hP1)) wm_Mo_gap wl_Mo_156 wi_Mo_gap ws_Mo_Mo_gap ⟨by decide, by decide⟩ rfl rfl (Nat.le_of_ble_eq_true rfl) ⟨Nat.zero_le _, Nat.zero_le _⟩ (fun r' w1 hp => ?_)
    obtain ⟨rfl, rfl⟩ := hp
    refine And.intro (rfl) (And.intro ?_ (And.intro (Nat.le_refl _) (Nat.le_refl _)))
    rw [decide_eq_true c8, if_pos c8, upd_upd]
    exact And.intro rfl rfl
set_option maxRecDepth 100000 in
set_option maxHeartbeats 4000000 in
theorem c_Mo_element (l : Launch) (D : va_G) (tys : List (ClassId × FieldType)) (tc : Nat → ClassId) (hty : ∀ i : Nat, i < 4 → tys[i]? = some (tc i, vx_ty i)) (h : Nat) (ar : Nat → Nat) (now : Int64) (sc : Nat → Int32) (ai : Nat → Nat → Int32) (al : Nat → Nat → Int64) (F : Nat) (T : List Nat) (ps : Nat) (hM : mdS sc ai F T ps) : Kt l y_Mo_element (yw y_Mo_element b_Mo_element 1 (some .boolean)) 3 63 0 0 D cls tys (fun _ _ _ => True) [.ref h] (mdW tc h ar now sc ai al) (fun r w => r = some (.int (bI (decide ((pz T ps isGc) < T.length)))) ∧ w = mdW tc h ar now (upd sc 12 (nI (pz T ps isGc))) ai al) := by
  refine Kt.of ro_true (by decide) rfl hty (Nat.le_of_ble_eq_true rfl) ?_
  intro p e s m args below meth c0 A hC hr hlk hnm hF
  have hFt : vx_Ft y_Mo_element.cls (yw y_Mo_element b_Mo_element 1 (some .boolean)) cls cty ft_Mo := ft_of (fun w h => List.mem_cons_of_mem _ h) fl_Mo_in ft_Mo_b
  have hini : false = true → meth.name = "<init>" := fun h => by cases h
  obtain ⟨hF8, h11, hlenT, htx, hT, h12, hps⟩ := id hM
  have hTl := hT.1
  have hP := pz_le (q := isGp) hps (show T.length ≤ 400 by omega)
  have hMP := hM.at hP
  refine vx_gon hC hFt hini (vx_ends hC hr hlk) jc_Mo_element 0 2 (by decide) rfl ?_
  refine mo_call hC (c_Mo_gap l D tys tc hty h ar now sc ai al F T ps hM) wm_Mo_gap wl_Mo_156 wi_Mo_gap ws_Mo_Mo_gap ⟨by decide, by decide⟩ rfl rfl (Nat.le_of_ble_eq_true rfl) ⟨Nat.zero_le _, Nat.zero_le _⟩ (fun r' w1 hp => ?_)
  obtain ⟨rfl, rfl⟩ := hp
  generalize hPF : (pz T ps isGc) = PF
  have hM0 := hM
  have hng := pz_no (T := T) (ps := ps) gp_0
  replace hPF : pz T (pz T ps isGp) isGc = PF := by rw [pz_gpgc]; exact hPF
  have hps := hP
  clear hM h12 hMP
  generalize hp0 : (pz T ps isGp) = pp at hPF hps hng hP ⊢
  clear hp0
  induction hn : T.length - pp using Nat.strongRecOn generalizing pp with
  | _ n ih =>
    refine vx_go hC hFt hini (vx_ends hC hr hlk) jc_Mo_element 2 (by decide) rfl ?_
    refine mo_call hC (c_Mo_take l D tys tc hty h ar now (upd sc 12 (nI pp)) ai al F T pp (hM0.at hps) 44 (by decide)) wm_Mo_take wl_Mo_153 wi_Mo_take ws_Mo_Mo_take ⟨by decide, by decide⟩ rfl rfl (Nat.le_of_ble_eq_true rfl) ⟨Nat.zero_le _, Nat.zero_le _⟩ (fun r' w1 hp => ?_)
    obtain ⟨rfl, rfl⟩ := hp
    refine And.intro (fun c5 => ?_) (fun c5 => ?_)
    · skip
      have c5 : ¬ T.getD pp 0 = 44 := of_decide_eq_false (bI_eq c5)
      rw [if_neg c5, upd_upd]
      have hgc : isGc (T.getD pp 0) = false := by
        simp only [isGp, decide_eq_false_iff_not] at hng
        simp only [isGc, decide_eq_false_iff_not]
        omega
      refine vx_go hC hFt hini (vx_ends hC hr hlk) jc_Mo_element 9 (by decide) rfl ?_
      refine mo_call hC (c_Mo_ended l D tys tc hty h ar now (upd sc 12 (nI pp)) ai al F T pp (hM0.at hps)) wm_Mo_ended wl_Mo_166 wi_Mo_ended ws_Mo_Mo_ended ⟨by decide, by decide⟩ rfl rfl (Nat.le_of_ble_eq_true rfl) ⟨Nat.zero_le _, Nat.zero_le _⟩ (fun r' w1 hp => ?_)
      obtain ⟨rfl, rfl⟩ := hp
      refine And.intro (fun c11 => ?_) (fun c11 => ?_)
      · skip
        have c11 : T.length ≤ pp := of_decide_eq_true (bI_ne c11)
        refine vx_go hC hFt hini (vx_ends hC hr hlk) jc_Mo_element 14 (by decide) rfl ?_
        refine And.intro (rfl) (And.intro ?_ (And.intro (Nat.le_refl _) (Nat.le_refl _)))
        rw [← hPF, pz_f (q := isGc) hgc, decide_eq_false (by omega)]
        exact And.intro rfl rfl
      · skip
        have c11 : ¬ T.length ≤ pp := of_decide_eq_false (bI_eq c11)
        refine vx_go hC hFt hini (vx_ends hC hr hlk) jc_Mo_element 15 (by decide) rfl ?_
        refine And.intro (rfl) (And.intro ?_ (And.intro (Nat.le_refl _) (Nat.le_refl _)))
        rw [← hPF, pz_f (q := isGc) hgc, decide_eq_true (by omega)]
        exact And.intro rfl rfl
    · skip
      have c5 : T.getD pp 0 = 44 := of_decide_eq_true (bI_ne c5)
      rw [if_pos c5, upd_upd]
      have hin := T_in (T := T) (k := pp) (by omega)
      have hpp1 : pp + 1 ≤ 400 := by omega
      refine mo_call hC (c_Mo_gap l D tys tc hty h ar now (upd sc 12 (nI (pp + 1))) ai al F T (pp + 1) (hM0.at (p2 := pp + 1) hpp1)) wm_Mo_gap wl_Mo_156 wi_Mo_gap ws_Mo_Mo_gap ⟨by decide, by decide⟩ rfl rfl (Nat.le_of_ble_eq_true rfl) ⟨Nat.zero_le _, Nat.zero_le _⟩ (fun r' w1 hp => ?_)
      obtain ⟨rfl, rfl⟩ := hp
      rw [upd_upd]
      have hz := pz_le (T := T) (ps := pp + 1) (M := 400) (q := isGp) (by omega) (by omega)
      have hge : pp + 1 ≤ pz T (pp + 1) isGp := Nat.le_add_right _ _
      exact ih (T.length - pz T (pp + 1) isGp) (by omega) (pz T (pp + 1) isGp) (by rw [pz_gpgc, ← hPF, pz_t (q := isGc) (by rw [c5]; decide) hin]) hz (pz_no gp_0) hz rfl
