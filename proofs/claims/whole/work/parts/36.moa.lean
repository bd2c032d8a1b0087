/-! THE REFERENCE: assigned values, tongues, words, by program (wip/whole/gen/p36.py) -/
/-- what stands from a to b -/
def sl (T : List Nat) (a b : Nat) : List Nat := (T.drop a).take (b - a)
theorem sl_len {T : List Nat} {a b : Nat} (h : b ≤ T.length) : (sl T a b).length = b - a := by
  unfold sl; rw [List.length_take, List.length_drop]; omega
theorem sl_get {T : List Nat} {a b k : Nat} (h : k < b - a) : (sl T a b).getD k 0 = T.getD (a + k) 0 := by
  unfold sl
  rw [List.getD_eq_getElem?_getD, List.getD_eq_getElem?_getD, List.getElem?_take, if_pos h, List.getElem?_drop]
theorem sl_snoc {T : List Nat} {a b : Nat} (h : a ≤ b) (hb : b < T.length) : sl T a (b + 1) = sl T a b ++ [T.getD b 0] := by
  apply ext_get
  · rw [sl_len (by omega), List.length_append, sl_len (by omega)]; simp; omega
  · intro i hi
    rw [sl_len (by omega)] at hi
    rw [sl_get hi]
    by_cases e : i < b - a
    · rw [List.getD_eq_getElem?_getD, List.getD_eq_getElem?_getD, List.getElem?_append_left (by rw [sl_len (by omega)]; omega), ← List.getD_eq_getElem?_getD, ← List.getD_eq_getElem?_getD, sl_get e]
    · rw [List.getD_eq_getElem?_getD (l := _ ++ _), List.getElem?_append_right (by rw [sl_len (by omega)]; omega), sl_len (by omega), show i - (b - a) = 0 by omega, show a + i = b by omega]; rfl
theorem sl_nil {T : List Nat} {a : Nat} : sl T a a = [] := by unfold sl; rw [Nat.sub_self]; rfl
theorem sl_app {T S : List Nat} {a b : Nat} (h1 : b ≤ T.length) (h2 : a ≤ T.length) (h : S ++ T.drop b = T.drop a) : S = sl T a b ∧ a ≤ b := by
  have h3 := congrArg List.length h
  rw [List.length_append, List.length_drop, List.length_drop] at h3
  refine ⟨?_, by omega⟩
  unfold sl
  rw [← h, List.take_left' (by omega)]
theorem sl_tw {T : List Nat} {a : Nat} {q : Nat → Bool} : (T.drop a).takeWhile q = sl T a (pz T a q) := by
  unfold sl pz
  rw [Nat.add_sub_cancel_left]
  have h := List.takeWhile_append_dropWhile (p := q) (l := T.drop a)
  generalize hA : (T.drop a).takeWhile q = A at h
  generalize (T.drop a).dropWhile q = B at h
  rw [← h, List.take_left]
theorem pz_lt {T : List Nat} {a : Nat} {q : Nat → Bool} (h : a ≤ T.length) : pz T a q ≤ T.length := pz_le h (Nat.le_refl _)
theorem pz_ge {T : List Nat} {a : Nat} {q : Nat → Bool} : a ≤ pz T a q := Nat.le_add_right _ _
theorem sl_one {T : List Nat} {a b c : Nat} (h : b ≤ T.length) : sl T a b = [c] ↔ b - a = 1 ∧ T.getD a 0 = c := by
  constructor
  · intro e
    have h1 := congrArg List.length e
    rw [sl_len h] at h1
    have h2 := sl_get (T := T) (a := a) (b := b) (k := 0) (by simp at h1; omega)
    rw [e] at h2
    exact ⟨h1, h2.symm⟩
  · intro ⟨e1, e2⟩
    apply ext_get
    · rw [sl_len h, e1]; rfl
    · intro i hi
      rw [sl_len h] at hi
      rw [sl_get hi, show i = 0 by omega]; exact e2
theorem pk_at {T : List Nat} {ps c : Nat} (hc : 0 < c) : pk c (T.drop ps) = if T.getD ps 0 = c then (true, T.drop (ps + 1)) else (false, T.drop ps) := by
  rcases Nat.lt_or_ge ps T.length with h | h
  · rw [drop_get h]; rfl
  · rw [drop_end h, T_out h, if_neg (by omega)]; rfl
/-- = and a value: a quoted text or a token -/
def asg (rs : List Nat) : Bool × List Nat × List Nat := if (pk 61 rs).1 = true then (if (pk 34 (pk 61 rs).2).1 = true then qtx (pk 34 (pk 61 rs).2).2 [] else (!((pk 61 rs).2.takeWhile isTk).isEmpty, (pk 61 rs).2.dropWhile isTk, (pk 61 rs).2.takeWhile isTk)) else (false, [], [])
theorem asg_n {T : List Nat} {ps : Nat} (h : ¬ T.getD ps 0 = 61) : (asg (T.drop ps)).1 = false := by rw [asg, pk_at (by decide), if_neg h]; rfl
theorem asg_q {T : List Nat} {ps : Nat} (h : T.getD ps 0 = 61) (h2 : T.getD (ps + 1) 0 = 34) : asg (T.drop ps) = qtx (T.drop (ps + 2)) [] := by
  rw [asg, pk_at (by decide), if_pos h, if_pos rfl]
  show (if (pk 34 (T.drop (ps + 1))).1 = true then _ else _) = _
  rw [pk_at (by decide), if_pos h2, if_pos rfl]
theorem asg_t {T : List Nat} {ps : Nat} (h : T.getD ps 0 = 61) (h2 : ¬ T.getD (ps + 1) 0 = 34) : asg (T.drop ps) = (decide (ps + 1 < pz T (ps + 1) isTk), T.drop (pz T (ps + 1) isTk), sl T (ps + 1) (pz T (ps + 1) isTk)) := by
  rw [asg, pk_at (by decide), if_pos h, if_pos rfl]
  show (if (pk 34 (T.drop (ps + 1))).1 = true then _ else _) = _
  rw [pk_at (by decide), if_neg h2, if_neg (fun z => by cases z)]
  show (!((T.drop (ps + 1)).takeWhile isTk).isEmpty, (T.drop (ps + 1)).dropWhile isTk, (T.drop (ps + 1)).takeWhile isTk) = _
  rw [pz_dw, sl_tw]
  congr 1
  have hh := sl_tw (T := T) (a := ps + 1) (q := isTk)
  have hl := pz_tw (T := T) (ps := ps + 1) (q := isTk)
  rw [hh] at hl
  cases e : sl T (ps + 1) (pz T (ps + 1) isTk) with
  | nil => rw [e] at hl; simp at hl; rw [decide_eq_false (by omega)]; rfl
  | cons x r => rw [e] at hl; simp at hl; rw [decide_eq_true (by omega)]; rfl
set_option maxRecDepth 100000 in
set_option maxHeartbeats 4000000 in
theorem c_Mo_assigned (l : Launch) (D : va_G) (tys : List (ClassId × FieldType)) (tc : Nat → ClassId) (hty : ∀ i : Nat, i < 4 → tys[i]? = some (tc i, vx_ty i)) (h : Nat) (ar : Nat → Nat) (now : Int64) (sc : Nat → Int32) (ai : Nat → Nat → Int32) (al : Nat → Nat → Int64) (F : Nat) (T : List Nat) (ps : Nat) (hM : mdS sc ai F T ps) : Kt l y_Mo_assigned (yw y_Mo_assigned b_Mo_assigned 1 (some .boolean)) 4 86 0 0 D cls tys (fun _ _ _ => True) [.ref h] (mdW tc h ar now sc ai al) (fun r w => qP tc h ar now sc ai al T (asg (T.drop ps)).1 (asg (T.drop ps)).2.1 (fun s2 => s2 19 = bI (decide ((asg (T.drop ps)).2.2 = [49]))) r w) := by
  refine Kt.of ro_true (by decide) rfl hty (Nat.le_of_ble_eq_true rfl) ?_
  intro p e s m args below meth c0 A hC hr hlk hnm hF
  have hFt : vx_Ft y_Mo_assigned.cls (yw y_Mo_assigned b_Mo_assigned 1 (some .boolean)) cls cty ft_Mo := ft_of (fun w h => List.mem_cons_of_mem _ h) fl_Mo_in ft_Mo_b
  have hini : false = true → meth.name = "<init>" := fun h => by cases h
  obtain ⟨hF8, h11, hlenT, htx, hT, h12, hps⟩ := id hM
  have hTl := hT.1
  refine vx_go hC hFt hini (vx_ends hC hr hlk) jc_Mo_assigned 0 (by decide) rfl ?_
  refine mo_call hC (c_Mo_take l D tys tc hty h ar now sc ai al F T ps hM 61 (by decide)) wm_Mo_take wl_Mo_153 wi_Mo_take ws_Mo_Mo_take ⟨by decide, by decide⟩ rfl rfl (Nat.le_of_ble_eq_true rfl) ⟨Nat.zero_le _, Nat.zero_le _⟩ (fun r' w1 hp => ?_)
  obtain ⟨rfl, rfl⟩ := hp
  refine And.intro (fun c3 => ?_) (fun c3 => ?_)
  · skip
    have c3 : T.getD ps 0 = 61 := of_decide_eq_true (bI_ne c3)
    rw [if_pos c3]
    have hin := T_in (T := T) (k := ps) (by omega)
    have hM1 := hM.at (p2 := ps + 1) (by omega)
    refine vx_go hC hFt hini (vx_ends hC hr hlk) jc_Mo_assigned 6 (by decide) rfl ?_
    refine mo_call hC (c_Mo_next l D tys tc hty h ar now (upd sc 12 (nI (ps + 1))) ai al F T (ps + 1) hM1) wm_Mo_next wl_Mo_115 wi_Mo_next ws_Mo_Mo_next ⟨by decide, by decide⟩ rfl rfl (Nat.le_of_ble_eq_true rfl) ⟨Nat.zero_le _, Nat.zero_le _⟩ (fun r' w1 hp => ?_)
    obtain ⟨rfl, rfl⟩ := hp
    refine And.intro (fun c9 => ?_) (fun c9 => ?_)
    · skip
      have c9 : ¬ (T.getD (ps + 1) 0 = 34) := fun z => c9 (by rw [z]; rfl)
      refine vx_go hC hFt hini (vx_ends hC hr hlk) jc_Mo_assigned 13 (by decide) rfl ?_
      refine mo_call hC (c_Mo_token l D tys tc hty h ar now (upd sc 12 (nI (ps + 1))) ai al F T (ps + 1) hM1) wm_Mo_token wl_Mo_176 wi_Mo_token ws_Mo_Mo_token ⟨by decide, by decide⟩ rfl rfl (Nat.le_of_ble_eq_true rfl) ⟨Nat.zero_le _, Nat.zero_le _⟩ (fun r' w1 hp => ?_)
      obtain ⟨rfl, rfl⟩ := hp
      refine And.intro (fun c15 => ?_) (fun c15 => ?_)
      · skip
        have c15 : decide (ps + 1 < (pz T (ps + 1) isTk)) = true := bI_ne c15
        have hPl := pz_lt (T := T) (a := ps + 1) (q := isTk) hin
        refine vx_go hC hFt hini (vx_ends hC hr hlk) jc_Mo_assigned 18 (by decide) rfl ?_
        refine And.intro rfl ?_
        refine And.intro rfl ?_
        refine And.intro (fun c25 => ?_) (fun c25 => ?_)
        · skip
          have c25 : ¬ ((pz T (ps + 1) isTk) - (ps + 1) = 1) := fun z => c25 (show nI (pz T (ps + 1) isTk) - nI (ps + 1) = nI 1 by rw [pk_sub pz_ge, z])
          refine vx_go hC hFt hini (vx_ends hC hr hlk) jc_Mo_assigned 34 (by decide) rfl ?_
          refine And.intro rfl (And.intro (And.intro rfl rfl) ?_)
          refine And.intro (rfl) (And.intro ?_ (And.intro (Nat.le_refl _) (Nat.le_refl _)))
          rw [asg_t c3 c9]
          refine ⟨by rw [c15]; rfl, upd (upd (upd (upd (upd sc 12 (nI (ps + 1))) 13 (nI (ps + 1))) 12 (nI (pz T (ps + 1) isTk))) 14 (nI (pz T (ps + 1) isTk))) 19 0, rfl, (((((fq.refl.upd (by decide) (by decide)).upd (by decide) (by decide)).upd (by decide) (by decide)).upd (by decide) (by decide)).upd (k := 19) (v := 0) (by decide) (by decide)), fun _ => ⟨(pz T (ps + 1) isTk), hPl, rfl, rfl, ?_⟩⟩
          rw [decide_eq_false (fun z => c25 ((sl_one hPl).mp z).1)]
          rfl
        · skip
          have c25 : (pz T (ps + 1) isTk) - (ps + 1) = 1 := by
            have c25 : nI (pz T (ps + 1) isTk) - nI (ps + 1) = nI 1 := c25
            rw [pk_sub pz_ge] at c25
            exact (nI_eq (by omega) (by omega)).mp c25
          refine And.intro rfl ?_
          refine mo_call hC (c_Mo_charAt l D tys tc hty h ar now (upd (upd (upd (upd sc 12 (nI (ps + 1))) 13 (nI (ps + 1))) 12 (nI (pz T (ps + 1) isTk))) 14 (nI (pz T (ps + 1) isTk))) ai al F T (pz T (ps + 1) isTk) (((hM1.ot (by decide) (by decide)).at (by omega)).ot (by decide) (by decide)) (ps + 1) (by omega)) wm_Mo_charAt wl_Mo_111 wi_Mo_charAt ws_Mo_Mo_charAt ⟨by decide, by decide⟩ rfl rfl (Nat.le_of_ble_eq_true rfl) ⟨Nat.zero_le _, Nat.zero_le _⟩ (fun r' w1 hp => ?_)
          obtain ⟨rfl, rfl⟩ := hp
          refine And.intro (fun c31 => ?_) (fun c31 => ?_)
          · skip
            have c31 : ¬ (T.getD (ps + 1) 0 = 49) := fun z => c31 (by rw [z]; rfl)
            refine vx_go hC hFt hini (vx_ends hC hr hlk) jc_Mo_assigned 34 (by decide) rfl ?_
            refine And.intro rfl (And.intro (And.intro rfl rfl) ?_)
            refine And.intro (rfl) (And.intro ?_ (And.intro (Nat.le_refl _) (Nat.le_refl _)))
            rw [asg_t c3 c9]
            refine ⟨by rw [c15]; rfl, upd (upd (upd (upd (upd sc 12 (nI (ps + 1))) 13 (nI (ps + 1))) 12 (nI (pz T (ps + 1) isTk))) 14 (nI (pz T (ps + 1) isTk))) 19 0, rfl, (((((fq.refl.upd (by decide) (by decide)).upd (by decide) (by decide)).upd (by decide) (by decide)).upd (by decide) (by decide)).upd (k := 19) (v := 0) (by decide) (by decide)), fun _ => ⟨(pz T (ps + 1) isTk), hPl, rfl, rfl, ?_⟩⟩
            rw [decide_eq_false (fun z => c31 ((sl_one hPl).mp z).2)]
            rfl
          · skip
            have c31 : T.getD (ps + 1) 0 = 49 := (nI_eq (by have := T_lt hT ((ps + 1)); omega) (by omega)).mp c31
            refine vx_go hC hFt hini (vx_ends hC hr hlk) jc_Mo_assigned 35 (by decide) rfl ?_
            refine And.intro rfl (And.intro (And.intro rfl rfl) ?_)
            refine And.intro (rfl) (And.intro ?_ (And.intro (Nat.le_refl _) (Nat.le_refl _)))
            rw [asg_t c3 c9]
            refine ⟨by rw [c15]; rfl, upd (upd (upd (upd (upd sc 12 (nI (ps + 1))) 13 (nI (ps + 1))) 12 (nI (pz T (ps + 1) isTk))) 14 (nI (pz T (ps + 1) isTk))) 19 1, rfl, (((((fq.refl.upd (by decide) (by decide)).upd (by decide) (by decide)).upd (by decide) (by decide)).upd (by decide) (by decide)).upd (k := 19) (v := 1) (by decide) (by decide)), fun _ => ⟨(pz T (ps + 1) isTk), hPl, rfl, rfl, ?_⟩⟩
            rw [decide_eq_true ((sl_one hPl).mpr ⟨c25, c31⟩)]
            rfl
      · skip
        have c15 : decide (ps + 1 < (pz T (ps + 1) isTk)) = false := bI_eq c15
        refine And.intro (rfl) (And.intro ?_ (And.intro (Nat.le_refl _) (Nat.le_refl _)))
        exact qP.no (by rw [asg_t c3 c9]; exact c15) ((((fq.refl.upd (by decide) (by decide)).upd (by decide) (by decide)).upd (by decide) (by decide)).upd (by decide) (by decide))
    · skip
      have c9 : T.getD (ps + 1) 0 = 34 := (nI_eq (by have := T_lt hT ((ps + 1)); omega) (by omega)).mp c9
      have hin2 := T_in (T := T) (k := ps + 1) (by omega)
      refine mo_call hC (c_Mo_quoted l D tys tc hty h ar now (upd sc 12 (nI (ps + 1))) ai al F T (ps + 1) hM1 hin2) wm_Mo_quoted wl_Mo_173 wi_Mo_quoted ws_Mo_Mo_quoted ⟨by decide, by decide⟩ rfl rfl (Nat.le_of_ble_eq_true rfl) ⟨Nat.zero_le _, Nat.zero_le _⟩ (fun r' w1 hp => ?_)
      obtain ⟨rfl, s9, rfl, hf9, hx9⟩ := hp
      refine And.intro ((bI_narrow _)) (And.intro ?_ (And.intro (Nat.le_refl _) (Nat.le_refl _)))
      rw [asg_q c3 c9]
      exact ⟨rfl, s9, rfl, (fq.refl.upd (by decide) (by decide)).trans hf9, hx9⟩
  · skip
    have c3 : ¬ T.getD ps 0 = 61 := of_decide_eq_false (bI_eq c3)
    refine And.intro (rfl) (And.intro ?_ (And.intro (Nat.le_refl _) (Nat.le_refl _)))
    exact qP.no (asg_n c3) (fq.refl.upd (by decide) (by decide))
theorem lng_app {sub : Nat} {dt : Bool} {rs S : List Nat} : (lng sub dt rs S).2.2 ++ (lng sub dt rs S).2.1 = S ++ rs := by
  induction rs generalizing sub dt S with
  | nil => rfl
  | cons x r ih =>
    unfold lng
    split
    · split
      · rfl
      · rw [ih, List.append_assoc]; rfl
    · split
      · split
        · rfl
        · rw [ih, List.append_assoc]; rfl
      · rfl
theorem lnq_b0 {T S : List Nat} {pp : Nat} {dt : Bool} (hin : pp < T.length) (h : T.getD pp 0 = 45) : (lng 0 dt (T.drop pp) S).1 = false := by rw [drop_get hin, lng, if_pos h, if_pos rfl]
theorem lnq_b1 {T S : List Nat} {pp sub : Nat} {dt : Bool} (hin : pp < T.length) (h : T.getD pp 0 = 45) (hs : ¬ sub < 1) : lng sub dt (T.drop pp) S = lng 0 true (T.drop (pp + 1)) (S ++ [T.getD pp 0]) := by rw [drop_get hin, lng, if_pos h, if_neg (by omega)]
theorem lnq_l8 {T S : List Nat} {pp sub : Nat} {dt : Bool} (hin : pp < T.length) (h : ¬ T.getD pp 0 = 45) (hl : (isLt (T.getD pp 0) || (dt && isDg (T.getD pp 0))) = true) (hs : sub = 8) : (lng sub dt (T.drop pp) S).1 = false := by rw [drop_get hin, lng, if_neg h, if_pos hl, if_pos hs]
theorem lnq_l {T S : List Nat} {pp sub : Nat} {dt : Bool} (hin : pp < T.length) (h : ¬ T.getD pp 0 = 45) (hl : (isLt (T.getD pp 0) || (dt && isDg (T.getD pp 0))) = true) (hs : ¬ sub = 8) : lng sub dt (T.drop pp) S = lng (sub + 1) dt (T.drop (pp + 1)) (S ++ [T.getD pp 0]) := by rw [drop_get hin, lng, if_neg h, if_pos hl, if_neg hs]
theorem lnq_x {T S : List Nat} {pp sub : Nat} {dt : Bool} (h : ¬ T.getD pp 0 = 45) (hl : (isLt (T.getD pp 0) || (dt && isDg (T.getD pp 0))) = false) : lng sub dt (T.drop pp) S = (decide (0 < sub), T.drop pp, S) := by
  rcases Nat.lt_or_ge pp T.length with h1 | h1
  · rw [drop_get h1, lng, if_neg h, if_neg (by rw [hl]; decide)]
  · rw [drop_end h1]; rfl
theorem ltq_0 : isLt 0 = false := by decide
theorem dgq_0 : isDg 0 = false := by decide
set_option maxRecDepth 100000 in
set_option maxHeartbeats 4000000 in
theorem c_Mo_tongue (l : Launch) (D : va_G) (tys : List (ClassId × FieldType)) (tc : Nat → ClassId) (hty : ∀ i : Nat, i < 4 → tys[i]? = some (tc i, vx_ty i)) (h : Nat) (ar : Nat → Nat) (now : Int64) (sc : Nat → Int32) (ai : Nat → Nat → Int32) (al : Nat → Nat → Int64) (F : Nat) (T : List Nat) (ps : Nat) (hM : mdS sc ai F T ps) (hpl : ps ≤ T.length) : Kt l y_Mo_tongue (yw y_Mo_tongue b_Mo_tongue 5 (some .boolean)) 2 41 0 0 D cls tys (fun _ _ _ => True) [.ref h] (mdW tc h ar now sc ai al) (fun r w => qP tc h ar now sc ai al T (lng 0 false (T.drop ps) []).1 (lng 0 false (T.drop ps) []).2.1 (fun s2 => s2 13 = nI ps ∧ s2 14 = s2 12) r w) := by
  refine Kt.of ro_true (by decide) rfl hty (Nat.le_of_ble_eq_true rfl) ?_
  intro p e s m args below meth c0 A hC hr hlk hnm hF
  have hFt : vx_Ft y_Mo_tongue.cls (yw y_Mo_tongue b_Mo_tongue 5 (some .boolean)) cls cty ft_Mo := ft_of (fun w h => List.mem_cons_of_mem _ h) fl_Mo_in ft_Mo_b
  have hini : false = true → meth.name = "<init>" := fun h => by cases h
  obtain ⟨hF8, h11, hlenT, htx, hT, h12, hps⟩ := id hM
  have hTl := hT.1
  refine vx_gon hC hFt hini (vx_ends hC hr hlk) jc_Mo_tongue 0 9 (by decide) rfl ?_
  refine And.intro rfl ?_
  generalize hres : lng 0 false (T.drop ps) [] = RES
  refine Vx.subL (lv' := [(0, .ref h), (1, .int (sc 12)), (2, .int (nI 0)), (3, .int (bI true)), (4, .int (bI (!false)))]) [4, 3, 2, 1, 0] rfl ?_
  obtain ⟨s2, hs2⟩ : ∃ s2, s2 = sc := ⟨_, rfl⟩
  obtain ⟨pp, hpp⟩ : ∃ pp : Nat, pp = ps := ⟨_, rfl⟩
  obtain ⟨sub, hsub⟩ : ∃ sub : Nat, sub = 0 := ⟨_, rfl⟩
  obtain ⟨g, hg0⟩ : ∃ g : Bool, g = true := ⟨_, rfl⟩
  obtain ⟨dt, hdt⟩ : ∃ dt : Bool, dt = false := ⟨_, rfl⟩
  obtain ⟨S, hS⟩ : ∃ S : List Nat, S = [] := ⟨_, rfl⟩
  have hsub8 : g = true → sub ≤ 8 := fun _ => by omega
  have hfr : fq sc s2 := by rw [hs2]; exact fq.refl
  refine Vx.eqs rfl (lv2 := [(0, .ref h), (1, .int (nI ps)), (2, .int (nI sub)), (3, .int (bI g)), (4, .int (bI (!dt)))]) (by rw [hsub, hg0, hdt, ← h12]) rfl (w2 := mdW tc h ar now s2 ai al) (by rw [hs2]) ?_
  replace h12 : s2 12 = nI pp := by rw [hs2, hpp]; exact h12
  have hpl2 : pp ≤ T.length := by omega
  have hg : g = true → lng sub dt (T.drop pp) S = RES := fun _ => by rw [hpp, hS, hsub, hdt]; exact hres
  have hb : g = false → RES.1 = false := fun z => by rw [hg0] at z; cases z
  clear hs2 hpp hS hsub hg0 hdt hres
  induction hn : T.length - pp using Nat.strongRecOn generalizing s2 pp sub g dt S with
  | _ n ih =>
    have hMp := hM.fq hfr h12 (by omega)
    refine vx_go hC hFt hini (vx_ends hC hr hlk) jc_Mo_tongue 9 (by decide) rfl ?_
    refine And.intro (fun c10 => ?_) (fun c10 => ?_)
    · skip
      obtain rfl : g = false := bI_eq c10
      refine vx_go hC hFt hini (vx_ends hC hr hlk) jc_Mo_tongue 56 (by decide) rfl ?_
      refine And.intro rfl (And.intro (And.intro rfl rfl) ?_)
      refine And.intro rfl ?_
      refine And.intro rfl (And.intro (And.intro rfl rfl) ?_)
      refine And.intro (fun c64 => ?_) (fun c64 => ?_)
      · skip
        refine vx_go hC hFt hini (vx_ends hC hr hlk) jc_Mo_tongue 70 (by decide) rfl ?_
        refine And.intro (rfl) (And.intro ?_ (And.intro (Nat.le_refl _) (Nat.le_refl _)))
        exact qP.no (hb rfl) ((hfr.upd (k := 13) (v := nI ps) (by decide) (by decide)).upd (k := 14) (v := s2 12) (by decide) (by decide))
      · skip
        exact absurd rfl c64
    · skip
      obtain rfl : g = true := bI_ne c10
      have hs8 := hsub8 rfl
      refine mo_call hC (c_Mo_next l D tys tc hty h ar now s2 ai al F T pp hMp) wm_Mo_next wl_Mo_115 wi_Mo_next ws_Mo_Mo_next ⟨by decide, by decide⟩ rfl rfl (Nat.le_of_ble_eq_true rfl) ⟨Nat.zero_le _, Nat.zero_le _⟩ (fun r' w1 hp => ?_)
      obtain ⟨rfl, rfl⟩ := hp
      refine mo_calls hC (c_Mo_isLetter l D tys tc hty (T.getD pp 0) (T_lt hT pp)) wm_Mo_isLetter wl_Mo_123 wt_Mo_isLetter ⟨by decide, by decide⟩ rfl rfl (Nat.le_of_ble_eq_true rfl) ⟨Nat.zero_le _, Nat.zero_le _⟩ (fun r' hp => ?_)
      subst hp
      refine And.intro (fun c14 => ?_) (fun c14 => ?_)
      · skip
        have c14 : isLt (T.getD pp 0) = true := bI_ne c14
        have hl : (isLt (T.getD pp 0) || (dt && isDg (T.getD pp 0))) = true := by rw [c14]; rfl
        refine vx_go hC hFt hini (vx_ends hC hr hlk) jc_Mo_tongue 25 (by decide) rfl ?_
        refine mo_call hC (c_Mo_next l D tys tc hty h ar now s2 ai al F T pp hMp) wm_Mo_next wl_Mo_115 wi_Mo_next ws_Mo_Mo_next ⟨by decide, by decide⟩ rfl rfl (Nat.le_of_ble_eq_true rfl) ⟨Nat.zero_le _, Nat.zero_le _⟩ (fun r' w1 hp => ?_)
        obtain ⟨rfl, rfl⟩ := hp
        refine And.intro (fun c28 => ?_) (fun c28 => ?_)
        · skip
          have c28 : ¬ (T.getD pp 0 = 45) := fun z => c28 (by rw [z]; rfl)
          have hin : pp < T.length := T_in (fun z => by rw [z, ltq_0, dgq_0, Bool.and_false] at hl; cases hl)
          refine vx_go hC hFt hini (vx_ends hC hr hlk) jc_Mo_tongue 41 (by decide) rfl ?_
          refine And.intro (fun c44 => ?_) (fun c44 => ?_)
          · skip
            have c44 : 8 < sub + 1 := (nI_ltI (a := 8) (b := sub + 1) (by omega) (by omega)).mp (by rw [← nI_1 sub]; exact c44)
            refine vx_go hC hFt hini (vx_ends hC hr hlk) jc_Mo_tongue 47 (by decide) rfl ?_
            refine And.intro rfl ?_
            refine And.intro rfl ?_
            refine And.intro rfl (And.intro (And.intro rfl rfl) ?_)
            refine Vx.subL (lv' := [(0, .ref h), (1, .int (nI ps)), (2, .int (nI sub + 1)), (3, .int (bI false)), (4, .int (bI (!dt)))]) [2, 3, 1, 0, 4] rfl ?_
            refine Vx.eqs rfl (lv2 := [(0, .ref h), (1, .int (nI ps)), (2, .int (nI (sub + 1))), (3, .int (bI false)), (4, .int (bI (!dt)))]) (by rw [nI_1]) rfl (show _ = mdW tc h ar now (upd s2 12 (s2 12 + 1)) ai al from rfl) ?_
            exact ih (T.length - (pp + 1)) (by omega) (upd s2 12 (s2 12 + 1)) (pp + 1) (sub + 1) false dt (S ++ [T.getD pp 0]) (fun z => by first | omega | cases z) (hfr.upd (by decide) (by decide)) (by rw [pk_us, h12, nI_1]) (by omega) (fun z => by cases z) (fun _ => by rw [← hg rfl]; exact lnq_l8 hin c28 hl (by omega)) rfl
          · skip
            have c44 : ¬ (8 < sub + 1) := fun z => c44 (show nI 8 < nI sub + 1 by rw [nI_1 sub]; exact (nI_ltI (by omega) (by omega)).mpr z)
            refine vx_go hC hFt hini (vx_ends hC hr hlk) jc_Mo_tongue 48 (by decide) rfl ?_
            refine And.intro rfl ?_
            refine And.intro rfl ?_
            refine And.intro rfl (And.intro (And.intro rfl rfl) ?_)
            refine Vx.subL (lv' := [(0, .ref h), (1, .int (nI ps)), (2, .int (nI sub + 1)), (3, .int (bI true)), (4, .int (bI (!dt)))]) [2, 3, 1, 0, 4] rfl ?_
            refine Vx.eqs rfl (lv2 := [(0, .ref h), (1, .int (nI ps)), (2, .int (nI (sub + 1))), (3, .int (bI true)), (4, .int (bI (!dt)))]) (by rw [nI_1]) rfl (show _ = mdW tc h ar now (upd s2 12 (s2 12 + 1)) ai al from rfl) ?_
            exact ih (T.length - (pp + 1)) (by omega) (upd s2 12 (s2 12 + 1)) (pp + 1) (sub + 1) true dt (S ++ [T.getD pp 0]) (fun z => by first | omega | cases z) (hfr.upd (by decide) (by decide)) (by rw [pk_us, h12, nI_1]) (by omega) (fun _ => by rw [← hg rfl, lnq_l hin c28 hl (by omega)]) (fun z => by cases z) rfl
        · skip
          have c28 : T.getD pp 0 = 45 := (nI_eq (by have := T_lt hT (pp); omega) (by omega)).mp c28
          have hin : pp < T.length := T_in (by omega)
          refine And.intro (fun c31 => ?_) (fun c31 => ?_)
          · skip
            have c31 := (nI_ltI (a := sub) (b := 1) (by omega) (by omega)).mp c31
            refine vx_go hC hFt hini (vx_ends hC hr hlk) jc_Mo_tongue 34 (by decide) rfl ?_
            refine vx_go hC hFt hini (vx_ends hC hr hlk) jc_Mo_tongue 49 (by decide) rfl ?_
            refine And.intro rfl ?_
            refine And.intro rfl ?_
            refine And.intro rfl (And.intro (And.intro rfl rfl) ?_)
            refine Vx.subL (lv' := [(0, .ref h), (1, .int (nI ps)), (2, .int (nI 0)), (3, .int (bI false)), (4, .int (bI (!true)))]) [3, 4, 1, 2, 0] rfl ?_
            refine Vx.eqs rfl (lv2 := [(0, .ref h), (1, .int (nI ps)), (2, .int (nI 0)), (3, .int (bI false)), (4, .int (bI (!true)))]) (rfl) rfl (show _ = mdW tc h ar now (upd s2 12 (s2 12 + 1)) ai al from rfl) ?_
            exact ih (T.length - (pp + 1)) (by omega) (upd s2 12 (s2 12 + 1)) (pp + 1) 0 false true (S ++ [T.getD pp 0]) (fun z => by first | omega | cases z) (hfr.upd (by decide) (by decide)) (by rw [pk_us, h12, nI_1]) (by omega) (fun z => by cases z) (fun _ => by rw [← hg rfl, show sub = 0 by omega]; exact lnq_b0 hin c28) rfl
          · skip
            have c31 : ¬ (sub < 1) := fun z => c31 ((nI_ltI (a := sub) (b := 1) (by omega) (by omega)).mpr z)
            refine vx_go hC hFt hini (vx_ends hC hr hlk) jc_Mo_tongue 35 (by decide) rfl ?_
            refine vx_go hC hFt hini (vx_ends hC hr hlk) jc_Mo_tongue 49 (by decide) rfl ?_
            refine And.intro rfl ?_
            refine And.intro rfl ?_
            refine And.intro rfl (And.intro (And.intro rfl rfl) ?_)
            refine Vx.subL (lv' := [(0, .ref h), (1, .int (nI ps)), (2, .int (nI 0)), (3, .int (bI true)), (4, .int (bI (!true)))]) [3, 4, 1, 2, 0] rfl ?_
            refine Vx.eqs rfl (lv2 := [(0, .ref h), (1, .int (nI ps)), (2, .int (nI 0)), (3, .int (bI true)), (4, .int (bI (!true)))]) (rfl) rfl (show _ = mdW tc h ar now (upd s2 12 (s2 12 + 1)) ai al from rfl) ?_
            exact ih (T.length - (pp + 1)) (by omega) (upd s2 12 (s2 12 + 1)) (pp + 1) 0 true true (S ++ [T.getD pp 0]) (fun z => by first | omega | cases z) (hfr.upd (by decide) (by decide)) (by rw [pk_us, h12, nI_1]) (by omega) (fun _ => by rw [← hg rfl, lnq_b1 hin c28 c31]) (fun z => by cases z) rfl
      · skip
        have c14 : isLt (T.getD pp 0) = false := bI_eq c14
        refine And.intro (fun c16 => ?_) (fun c16 => ?_)
        · skip
          have c16 : dt = false := by cases dt with
            | false => rfl
            | true => exact absurd rfl c16
          refine vx_go hC hFt hini (vx_ends hC hr hlk) jc_Mo_tongue 21 (by decide) rfl ?_
          refine mo_call hC (c_Mo_next l D tys tc hty h ar now s2 ai al F T pp hMp) wm_Mo_next wl_Mo_115 wi_Mo_next ws_Mo_Mo_next ⟨by decide, by decide⟩ rfl rfl (Nat.le_of_ble_eq_true rfl) ⟨Nat.zero_le _, Nat.zero_le _⟩ (fun r' w1 hp => ?_)
          obtain ⟨rfl, rfl⟩ := hp
          refine And.intro (fun c24 => ?_) (fun c24 => ?_)
          · skip
            have c24 : ¬ (T.getD pp 0 = 45) := fun z => c24 (by rw [z]; rfl)
            refine vx_go hC hFt hini (vx_ends hC hr hlk) jc_Mo_tongue 56 (by decide) rfl ?_
            refine And.intro rfl (And.intro (And.intro rfl rfl) ?_)
            refine And.intro rfl ?_
            refine And.intro rfl (And.intro (And.intro rfl rfl) ?_)
            refine And.intro (fun c64 => ?_) (fun c64 => ?_)
            · skip
              exact absurd c64 (by decide)
            · skip
              refine And.intro (fun c67 => ?_) (fun c67 => ?_)
              · skip
                have c67 := (nI_ltI (a := sub) (b := 1) (by omega) (by omega)).mp c67
                refine vx_go hC hFt hini (vx_ends hC hr hlk) jc_Mo_tongue 70 (by decide) rfl ?_
                refine And.intro (rfl) (And.intro ?_ (And.intro (Nat.le_refl _) (Nat.le_refl _)))
                have hl : (isLt (T.getD pp 0) || (dt && isDg (T.getD pp 0))) = false := by rw [c14, c16]; rfl
                exact qP.no (by rw [← hg rfl, lnq_x c24 hl]; exact decide_eq_false (by omega)) ((hfr.upd (k := 13) (v := nI ps) (by decide) (by decide)).upd (k := 14) (v := s2 12) (by decide) (by decide))
              · skip
                have c67 : ¬ (sub < 1) := fun z => c67 ((nI_ltI (a := sub) (b := 1) (by omega) (by omega)).mpr z)
                refine vx_go hC hFt hini (vx_ends hC hr hlk) jc_Mo_tongue 71 (by decide) rfl ?_
                refine And.intro (rfl) (And.intro ?_ (And.intro (Nat.le_refl _) (Nat.le_refl _)))
                have hl : (isLt (T.getD pp 0) || (dt && isDg (T.getD pp 0))) = false := by rw [c14, c16]; rfl
                have hR : RES = (true, T.drop pp, S) := by rw [← hg rfl, lnq_x c24 hl, decide_eq_true (by omega)]
                rw [hR]
                exact ⟨rfl, _, rfl, (hfr.upd (k := 13) (v := nI ps) (by decide) (by decide)).upd (k := 14) (v := s2 12) (by decide) (by decide), fun _ => ⟨pp, hpl2, rfl, h12, rfl, rfl⟩⟩
          · skip
            have c24 : T.getD pp 0 = 45 := (nI_eq (by have := T_lt hT (pp); omega) (by omega)).mp c24
            refine mo_call hC (c_Mo_next l D tys tc hty h ar now s2 ai al F T pp hMp) wm_Mo_next wl_Mo_115 wi_Mo_next ws_Mo_Mo_next ⟨by decide, by decide⟩ rfl rfl (Nat.le_of_ble_eq_true rfl) ⟨Nat.zero_le _, Nat.zero_le _⟩ (fun r' w1 hp => ?_)
            obtain ⟨rfl, rfl⟩ := hp
            refine And.intro (fun c28 => ?_) (fun c28 => ?_)
            · skip
              exact absurd (show nI (T.getD pp 0) = nI 45 by rw [c24]) c28
            · skip
              have c28 : T.getD pp 0 = 45 := (nI_eq (by have := T_lt hT (pp); omega) (by omega)).mp c28
              have hin : pp < T.length := T_in (by omega)
              refine And.intro (fun c31 => ?_) (fun c31 => ?_)
              · skip
                have c31 := (nI_ltI (a := sub) (b := 1) (by omega) (by omega)).mp c31
                refine vx_go hC hFt hini (vx_ends hC hr hlk) jc_Mo_tongue 34 (by decide) rfl ?_
                refine vx_go hC hFt hini (vx_ends hC hr hlk) jc_Mo_tongue 49 (by decide) rfl ?_
                refine And.intro rfl ?_
                refine And.intro rfl ?_
                refine And.intro rfl (And.intro (And.intro rfl rfl) ?_)
                refine Vx.subL (lv' := [(0, .ref h), (1, .int (nI ps)), (2, .int (nI 0)), (3, .int (bI false)), (4, .int (bI (!true)))]) [3, 4, 1, 2, 0] rfl ?_
                refine Vx.eqs rfl (lv2 := [(0, .ref h), (1, .int (nI ps)), (2, .int (nI 0)), (3, .int (bI false)), (4, .int (bI (!true)))]) (rfl) rfl (show _ = mdW tc h ar now (upd s2 12 (s2 12 + 1)) ai al from rfl) ?_
                exact ih (T.length - (pp + 1)) (by omega) (upd s2 12 (s2 12 + 1)) (pp + 1) 0 false true (S ++ [T.getD pp 0]) (fun z => by first | omega | cases z) (hfr.upd (by decide) (by decide)) (by rw [pk_us, h12, nI_1]) (by omega) (fun z => by cases z) (fun _ => by rw [← hg rfl, show sub = 0 by omega]; exact lnq_b0 hin c28) rfl
              · skip
                have c31 : ¬ (sub < 1) := fun z => c31 ((nI_ltI (a := sub) (b := 1) (by omega) (by omega)).mpr z)
                refine vx_go hC hFt hini (vx_ends hC hr hlk) jc_Mo_tongue 35 (by decide) rfl ?_
                refine vx_go hC hFt hini (vx_ends hC hr hlk) jc_Mo_tongue 49 (by decide) rfl ?_
                refine And.intro rfl ?_
                refine And.intro rfl ?_
                refine And.intro rfl (And.intro (And.intro rfl rfl) ?_)
                refine Vx.subL (lv' := [(0, .ref h), (1, .int (nI ps)), (2, .int (nI 0)), (3, .int (bI true)), (4, .int (bI (!true)))]) [3, 4, 1, 2, 0] rfl ?_
                refine Vx.eqs rfl (lv2 := [(0, .ref h), (1, .int (nI ps)), (2, .int (nI 0)), (3, .int (bI true)), (4, .int (bI (!true)))]) (rfl) rfl (show _ = mdW tc h ar now (upd s2 12 (s2 12 + 1)) ai al from rfl) ?_
                exact ih (T.length - (pp + 1)) (by omega) (upd s2 12 (s2 12 + 1)) (pp + 1) 0 true true (S ++ [T.getD pp 0]) (fun z => by first | omega | cases z) (hfr.upd (by decide) (by decide)) (by rw [pk_us, h12, nI_1]) (by omega) (fun _ => by rw [← hg rfl, lnq_b1 hin c28 c31]) (fun z => by cases z) rfl
        · skip
          have c16 : dt = true := by cases dt with
            | true => rfl
            | false => exact absurd c16 (by decide)
          refine mo_call hC (c_Mo_next l D tys tc hty h ar now s2 ai al F T pp hMp) wm_Mo_next wl_Mo_115 wi_Mo_next ws_Mo_Mo_next ⟨by decide, by decide⟩ rfl rfl (Nat.le_of_ble_eq_true rfl) ⟨Nat.zero_le _, Nat.zero_le _⟩ (fun r' w1 hp => ?_)
          obtain ⟨rfl, rfl⟩ := hp
          refine mo_calls hC (c_Mo_isDigit l D tys tc hty (T.getD pp 0) (T_lt hT pp)) wm_Mo_isDigit wl_Mo_119 wt_Mo_isDigit ⟨by decide, by decide⟩ rfl rfl (Nat.le_of_ble_eq_true rfl) ⟨Nat.zero_le _, Nat.zero_le _⟩ (fun r' hp => ?_)
          subst hp
          refine And.intro (fun c20 => ?_) (fun c20 => ?_)
          · skip
            have c20 : isDg (T.getD pp 0) = true := bI_ne c20
            have hl : (isLt (T.getD pp 0) || (dt && isDg (T.getD pp 0))) = true := by rw [c20, c16]; exact Bool.or_true _
            refine vx_go hC hFt hini (vx_ends hC hr hlk) jc_Mo_tongue 25 (by decide) rfl ?_
            refine mo_call hC (c_Mo_next l D tys tc hty h ar now s2 ai al F T pp hMp) wm_Mo_next wl_Mo_115 wi_Mo_next ws_Mo_Mo_next ⟨by decide, by decide⟩ rfl rfl (Nat.le_of_ble_eq_true rfl) ⟨Nat.zero_le _, Nat.zero_le _⟩ (fun r' w1 hp => ?_)
            obtain ⟨rfl, rfl⟩ := hp
            refine And.intro (fun c28 => ?_) (fun c28 => ?_)
            · skip
              have c28 : ¬ (T.getD pp 0 = 45) := fun z => c28 (by rw [z]; rfl)
              have hin : pp < T.length := T_in (fun z => by rw [z, ltq_0, dgq_0, Bool.and_false] at hl; cases hl)
              refine vx_go hC hFt hini (vx_ends hC hr hlk) jc_Mo_tongue 41 (by decide) rfl ?_
              refine And.intro (fun c44 => ?_) (fun c44 => ?_)
              · skip
                have c44 : 8 < sub + 1 := (nI_ltI (a := 8) (b := sub + 1) (by omega) (by omega)).mp (by rw [← nI_1 sub]; exact c44)
                refine vx_go hC hFt hini (vx_ends hC hr hlk) jc_Mo_tongue 47 (by decide) rfl ?_
                refine And.intro rfl ?_
                refine And.intro rfl ?_
                refine And.intro rfl (And.intro (And.intro rfl rfl) ?_)
                refine Vx.subL (lv' := [(0, .ref h), (1, .int (nI ps)), (2, .int (nI sub + 1)), (3, .int (bI false)), (4, .int (bI (!dt)))]) [2, 3, 1, 0, 4] rfl ?_
                refine Vx.eqs rfl (lv2 := [(0, .ref h), (1, .int (nI ps)), (2, .int (nI (sub + 1))), (3, .int (bI false)), (4, .int (bI (!dt)))]) (by rw [nI_1]) rfl (show _ = mdW tc h ar now (upd s2 12 (s2 12 + 1)) ai al from rfl) ?_
                exact ih (T.length - (pp + 1)) (by omega) (upd s2 12 (s2 12 + 1)) (pp + 1) (sub + 1) false dt (S ++ [T.getD pp 0]) (fun z => by first | omega | cases z) (hfr.upd (by decide) (by decide)) (by rw [pk_us, h12, nI_1]) (by omega) (fun z => by cases z) (fun _ => by rw [← hg rfl]; exact lnq_l8 hin c28 hl (by omega)) rfl
              · skip
                have c44 : ¬ (8 < sub + 1) := fun z => c44 (show nI 8 < nI sub + 1 by rw [nI_1 sub]; exact (nI_ltI (by omega) (by omega)).mpr z)
                refine vx_go hC hFt hini (vx_ends hC hr hlk) jc_Mo_tongue 48 (by decide) rfl ?_
                refine And.intro rfl ?_
                refine And.intro rfl ?_
                refine And.intro rfl (And.intro (And.intro rfl rfl) ?_)
                refine Vx.subL (lv' := [(0, .ref h), (1, .int (nI ps)), (2, .int (nI sub + 1)), (3, .int (bI true)), (4, .int (bI (!dt)))]) [2, 3, 1, 0, 4] rfl ?_
                refine Vx.eqs rfl (lv2 := [(0, .ref h), (1, .int (nI ps)), (2, .int (nI (sub + 1))), (3, .int (bI true)), (4, .int (bI (!dt)))]) (by rw [nI_1]) rfl (show _ = mdW tc h ar now (upd s2 12 (s2 12 + 1)) ai al from rfl) ?_
                exact ih (T.length - (pp + 1)) (by omega) (upd s2 12 (s2 12 + 1)) (pp + 1) (sub + 1) true dt (S ++ [T.getD pp 0]) (fun z => by first | omega | cases z) (hfr.upd (by decide) (by decide)) (by rw [pk_us, h12, nI_1]) (by omega) (fun _ => by rw [← hg rfl, lnq_l hin c28 hl (by omega)]) (fun z => by cases z) rfl
            · skip
              have c28 : T.getD pp 0 = 45 := (nI_eq (by have := T_lt hT (pp); omega) (by omega)).mp c28
              have hin : pp < T.length := T_in (by omega)
              refine And.intro (fun c31 => ?_) (fun c31 => ?_)
              · skip
                have c31 := (nI_ltI (a := sub) (b := 1) (by omega) (by omega)).mp c31
                refine vx_go hC hFt hini (vx_ends hC hr hlk) jc_Mo_tongue 34 (by decide) rfl ?_
                refine vx_go hC hFt hini (vx_ends hC hr hlk) jc_Mo_tongue 49 (by decide) rfl ?_
                refine And.intro rfl ?_
                refine And.intro rfl ?_
                refine And.intro rfl (And.intro (And.intro rfl rfl) ?_)
                refine Vx.subL (lv' := [(0, .ref h), (1, .int (nI ps)), (2, .int (nI 0)), (3, .int (bI false)), (4, .int (bI (!true)))]) [3, 4, 1, 2, 0] rfl ?_
                refine Vx.eqs rfl (lv2 := [(0, .ref h), (1, .int (nI ps)), (2, .int (nI 0)), (3, .int (bI false)), (4, .int (bI (!true)))]) (rfl) rfl (show _ = mdW tc h ar now (upd s2 12 (s2 12 + 1)) ai al from rfl) ?_
                exact ih (T.length - (pp + 1)) (by omega) (upd s2 12 (s2 12 + 1)) (pp + 1) 0 false true (S ++ [T.getD pp 0]) (fun z => by first | omega | cases z) (hfr.upd (by decide) (by decide)) (by rw [pk_us, h12, nI_1]) (by omega) (fun z => by cases z) (fun _ => by rw [← hg rfl, show sub = 0 by omega]; exact lnq_b0 hin c28) rfl
              · skip
                have c31 : ¬ (sub < 1) := fun z => c31 ((nI_ltI (a := sub) (b := 1) (by omega) (by omega)).mpr z)
                refine vx_go hC hFt hini (vx_ends hC hr hlk) jc_Mo_tongue 35 (by decide) rfl ?_
                refine vx_go hC hFt hini (vx_ends hC hr hlk) jc_Mo_tongue 49 (by decide) rfl ?_
                refine And.intro rfl ?_
                refine And.intro rfl ?_
                refine And.intro rfl (And.intro (And.intro rfl rfl) ?_)
                refine Vx.subL (lv' := [(0, .ref h), (1, .int (nI ps)), (2, .int (nI 0)), (3, .int (bI true)), (4, .int (bI (!true)))]) [3, 4, 1, 2, 0] rfl ?_
                refine Vx.eqs rfl (lv2 := [(0, .ref h), (1, .int (nI ps)), (2, .int (nI 0)), (3, .int (bI true)), (4, .int (bI (!true)))]) (rfl) rfl (show _ = mdW tc h ar now (upd s2 12 (s2 12 + 1)) ai al from rfl) ?_
                exact ih (T.length - (pp + 1)) (by omega) (upd s2 12 (s2 12 + 1)) (pp + 1) 0 true true (S ++ [T.getD pp 0]) (fun z => by first | omega | cases z) (hfr.upd (by decide) (by decide)) (by rw [pk_us, h12, nI_1]) (by omega) (fun _ => by rw [← hg rfl, lnq_b1 hin c28 c31]) (fun z => by cases z) rfl
          · skip
            have c20 : isDg (T.getD pp 0) = false := bI_eq c20
            refine mo_call hC (c_Mo_next l D tys tc hty h ar now s2 ai al F T pp hMp) wm_Mo_next wl_Mo_115 wi_Mo_next ws_Mo_Mo_next ⟨by decide, by decide⟩ rfl rfl (Nat.le_of_ble_eq_true rfl) ⟨Nat.zero_le _, Nat.zero_le _⟩ (fun r' w1 hp => ?_)
            obtain ⟨rfl, rfl⟩ := hp
            refine And.intro (fun c24 => ?_) (fun c24 => ?_)
            · skip
              have c24 : ¬ (T.getD pp 0 = 45) := fun z => c24 (by rw [z]; rfl)
              refine vx_go hC hFt hini (vx_ends hC hr hlk) jc_Mo_tongue 56 (by decide) rfl ?_
              refine And.intro rfl (And.intro (And.intro rfl rfl) ?_)
              refine And.intro rfl ?_
              refine And.intro rfl (And.intro (And.intro rfl rfl) ?_)
              refine And.intro (fun c64 => ?_) (fun c64 => ?_)
              · skip
                exact absurd c64 (by decide)
              · skip
                refine And.intro (fun c67 => ?_) (fun c67 => ?_)
                · skip
                  have c67 := (nI_ltI (a := sub) (b := 1) (by omega) (by omega)).mp c67
                  refine vx_go hC hFt hini (vx_ends hC hr hlk) jc_Mo_tongue 70 (by decide) rfl ?_
                  refine And.intro (rfl) (And.intro ?_ (And.intro (Nat.le_refl _) (Nat.le_refl _)))
                  have hl : (isLt (T.getD pp 0) || (dt && isDg (T.getD pp 0))) = false := by rw [c14, c20]; exact Bool.and_false _
                  exact qP.no (by rw [← hg rfl, lnq_x c24 hl]; exact decide_eq_false (by omega)) ((hfr.upd (k := 13) (v := nI ps) (by decide) (by decide)).upd (k := 14) (v := s2 12) (by decide) (by decide))
                · skip
                  have c67 : ¬ (sub < 1) := fun z => c67 ((nI_ltI (a := sub) (b := 1) (by omega) (by omega)).mpr z)
                  refine vx_go hC hFt hini (vx_ends hC hr hlk) jc_Mo_tongue 71 (by decide) rfl ?_
                  refine And.intro (rfl) (And.intro ?_ (And.intro (Nat.le_refl _) (Nat.le_refl _)))
                  have hl : (isLt (T.getD pp 0) || (dt && isDg (T.getD pp 0))) = false := by rw [c14, c20]; exact Bool.and_false _
                  have hR : RES = (true, T.drop pp, S) := by rw [← hg rfl, lnq_x c24 hl, decide_eq_true (by omega)]
                  rw [hR]
                  exact ⟨rfl, _, rfl, (hfr.upd (k := 13) (v := nI ps) (by decide) (by decide)).upd (k := 14) (v := s2 12) (by decide) (by decide), fun _ => ⟨pp, hpl2, rfl, h12, rfl, rfl⟩⟩
            · skip
              have c24 : T.getD pp 0 = 45 := (nI_eq (by have := T_lt hT (pp); omega) (by omega)).mp c24
              refine mo_call hC (c_Mo_next l D tys tc hty h ar now s2 ai al F T pp hMp) wm_Mo_next wl_Mo_115 wi_Mo_next ws_Mo_Mo_next ⟨by decide, by decide⟩ rfl rfl (Nat.le_of_ble_eq_true rfl) ⟨Nat.zero_le _, Nat.zero_le _⟩ (fun r' w1 hp => ?_)
              obtain ⟨rfl, rfl⟩ := hp
              refine And.intro (fun c28 => ?_) (fun c28 => ?_)
              · skip
                exact absurd (show nI (T.getD pp 0) = nI 45 by rw [c24]) c28
              · skip
                have c28 : T.getD pp 0 = 45 := (nI_eq (by have := T_lt hT (pp); omega) (by omega)).mp c28
                have hin : pp < T.length := T_in (by omega)
                refine And.intro (fun c31 => ?_) (fun c31 => ?_)
                · skip
                  have c31 := (nI_ltI (a := sub) (b := 1) (by omega) (by omega)).mp c31
                  refine vx_go hC hFt hini (vx_ends hC hr hlk) jc_Mo_tongue 34 (by decide) rfl ?_
                  refine vx_go hC hFt hini (vx_ends hC hr hlk) jc_Mo_tongue 49 (by decide) rfl ?_
                  refine And.intro rfl ?_
                  refine And.intro rfl ?_
                  refine And.intro rfl (And.intro (And.intro rfl rfl) ?_)
                  refine Vx.subL (lv' := [(0, .ref h), (1, .int (nI ps)), (2, .int (nI 0)), (3, .int (bI false)), (4, .int (bI (!true)))]) [3, 4, 1, 2, 0] rfl ?_
                  refine Vx.eqs rfl (lv2 := [(0, .ref h), (1, .int (nI ps)), (2, .int (nI 0)), (3, .int (bI false)), (4, .int (bI (!true)))]) (rfl) rfl (show _ = mdW tc h ar now (upd s2 12 (s2 12 + 1)) ai al from rfl) ?_
                  exact ih (T.length - (pp + 1)) (by omega) (upd s2 12 (s2 12 + 1)) (pp + 1) 0 false true (S ++ [T.getD pp 0]) (fun z => by first | omega | cases z) (hfr.upd (by decide) (by decide)) (by rw [pk_us, h12, nI_1]) (by omega) (fun z => by cases z) (fun _ => by rw [← hg rfl, show sub = 0 by omega]; exact lnq_b0 hin c28) rfl
                · skip
                  have c31 : ¬ (sub < 1) := fun z => c31 ((nI_ltI (a := sub) (b := 1) (by omega) (by omega)).mpr z)
                  refine vx_go hC hFt hini (vx_ends hC hr hlk) jc_Mo_tongue 35 (by decide) rfl ?_
                  refine vx_go hC hFt hini (vx_ends hC hr hlk) jc_Mo_tongue 49 (by decide) rfl ?_
                  refine And.intro rfl ?_
                  refine And.intro rfl ?_
                  refine And.intro rfl (And.intro (And.intro rfl rfl) ?_)
                  refine Vx.subL (lv' := [(0, .ref h), (1, .int (nI ps)), (2, .int (nI 0)), (3, .int (bI true)), (4, .int (bI (!true)))]) [3, 4, 1, 2, 0] rfl ?_
                  refine Vx.eqs rfl (lv2 := [(0, .ref h), (1, .int (nI ps)), (2, .int (nI 0)), (3, .int (bI true)), (4, .int (bI (!true)))]) (rfl) rfl (show _ = mdW tc h ar now (upd s2 12 (s2 12 + 1)) ai al from rfl) ?_
                  exact ih (T.length - (pp + 1)) (by omega) (upd s2 12 (s2 12 + 1)) (pp + 1) 0 true true (S ++ [T.getD pp 0]) (fun z => by first | omega | cases z) (hfr.upd (by decide) (by decide)) (by rw [pk_us, h12, nI_1]) (by omega) (fun _ => by rw [← hg rfl, lnq_b1 hin c28 c31]) (fun z => by cases z) rfl
