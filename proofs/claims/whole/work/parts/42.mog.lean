/-! THE REFERENCE: tags, by program (wip/whole/gen/p42.py) -/
/-- a tag: whether it is one, weak, what is left, what it says -/
def tgt (rs : List Nat) : Bool × Bool × List Nat × List Nat :=
  if (pk 87 rs).1 = true then (if (tt [87, 47] rs).1 = true then ((opq (tt [87, 47] rs).2).1, true, (opq (tt [87, 47] rs).2).2.1, (opq (tt [87, 47] rs).2).2.2) else (false, true, [], []))
  else ((opq rs).1, false, (opq rs).2.1, (opq rs).2.2)
theorem tt_W {T : List Nat} {ps : Nat} (h : T.getD ps 0 = 87) : tt [87, 47] (T.drop ps) = if T.getD (ps + 1) 0 = 47 then (true, T.drop (ps + 2)) else (false, T.drop (ps + 1)) := by
  rw [tt, pk_at (by decide), if_pos h]
  show tt [47] (T.drop (ps + 1)) = _
  rw [tt, pk_at (by decide)]
  by_cases h2 : T.getD (ps + 1) 0 = 47
  · rw [if_pos h2]; rfl
  · rw [if_neg h2]
theorem tgt_bad {T : List Nat} {ps : Nat} (h : T.getD ps 0 = 87) (h2 : ¬ T.getD (ps + 1) 0 = 47) : (tgt (T.drop ps)).1 = false := by
  rw [tgt, if_pos ((pk_c (by decide)).mpr h), tt_W h, if_neg h2, if_neg (fun z => by cases z)]
theorem tgt_w {T : List Nat} {ps : Nat} (h : T.getD ps 0 = 87) (h2 : T.getD (ps + 1) 0 = 47) : tgt (T.drop ps) = ((opq (T.drop (ps + 2))).1, true, (opq (T.drop (ps + 2))).2.1, (opq (T.drop (ps + 2))).2.2) := by
  rw [tgt, if_pos ((pk_c (by decide)).mpr h), tt_W h, if_pos h2, if_pos rfl]
theorem tgt_o {T : List Nat} {ps : Nat} (h : ¬ T.getD ps 0 = 87) : tgt (T.drop ps) = ((opq (T.drop ps)).1, false, (opq (T.drop ps)).2.1, (opq (T.drop ps)).2.2) := by
  rw [tgt, if_neg (fun z => h ((pk_c (by decide)).mp z))]
theorem opq_n {T : List Nat} {a : Nat} (h : ¬ T.getD a 0 = 34) : (opq (T.drop a)).1 = false := by rw [opq, pk_at (by decide), if_neg h]
theorem opq_y {T : List Nat} {a e : Nat} (h : T.getD a 0 = 34) (he : pz T (a + 1) isOp = e) : opq (T.drop a) = (decide (T.getD e 0 = 34), (if T.getD e 0 = 34 then T.drop (e + 1) else T.drop e), sl T (a + 1) e) := by
  rw [opq, pk_at (by decide), if_pos h]
  show ((pk 34 ((T.drop (a + 1)).dropWhile isOp)).1, (pk 34 ((T.drop (a + 1)).dropWhile isOp)).2, (T.drop (a + 1)).takeWhile isOp) = _
  rw [sl_tw, ← pz_dw, he, pk_at (by decide)]
  by_cases h2 : T.getD e 0 = 34
  · rw [if_pos h2, if_pos h2, decide_eq_true h2]
  · rw [if_neg h2, if_neg h2, decide_eq_false h2]
def qG (tc : Nat → ClassId) (h : Nat) (ar : Nat → Nat) (now : Int64) (sc : Nat → Int32) (ai : Nat → Nat → Int32) (al : Nat → Nat → Int64) (T : List Nat) (b : Bool) (rest : List Nat) (X : (Nat → Int32) → Prop) (r : Option Value) (w : va_W) : Prop := r = some (.int (bI b)) ∧ ∃ s2 p2, w = mdW tc h ar now s2 ai al ∧ gq sc s2 ∧ s2 11 = sc 11 ∧ s2 12 = nI p2 ∧ p2 ≤ T.length ∧ (b = true → T.drop p2 = rest ∧ X s2)
theorem op_0 : isOp 0 = false := by decide
set_option maxRecDepth 100000 in
set_option maxHeartbeats 4000000 in
theorem c_Mo_tagText (l : Launch) (D : va_G) (tys : List (ClassId × FieldType)) (tc : Nat → ClassId) (hty : ∀ i : Nat, i < 4 → tys[i]? = some (tc i, vx_ty i)) (h : Nat) (ar : Nat → Nat) (now : Int64) (sc : Nat → Int32) (ai : Nat → Nat → Int32) (al : Nat → Nat → Int64) (F : Nat) (T : List Nat) (ps : Nat) (hM : mdS sc ai F T ps) (hpl : ps ≤ T.length) : Kt l y_Mo_tagText (yw y_Mo_tagText b_Mo_tagText 1 (some .boolean)) 3 63 0 0 D cls tys (fun _ _ _ => True) [.ref h] (mdW tc h ar now sc ai al) (fun r w => qG tc h ar now sc ai al T (tgt (T.drop ps)).1 (tgt (T.drop ps)).2.2.1 (fun s2 => s2 15 = bI (tgt (T.drop ps)).2.1 ∧ ∃ a b, s2 13 = nI a ∧ s2 14 = nI b ∧ a ≤ b ∧ b ≤ T.length ∧ (tgt (T.drop ps)).2.2.2 = sl T a b) r w) := by
  refine Kt.of ro_true (by decide) rfl hty (Nat.le_of_ble_eq_true rfl) ?_
  intro p e s m args below meth c0 A hC hr hlk hnm hF
  have hFt : vx_Ft y_Mo_tagText.cls (yw y_Mo_tagText b_Mo_tagText 1 (some .boolean)) cls cty ft_Mo := ft_of (fun w h => List.mem_cons_of_mem _ h) fl_Mo_in ft_Mo_b
  have hini : false = true → meth.name = "<init>" := fun h => by cases h
  obtain ⟨hF8, h11, hlenT, htx, hT, h12, hps⟩ := id hM
  have hTl := hT.1
  refine vx_cut (α := Bool) 33 (fun u => u = decide (T.getD ps 0 = 87 ∧ T.getD (ps + 1) 0 = 47)) (fun u => [(0, .ref h)]) (fun u => []) (fun u => mdW tc h ar now (upd sc 15 (bI u)) ai al) (fun hJ17 => ?_) ?_
  · skip
    refine vx_gon hC hFt hini (vx_ends hC hr hlk) jc_Mo_tagText 0 17 (by decide) rfl ?_
    refine mo_call hC (c_Mo_next l D tys tc hty h ar now sc ai al F T ps hM) wm_Mo_next wl_Mo_115 wi_Mo_next ws_Mo_Mo_next ⟨by decide, by decide⟩ rfl rfl (Nat.le_of_ble_eq_true rfl) ⟨Nat.zero_le _, Nat.zero_le _⟩ (fun r' w1 hp => ?_)
    obtain ⟨rfl, rfl⟩ := hp
    refine And.intro (fun c4 => ?_) (fun c4 => ?_)
    · skip
      have c4 : ¬ (T.getD ps 0 = 87) := fun z => c4 (by rw [z]; rfl)
      refine vx_gon hC hFt hini (vx_ends hC hr hlk) jc_Mo_tagText 15 2 (by decide) rfl ?_
      refine And.intro rfl (And.intro (And.intro rfl rfl) ?_)
      refine Vx.eqs rfl rfl rfl (show _ = mdW tc h ar now (upd sc 15 (bI false)) ai al from rfl) ?_
      exact hJ17 false (decide_eq_false (fun z => c4 z.1)).symm
    · skip
      have c4 : T.getD ps 0 = 87 := (nI_eq (by have := T_lt hT (ps); omega) (by omega)).mp c4
      refine And.intro rfl ?_
      refine mo_call hC (c_Mo_charAt l D tys tc hty h ar now sc ai al F T ps hM (ps + 1) (by omega)) wm_Mo_charAt wl_Mo_111 wi_Mo_charAt ws_Mo_Mo_charAt ⟨by decide, by decide⟩ rfl (show [Value.int (sc 12 + 1), Value.ref h, Value.ref h] = [Value.int (nI (ps + 1)), Value.ref h, Value.ref h] by rw [h12, nI_1]) (Nat.le_of_ble_eq_true rfl) ⟨Nat.zero_le _, Nat.zero_le _⟩ (fun r' w1 hp => ?_)
      obtain ⟨rfl, rfl⟩ := hp
      refine And.intro (fun c12 => ?_) (fun c12 => ?_)
      · skip
        have c12 : ¬ (T.getD (ps + 1) 0 = 47) := fun z => c12 (by rw [z]; rfl)
        refine vx_gon hC hFt hini (vx_ends hC hr hlk) jc_Mo_tagText 15 2 (by decide) rfl ?_
        refine And.intro rfl (And.intro (And.intro rfl rfl) ?_)
        refine Vx.eqs rfl rfl rfl (show _ = mdW tc h ar now (upd sc 15 (bI false)) ai al from rfl) ?_
        exact hJ17 false (decide_eq_false (fun z => c12 z.2)).symm
      · skip
        have c12 : T.getD (ps + 1) 0 = 47 := (nI_eq (by have := T_lt hT ((ps + 1)); omega) (by omega)).mp c12
        refine vx_gon hC hFt hini (vx_ends hC hr hlk) jc_Mo_tagText 16 1 (by decide) rfl ?_
        refine And.intro rfl (And.intro (And.intro rfl rfl) ?_)
        refine Vx.eqs rfl rfl rfl (show _ = mdW tc h ar now (upd sc 15 (bI true)) ai al from rfl) ?_
        exact hJ17 true (decide_eq_true (⟨c4, c12⟩)).symm
  · rintro wk hwk
    refine vx_cut (α := Nat) 57 (fun u => u = (if wk = true then ps + 2 else ps) ∧ u ≤ T.length) (fun u => [(0, .ref h)]) (fun u => []) (fun u => mdW tc h ar now (upd (upd sc 15 (bI wk)) 12 (nI u)) ai al) (fun hJ29 => ?_) ?_
    · skip
      refine vx_gon hC hFt hini (vx_ends hC hr hlk) jc_Mo_tagText 17 12 (by decide) rfl ?_
      refine And.intro rfl ?_
      refine And.intro (fun c20 => ?_) (fun c20 => ?_)
      · skip
        obtain rfl : wk = false := bI_eq c20
        refine vx_gon hC hFt hini (vx_ends hC hr hlk) jc_Mo_tagText 26 3 (by decide) rfl ?_
        refine And.intro rfl ?_
        refine And.intro rfl (And.intro (And.intro rfl rfl) ?_)
        refine Vx.eqs rfl rfl rfl (show _ = mdW tc h ar now (upd (upd sc 15 (bI false)) 12 (sc 12)) ai al from rfl) ?_
        rw [h12]
        exact hJ29 ps ⟨rfl, hpl⟩
      · skip
        obtain rfl : wk = true := bI_ne c20
        refine And.intro rfl ?_
        refine vx_gon hC hFt hini (vx_ends hC hr hlk) jc_Mo_tagText 28 1 (by decide) rfl ?_
        refine And.intro rfl (And.intro (And.intro rfl rfl) ?_)
        refine Vx.eqs rfl rfl rfl (show _ = mdW tc h ar now (upd (upd sc 15 (bI true)) 12 (sc 12 + nI 2)) ai al from rfl) ?_
        rw [h12, nI_add]
        obtain ⟨z1, z2⟩ := of_decide_eq_true hwk.symm
        exact hJ29 (ps + 2) ⟨rfl, T_in (T := T) (k := ps + 1) (by omega)⟩
    · rintro a0 ⟨ha0, ha0l⟩
      have hyes : T.getD a0 0 = 34 → (tgt (T.drop ps)) = ((opq (T.drop a0)).1, wk, (opq (T.drop a0)).2.1, (opq (T.drop a0)).2.2) := by
        intro y
        cases wk with
        | true =>
          obtain ⟨z1, z2⟩ := of_decide_eq_true hwk.symm
          rw [ha0]
          exact tgt_w z1 z2
        | false =>
          rw [ha0] at y ⊢
          by_cases z1 : T.getD ps 0 = 87
          · exact absurd (z1.symm.trans y) (by decide)
          · exact tgt_o z1
      have hno : ¬ T.getD a0 0 = 34 → (tgt (T.drop ps)).1 = false := by
        intro y
        cases wk with
        | true =>
          obtain ⟨z1, z2⟩ := of_decide_eq_true hwk.symm
          rw [ha0] at y
          rw [tgt_w z1 z2]
          exact opq_n y
        | false =>
          have z := of_decide_eq_false hwk.symm
          rw [ha0] at y
          by_cases z1 : T.getD ps 0 = 87
          · exact tgt_bad z1 (fun x => z ⟨z1, x⟩)
          · rw [tgt_o z1]
            exact opq_n y
      refine vx_cut (α := (Nat → Int32)) 76 (fun u => gq sc u ∧ u 11 = sc 11 ∧ u 12 = nI (a0 + 1) ∧ u 13 = nI (a0 + 1) ∧ u 15 = bI wk ∧ a0 < T.length ∧ T.getD a0 0 = 34) (fun u => [(0, .ref h)]) (fun u => []) (fun u => mdW tc h ar now u ai al) (fun hJ39 => ?_) ?_
      · skip
        refine vx_gon hC hFt hini (vx_ends hC hr hlk) jc_Mo_tagText 29 10 (by decide) rfl ?_
        refine mo_call hC (c_Mo_take l D tys tc hty h ar now (upd (upd sc 15 (bI wk)) 12 (nI a0)) ai al F T a0 ((hM.ot (by decide) (by decide)).at (by omega)) 34 (by decide)) wm_Mo_take wl_Mo_153 wi_Mo_take ws_Mo_Mo_take ⟨by decide, by decide⟩ rfl rfl (Nat.le_of_ble_eq_true rfl) ⟨Nat.zero_le _, Nat.zero_le _⟩ (fun r' w1 hp => ?_)
        obtain ⟨rfl, rfl⟩ := hp
        rw [upd_upd]
        refine And.intro (fun c32 => ?_) (fun c32 => ?_)
        · skip
          have c32 : T.getD a0 0 = 34 := of_decide_eq_true (bI_ne c32)
          rw [if_pos c32]
          have hin := T_in (T := T) (k := a0) (by omega)
          refine vx_gon hC hFt hini (vx_ends hC hr hlk) jc_Mo_tagText 35 4 (by decide) rfl ?_
          refine And.intro rfl ?_
          refine And.intro rfl (And.intro (And.intro rfl rfl) ?_)
          refine Vx.eqs rfl rfl rfl (show _ = mdW tc h ar now (upd (upd (upd sc 15 (bI wk)) 12 (nI (a0 + 1))) 13 (nI (a0 + 1))) ai al from rfl) ?_
          exact hJ39 (upd (upd (upd sc 15 (bI wk)) 12 (nI (a0 + 1))) 13 (nI (a0 + 1))) ⟨((gq.refl.upd (by decide)).upd (by decide)).upd (by decide), rfl, rfl, rfl, rfl, hin, c32⟩
        · skip
          have c32 : ¬ T.getD a0 0 = 34 := of_decide_eq_false (bI_eq c32)
          refine And.intro (rfl) (And.intro ?_ (And.intro (Nat.le_refl _) (Nat.le_refl _)))
          rw [hno c32]
          exact ⟨rfl, (upd (upd sc 15 (bI wk)) 12 (nI a0)), a0, by rw [if_neg c32], ((gq.refl.upd (by decide)).upd (by decide)), rfl, rfl, ha0l, (fun z => by cases z)⟩
      · rintro s4 ⟨hg4, h411, h412, h413, h415, hin, c32⟩
        obtain ⟨e9, he9⟩ : ∃ e9, pz T (a0 + 1) isOp = e9 := ⟨_, rfl⟩
        obtain ⟨pp, hpp⟩ : ∃ pp, pp = a0 + 1 := ⟨_, rfl⟩
        rw [← hpp] at h412
        have hpl4 : pp ≤ T.length := by omega
        have hpz : pz T pp isOp = pz T (a0 + 1) isOp := by rw [hpp]
        have hage : a0 + 1 ≤ pp := by omega
        clear hpp
        induction hn : T.length - pp using Nat.strongRecOn generalizing s4 pp with
        | _ n ih =>
          have hM4 : mdS s4 ai F T pp := hM.gq h411 h412 (by omega)
          have hb9 := T_lt hT pp
          refine vx_go hC hFt hini (vx_ends hC hr hlk) jc_Mo_tagText 39 (by decide) rfl ?_
          refine mo_call hC (c_Mo_next l D tys tc hty h ar now s4 ai al F T pp hM4) wm_Mo_next wl_Mo_115 wi_Mo_next ws_Mo_Mo_next ⟨by decide, by decide⟩ rfl rfl (Nat.le_of_ble_eq_true rfl) ⟨Nat.zero_le _, Nat.zero_le _⟩ (fun r' w1 hp => ?_)
          obtain ⟨rfl, rfl⟩ := hp
          refine And.intro (fun c42 => ?_) (fun c42 => ?_)
          · skip
            have c42 : T.getD pp 0 = 33 := (nI_eq (by have := T_lt hT (pp); omega) (by omega)).mp c42
            have hin9 : pp < T.length := T_in (T := T) (k := pp) (by omega)
            refine vx_go hC hFt hini (vx_ends hC hr hlk) jc_Mo_tagText 55 (by decide) rfl ?_
            refine And.intro rfl ?_
            refine And.intro rfl ?_
            refine And.intro rfl (And.intro (And.intro rfl rfl) ?_)
            refine Vx.eqs rfl rfl rfl (show _ = mdW tc h ar now (upd s4 12 (s4 12 + 1)) ai al from rfl) ?_
            exact ih (T.length - (pp + 1)) (by omega) (upd s4 12 (s4 12 + 1)) (hg4.upd (by decide)) h411 h413 h415 (pp + 1) (by rw [pk_us, h412, nI_1]) (by omega) ((pz_t (T := T) (ps := pp) (q := isOp) (by simp only [isOp, decide_eq_true_eq]; omega) hin9).symm.trans hpz) (by omega) rfl
          · skip
            have c42 : ¬ (T.getD pp 0 = 33) := fun z => c42 (by rw [z]; rfl)
            refine mo_call hC (c_Mo_next l D tys tc hty h ar now s4 ai al F T pp hM4) wm_Mo_next wl_Mo_115 wi_Mo_next ws_Mo_Mo_next ⟨by decide, by decide⟩ rfl rfl (Nat.le_of_ble_eq_true rfl) ⟨Nat.zero_le _, Nat.zero_le _⟩ (fun r' w1 hp => ?_)
            obtain ⟨rfl, rfl⟩ := hp
            refine And.intro (fun c46 => ?_) (fun c46 => ?_)
            · skip
              have c46 := (nI_ltI (a := T.getD pp 0) (b := 35) (by omega) (by omega)).mp c46
              refine vx_go hC hFt hini (vx_ends hC hr hlk) jc_Mo_tagText 51 (by decide) rfl ?_
              refine mo_call hC (c_Mo_next l D tys tc hty h ar now s4 ai al F T pp hM4) wm_Mo_next wl_Mo_115 wi_Mo_next ws_Mo_Mo_next ⟨by decide, by decide⟩ rfl rfl (Nat.le_of_ble_eq_true rfl) ⟨Nat.zero_le _, Nat.zero_le _⟩ (fun r' w1 hp => ?_)
              obtain ⟨rfl, rfl⟩ := hp
              refine And.intro (fun c54 => ?_) (fun c54 => ?_)
              · skip
                have c54 := (nI_ltI (a := T.getD pp 0) (b := 128) (by omega) (by omega)).mp c54
                refine vx_go hC hFt hini (vx_ends hC hr hlk) jc_Mo_tagText 62 (by decide) rfl ?_
                refine And.intro rfl ?_
                refine And.intro rfl (And.intro (And.intro rfl rfl) ?_)
                refine wq_ws (ws2 := mdW tc h ar now (upd s4 14 (s4 12)) ai al) rfl ?_
                refine mo_call hC (c_Mo_take l D tys tc hty h ar now (upd s4 14 (s4 12)) ai al F T pp (hM4.ot (by decide) (by decide)) 34 (by decide)) wm_Mo_take wl_Mo_153 wi_Mo_take ws_Mo_Mo_take ⟨by decide, by decide⟩ rfl rfl (Nat.le_of_ble_eq_true rfl) ⟨Nat.zero_le _, Nat.zero_le _⟩ (fun r' w1 hp => ?_)
                obtain ⟨rfl, rfl⟩ := hp
                refine And.intro ((bI_narrow _)) (And.intro ?_ (And.intro (Nat.le_refl _) (Nat.le_refl _)))
                have hend : pp = e9 := by rw [← he9, ← hpz, pz_f (q := isOp) (by simp only [isOp, decide_eq_false_iff_not]; omega)]
                rw [hyes c32, opq_y c32 he9, ← hend]
                refine ⟨rfl, _, (if T.getD pp 0 = 34 then pp + 1 else pp), rfl, (hg4.upd (by decide)).upd (k := 12) (by decide), h411, rfl, ?_, fun z => ?_⟩
                · split
                  · exact T_in (by omega)
                  · exact hpl4
                · have z := of_decide_eq_true z
                  rw [if_pos z, if_pos z]
                  exact ⟨rfl, h415, a0 + 1, pp, h413, h412, hage, hpl4, rfl⟩
              · skip
                have c54 : ¬ (T.getD pp 0 < 128) := fun z => c54 ((nI_ltI (a := T.getD pp 0) (b := 128) (by omega) (by omega)).mpr z)
                have hin9 : pp < T.length := T_in (T := T) (k := pp) (by omega)
                refine And.intro rfl ?_
                refine And.intro rfl ?_
                refine And.intro rfl (And.intro (And.intro rfl rfl) ?_)
                refine Vx.eqs rfl rfl rfl (show _ = mdW tc h ar now (upd s4 12 (s4 12 + 1)) ai al from rfl) ?_
                exact ih (T.length - (pp + 1)) (by omega) (upd s4 12 (s4 12 + 1)) (hg4.upd (by decide)) h411 h413 h415 (pp + 1) (by rw [pk_us, h412, nI_1]) (by omega) ((pz_t (T := T) (ps := pp) (q := isOp) (by simp only [isOp, decide_eq_true_eq]; omega) hin9).symm.trans hpz) (by omega) rfl
            · skip
              have c46 : ¬ (T.getD pp 0 < 35) := fun z => c46 ((nI_ltI (a := T.getD pp 0) (b := 35) (by omega) (by omega)).mpr z)
              refine mo_call hC (c_Mo_next l D tys tc hty h ar now s4 ai al F T pp hM4) wm_Mo_next wl_Mo_115 wi_Mo_next ws_Mo_Mo_next ⟨by decide, by decide⟩ rfl rfl (Nat.le_of_ble_eq_true rfl) ⟨Nat.zero_le _, Nat.zero_le _⟩ (fun r' w1 hp => ?_)
              obtain ⟨rfl, rfl⟩ := hp
              refine And.intro (fun c50 => ?_) (fun c50 => ?_)
              · skip
                have c50 := (nI_leI (a := T.getD pp 0) (b := 126) (by omega) (by omega)).mp c50
                have hin9 : pp < T.length := T_in (T := T) (k := pp) (by omega)
                refine vx_go hC hFt hini (vx_ends hC hr hlk) jc_Mo_tagText 55 (by decide) rfl ?_
                refine And.intro rfl ?_
                refine And.intro rfl ?_
                refine And.intro rfl (And.intro (And.intro rfl rfl) ?_)
                refine Vx.eqs rfl rfl rfl (show _ = mdW tc h ar now (upd s4 12 (s4 12 + 1)) ai al from rfl) ?_
                exact ih (T.length - (pp + 1)) (by omega) (upd s4 12 (s4 12 + 1)) (hg4.upd (by decide)) h411 h413 h415 (pp + 1) (by rw [pk_us, h412, nI_1]) (by omega) ((pz_t (T := T) (ps := pp) (q := isOp) (by simp only [isOp, decide_eq_true_eq]; omega) hin9).symm.trans hpz) (by omega) rfl
              · skip
                have c50 : ¬ (T.getD pp 0 ≤ 126) := fun z => c50 ((nI_leI (a := T.getD pp 0) (b := 126) (by omega) (by omega)).mpr z)
                refine mo_call hC (c_Mo_next l D tys tc hty h ar now s4 ai al F T pp hM4) wm_Mo_next wl_Mo_115 wi_Mo_next ws_Mo_Mo_next ⟨by decide, by decide⟩ rfl rfl (Nat.le_of_ble_eq_true rfl) ⟨Nat.zero_le _, Nat.zero_le _⟩ (fun r' w1 hp => ?_)
                obtain ⟨rfl, rfl⟩ := hp
                refine And.intro (fun c54 => ?_) (fun c54 => ?_)
                · skip
                  have c54 := (nI_ltI (a := T.getD pp 0) (b := 128) (by omega) (by omega)).mp c54
                  refine vx_go hC hFt hini (vx_ends hC hr hlk) jc_Mo_tagText 62 (by decide) rfl ?_
                  refine And.intro rfl ?_
                  refine And.intro rfl (And.intro (And.intro rfl rfl) ?_)
                  refine wq_ws (ws2 := mdW tc h ar now (upd s4 14 (s4 12)) ai al) rfl ?_
                  refine mo_call hC (c_Mo_take l D tys tc hty h ar now (upd s4 14 (s4 12)) ai al F T pp (hM4.ot (by decide) (by decide)) 34 (by decide)) wm_Mo_take wl_Mo_153 wi_Mo_take ws_Mo_Mo_take ⟨by decide, by decide⟩ rfl rfl (Nat.le_of_ble_eq_true rfl) ⟨Nat.zero_le _, Nat.zero_le _⟩ (fun r' w1 hp => ?_)
                  obtain ⟨rfl, rfl⟩ := hp
                  refine And.intro ((bI_narrow _)) (And.intro ?_ (And.intro (Nat.le_refl _) (Nat.le_refl _)))
                  have hend : pp = e9 := by rw [← he9, ← hpz, pz_f (q := isOp) (by simp only [isOp, decide_eq_false_iff_not]; omega)]
                  rw [hyes c32, opq_y c32 he9, ← hend]
                  refine ⟨rfl, _, (if T.getD pp 0 = 34 then pp + 1 else pp), rfl, (hg4.upd (by decide)).upd (k := 12) (by decide), h411, rfl, ?_, fun z => ?_⟩
                  · split
                    · exact T_in (by omega)
                    · exact hpl4
                  · have z := of_decide_eq_true z
                    rw [if_pos z, if_pos z]
                    exact ⟨rfl, h415, a0 + 1, pp, h413, h412, hage, hpl4, rfl⟩
                · skip
                  have c54 : ¬ (T.getD pp 0 < 128) := fun z => c54 ((nI_ltI (a := T.getD pp 0) (b := 128) (by omega) (by omega)).mpr z)
                  have hin9 : pp < T.length := T_in (T := T) (k := pp) (by omega)
                  refine And.intro rfl ?_
                  refine And.intro rfl ?_
                  refine And.intro rfl (And.intro (And.intro rfl rfl) ?_)
                  refine Vx.eqs rfl rfl rfl (show _ = mdW tc h ar now (upd s4 12 (s4 12 + 1)) ai al from rfl) ?_
                  exact ih (T.length - (pp + 1)) (by omega) (upd s4 12 (s4 12 + 1)) (hg4.upd (by decide)) h411 h413 h415 (pp + 1) (by rw [pk_us, h412, nI_1]) (by omega) ((pz_t (T := T) (ps := pp) (q := isOp) (by simp only [isOp, decide_eq_true_eq]; omega) hin9).symm.trans hpz) (by omega) rfl
