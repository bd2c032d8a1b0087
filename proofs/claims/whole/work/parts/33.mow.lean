/-! THE REFERENCE: weights, stars, by program (wip/whole/gen/p33.py) -/
theorem upd_12_16 {f : Nat → Int32} {a b v : Int32} : upd (upd (upd f 12 a) 16 v) 12 b = upd (upd f 12 b) 16 v := by
  funext j
  by_cases e : j = 12
  · subst e; rw [pk_us, pk_un (by decide), pk_us]
  · rw [pk_un e]
    by_cases e2 : j = 16
    · subst e2; rw [pk_us, pk_us]
    · rw [pk_un e2, pk_un e2, pk_un e, pk_un e]
/-- the world behind a weight -/
def wgP (tc : Nat → ClassId) (h : Nat) (ar : Nat → Nat) (now : Int64) (sc : Nat → Int32) (ai : Nat → Nat → Int32) (al : Nat → Nat → Int64) (v : Option (Nat × Nat)) (r : Option Value) (w : va_W) : Prop := match v with
  | some q => r = some (.int 1) ∧ w = mdW tc h ar now (upd (upd sc 12 (nI q.2)) 16 (nI q.1)) ai al
  | none => r = some (.int 0) ∧ ∃ a b : Int32, w = mdW tc h ar now (upd (upd sc 12 a) 16 b) ai al
theorem w0_eq {c : Nat} (h : 48 ≤ c) : (1000 : Int32) * (nI c - 48) = nI (1000 * (c - 48)) := by rw [show (48 : Int32) = nI 48 from rfl, show (1000 : Int32) = nI 1000 from rfl, pk_sub h, pk_mul]
theorem wlp_no {T : List Nat} {c n u v ps : Nat} (h : ¬ (0 < u ∧ isDg (T.getD ps 0) = true)) : wlp T c n u v ps = some (v, ps) := by cases n with
  | zero => rfl
  | succ n => rw [wlp, if_neg h]
set_option maxRecDepth 100000 in
set_option maxHeartbeats 4000000 in
theorem c_Mo_weight (l : Launch) (D : va_G) (tys : List (ClassId × FieldType)) (tc : Nat → ClassId) (hty : ∀ i : Nat, i < 4 → tys[i]? = some (tc i, vx_ty i)) (h : Nat) (ar : Nat → Nat) (now : Int64) (sc : Nat → Int32) (ai : Nat → Nat → Int32) (al : Nat → Nat → Int64) (F : Nat) (T : List Nat) (ps : Nat) (hM : mdS sc ai F T ps) : Kt l y_Mo_weight (yw y_Mo_weight b_Mo_weight 4 (some .boolean)) 3 63 0 0 D cls tys (fun _ _ _ => True) [.ref h] (mdW tc h ar now sc ai al) (fun r w => wgP tc h ar now sc ai al (wgt T ps) r w) := by
  refine Kt.of ro_true (by decide) rfl hty (Nat.le_of_ble_eq_true rfl) ?_
  intro p e s m args below meth c0 A hC hr hlk hnm hF
  have hFt : vx_Ft y_Mo_weight.cls (yw y_Mo_weight b_Mo_weight 4 (some .boolean)) cls cty ft_Mo := ft_of (fun w h => List.mem_cons_of_mem _ h) fl_Mo_in ft_Mo_b
  have hini : false = true → meth.name = "<init>" := fun h => by cases h
  obtain ⟨hF8, h11, hlenT, htx, hT, h12, hps⟩ := id hM
  have hTl := hT.1
  refine vx_gon hC hFt hini (vx_ends hC hr hlk) jc_Mo_weight 0 30 (by decide) rfl ?_
  refine mo_call hC (c_Mo_next l D tys tc hty h ar now sc ai al F T ps hM) wm_Mo_next wl_Mo_115 wi_Mo_next ws_Mo_Mo_next ⟨by decide, by decide⟩ rfl rfl (Nat.le_of_ble_eq_true rfl) ⟨Nat.zero_le _, Nat.zero_le _⟩ (fun r' w1 hp => ?_)
  obtain ⟨rfl, rfl⟩ := hp
  refine And.intro (fun c5 => ?_) (fun c5 => ?_)
  · skip
    have c5 : T.getD ps 0 = 48 := (nI_eq (by have := T_lt hT ps; omega) (by omega)).mp c5
    have hc0 : T.getD ps 0 = 48 ∨ T.getD ps 0 = 49 := Or.inl c5
    refine vx_gon hC hFt hini (vx_ends hC hr hlk) jc_Mo_weight 11 19 (by decide) rfl ?_
    refine And.intro rfl ?_
    refine And.intro rfl ?_
    refine And.intro rfl (And.intro (And.intro rfl rfl) ?_)
    refine And.intro rfl (And.intro (And.intro rfl rfl) ?_)
    have hin := T_in (T := T) (k := ps) (by omega)
    refine wq_ws (ws2 := mdW tc h ar now (upd (upd sc 12 (nI (ps + 1))) 16 (nI (1000 * (T.getD ps 0 - 48)))) ai al) (by rw [← w0_eq (by omega), ← nI_1, ← h12]; rfl) ?_
    refine mo_call hC (c_Mo_take l D tys tc hty h ar now (upd (upd sc 12 (nI (ps + 1))) 16 (nI (1000 * (T.getD ps 0 - 48)))) ai al F T (ps + 1) ((hM.at (p2 := ps + 1) (by omega)).ot (by decide) (by decide)) 46 (by decide)) wm_Mo_take wl_Mo_153 wi_Mo_take ws_Mo_Mo_take ⟨by decide, by decide⟩ rfl rfl (Nat.le_of_ble_eq_true rfl) ⟨Nat.zero_le _, Nat.zero_le _⟩ (fun r' w1 hp => ?_)
    obtain ⟨rfl, rfl⟩ := hp
    rw [upd_12_16]
    refine And.intro (fun c27 => ?_) (fun c27 => ?_)
    · skip
      have c27 : ¬ T.getD (ps + 1) 0 = 46 := of_decide_eq_false (bI_eq c27)
      rw [show (if T.getD (ps + 1) 0 = 46 then ps + 1 + 1 else ps + 1) = ps + 1 from if_neg c27]
      refine vx_go hC hFt hini (vx_ends hC hr hlk) jc_Mo_weight 67 (by decide) rfl ?_
      refine And.intro (rfl) (And.intro ?_ (And.intro (Nat.le_refl _) (Nat.le_refl _)))
      rw [wgt, if_pos hc0, if_neg c27]
      exact And.intro rfl rfl
    · skip
      have c27 : T.getD (ps + 1) 0 = 46 := of_decide_eq_true (bI_ne c27)
      rw [show (if T.getD (ps + 1) 0 = 46 then ps + 1 + 1 else ps + 1) = ps + 2 from if_pos c27]
      have hin2 := T_in (T := T) (k := ps + 1) (by omega)
      have hspec : wgt T ps = wlp T (T.getD ps 0) 4 100 (1000 * (T.getD ps 0 - 48)) (ps + 2) := by rw [wgt, if_pos hc0, if_pos c27]
      rw [hspec]
      clear hspec
      generalize hres : wlp T (T.getD ps 0) 4 100 (1000 * (T.getD ps 0 - 48)) (ps + 2) = RES
      refine Vx.subL (lv' := [(0, .ref h), (1, .int (nI (T.getD ps 0))), (2, .int (nI 100))]) [2, 1, 0] rfl ?_
      obtain ⟨nf, hnf⟩ : ∃ nf : Nat, nf = 4 := ⟨_, rfl⟩
      obtain ⟨u, hu⟩ : ∃ u : Nat, u = 100 := ⟨_, rfl⟩
      obtain ⟨v, hv⟩ : ∃ v : Nat, v = (1000 * (T.getD ps 0 - 48)) := ⟨_, rfl⟩
      obtain ⟨pp, hp⟩ : ∃ pp : Nat, pp = ps + 2 := ⟨_, rfl⟩
      have hun : (u = 100 ∧ nf = 4) ∨ (u = 10 ∧ nf = 3) ∨ (u = 1 ∧ nf = 2) ∨ (u = 0 ∧ nf = 1) := by omega
      have hpp : pp ≤ 400 := by omega
      refine Vx.eqs rfl (lv2 := [(0, .ref h), (1, .int (nI (T.getD ps 0))), (2, .int (nI u))]) (by rw [hu]) rfl (w2 := mdW tc h ar now (upd (upd sc 12 (nI pp)) 16 (nI v)) ai al) (by rw [hv, hp]) ?_
      replace hres : wlp T (T.getD ps 0) nf u v pp = RES := by rw [hnf, hu, hv, hp]; exact hres
      have hM0 := hM
      clear hnf hu hv hp
      induction hn : T.length - pp using Nat.strongRecOn generalizing nf u v pp with
      | _ n ih =>
        refine vx_go hC hFt hini (vx_ends hC hr hlk) jc_Mo_weight 30 (by decide) rfl ?_
        refine And.intro (fun c31 => ?_) (fun c31 => ?_)
        · skip
          have c31 : u = 0 := Nat.eq_zero_of_not_pos (fun z => absurd c31 (nI_nle z (by omega)))
          refine vx_go hC hFt hini (vx_ends hC hr hlk) jc_Mo_weight 67 (by decide) rfl ?_
          refine And.intro (rfl) (And.intro ?_ (And.intro (Nat.le_refl _) (Nat.le_refl _)))
          rw [← hres, wlp_no (by omega)]
          exact And.intro rfl rfl
        · skip
          have c31 : 0 < u := Nat.pos_of_ne_zero (fun z => c31 (by rw [z]; exact nI_le (Nat.le_refl 0) (by decide)))
          refine mo_call hC (c_Mo_next l D tys tc hty h ar now (upd (upd sc 12 (nI pp)) 16 (nI v)) ai al F T pp ((hM0.at hpp).ot (by decide) (by decide))) wm_Mo_next wl_Mo_115 wi_Mo_next ws_Mo_Mo_next ⟨by decide, by decide⟩ rfl rfl (Nat.le_of_ble_eq_true rfl) ⟨Nat.zero_le _, Nat.zero_le _⟩ (fun r' w1 hp => ?_)
          obtain ⟨rfl, rfl⟩ := hp
          refine mo_calls hC (c_Mo_isDigit l D tys tc hty (T.getD pp 0) (T_lt hT pp)) wm_Mo_isDigit wl_Mo_119 wt_Mo_isDigit ⟨by decide, by decide⟩ rfl rfl (Nat.le_of_ble_eq_true rfl) ⟨Nat.zero_le _, Nat.zero_le _⟩ (fun r' hp => ?_)
          subst hp
          refine And.intro (fun c35 => ?_) (fun c35 => ?_)
          · skip
            have c35 : isDg (T.getD pp 0) = false := bI_eq c35
            refine vx_go hC hFt hini (vx_ends hC hr hlk) jc_Mo_weight 67 (by decide) rfl ?_
            refine And.intro (rfl) (And.intro ?_ (And.intro (Nat.le_refl _) (Nat.le_refl _)))
            rw [← hres, wlp_no (fun z => by rw [c35] at z; cases z.2)]
            exact And.intro rfl rfl
          · skip
            have c35 : isDg (T.getD pp 0) = true := bI_ne c35
            have hdg := dg_in c35
            have hin3 := T_in (T := T) (k := pp) (by omega)
            refine mo_call hC (c_Mo_next l D tys tc hty h ar now (upd (upd sc 12 (nI pp)) 16 (nI v)) ai al F T pp ((hM0.at hpp).ot (by decide) (by decide))) wm_Mo_next wl_Mo_115 wi_Mo_next ws_Mo_Mo_next ⟨by decide, by decide⟩ rfl rfl (Nat.le_of_ble_eq_true rfl) ⟨Nat.zero_le _, Nat.zero_le _⟩ (fun r' w1 hp => ?_)
            obtain ⟨rfl, rfl⟩ := hp
            refine And.intro (fun c43 => ?_) (fun c43 => ?_)
            · skip
              have c43 : ¬ (T.getD ps 0 = 49) := fun z => c43 (by rw [z]; rfl)
              have hnn : ¬ (T.getD ps 0 = 49 ∧ 48 < T.getD pp 0) := fun z => c43 z.1
              refine vx_go hC hFt hini (vx_ends hC hr hlk) jc_Mo_weight 48 (by decide) rfl ?_
              refine And.intro rfl ?_
              refine And.intro rfl ?_
              refine And.intro rfl (And.intro (And.intro rfl rfl) ?_)
              refine And.intro (by decide) ?_
              refine And.intro rfl ?_
              refine And.intro rfl ?_
              refine And.intro rfl (And.intro (And.intro rfl rfl) ?_)
              refine Vx.subL (lv' := [(0, .ref h), (1, .int (nI (T.getD ps 0))), (2, .int (nI u / (10 : Int32)))]) [2, 3, 0] rfl ?_
              refine Vx.eqs rfl rfl rfl (show _ = mdW tc h ar now (upd (upd sc 12 (nI pp + 1)) 16 (nI v + nI u * (nI (T.getD pp 0) - (48 : Int32)))) ai al from rfl) ?_
              rw [wt_add (by omega), div10 (by omega), nI_1]
              obtain ⟨n2, rfl⟩ : ∃ n2, nf = n2 + 1 := ⟨nf - 1, by omega⟩
              exact ih (T.length - (pp + 1)) (by omega) n2 (u / 10) (v + u * (T.getD pp 0 - 48)) (pp + 1) (by omega) (by omega) (by rw [← hres, wlp, if_pos ⟨c31, c35⟩, if_neg hnn]) rfl
            · skip
              have c43 : T.getD ps 0 = 49 := (nI_eq (by have := T_lt hT ps; omega) (by omega)).mp c43
              refine And.intro (fun c45 => ?_) (fun c45 => ?_)
              · skip
                have c45 : T.getD pp 0 = 48 := by
                  have c45 : nI (T.getD pp 0) - nI 48 ≤ nI 0 := c45
                  rw [pk_sub (by omega), nI_leI (by have := T_lt hT pp; omega) (by omega)] at c45
                  omega
                have hnn : ¬ (T.getD ps 0 = 49 ∧ 48 < T.getD pp 0) := by omega
                refine vx_go hC hFt hini (vx_ends hC hr hlk) jc_Mo_weight 48 (by decide) rfl ?_
                refine And.intro rfl ?_
                refine And.intro rfl ?_
                refine And.intro rfl (And.intro (And.intro rfl rfl) ?_)
                refine And.intro (by decide) ?_
                refine And.intro rfl ?_
                refine And.intro rfl ?_
                refine And.intro rfl (And.intro (And.intro rfl rfl) ?_)
                refine Vx.subL (lv' := [(0, .ref h), (1, .int (nI (T.getD ps 0))), (2, .int (nI u / (10 : Int32)))]) [2, 3, 0] rfl ?_
                refine Vx.eqs rfl rfl rfl (show _ = mdW tc h ar now (upd (upd sc 12 (nI pp + 1)) 16 (nI v + nI u * (nI (T.getD pp 0) - (48 : Int32)))) ai al from rfl) ?_
                rw [wt_add (by omega), div10 (by omega), nI_1]
                obtain ⟨n2, rfl⟩ : ∃ n2, nf = n2 + 1 := ⟨nf - 1, by omega⟩
                exact ih (T.length - (pp + 1)) (by omega) n2 (u / 10) (v + u * (T.getD pp 0 - 48)) (pp + 1) (by omega) (by omega) (by rw [← hres, wlp, if_pos ⟨c31, c35⟩, if_neg hnn]) rfl
              · skip
                have c45 : 48 < T.getD pp 0 := by
                  rcases Nat.lt_or_ge 48 (T.getD pp 0) with z | z
                  · exact z
                  · refine absurd (show nI (T.getD pp 0) - nI 48 ≤ nI 0 from ?_) c45
                    rw [pk_sub (by omega), nI_leI (by have := T_lt hT pp; omega) (by omega)]
                    omega
                refine And.intro (rfl) (And.intro ?_ (And.intro (Nat.le_refl _) (Nat.le_refl _)))
                obtain ⟨n2, rfl⟩ : ∃ n2, nf = n2 + 1 := ⟨nf - 1, by omega⟩
                rw [← hres, wlp, if_pos ⟨c31, c35⟩, if_pos (by omega)]
                exact And.intro rfl ⟨nI pp, nI v, rfl⟩
  · skip
    have c5 : ¬ (T.getD ps 0 = 48) := fun z => c5 (by rw [z]; rfl)
    refine And.intro (fun c8 => ?_) (fun c8 => ?_)
    · skip
      have c8 : T.getD ps 0 = 49 := (nI_eq (by have := T_lt hT ps; omega) (by omega)).mp c8
      have hc0 : T.getD ps 0 = 48 ∨ T.getD ps 0 = 49 := Or.inr c8
      refine vx_gon hC hFt hini (vx_ends hC hr hlk) jc_Mo_weight 11 19 (by decide) rfl ?_
      refine And.intro rfl ?_
      refine And.intro rfl ?_
      refine And.intro rfl (And.intro (And.intro rfl rfl) ?_)
      refine And.intro rfl (And.intro (And.intro rfl rfl) ?_)
      have hin := T_in (T := T) (k := ps) (by omega)
      refine wq_ws (ws2 := mdW tc h ar now (upd (upd sc 12 (nI (ps + 1))) 16 (nI (1000 * (T.getD ps 0 - 48)))) ai al) (by rw [← w0_eq (by omega), ← nI_1, ← h12]; rfl) ?_
      refine mo_call hC (c_Mo_take l D tys tc hty h ar now (upd (upd sc 12 (nI (ps + 1))) 16 (nI (1000 * (T.getD ps 0 - 48)))) ai al F T (ps + 1) ((hM.at (p2 := ps + 1) (by omega)).ot (by decide) (by decide)) 46 (by decide)) wm_Mo_take wl_Mo_153 wi_Mo_take ws_Mo_Mo_take ⟨by decide, by decide⟩ rfl rfl (Nat.le_of_ble_eq_true rfl) ⟨Nat.zero_le _, Nat.zero_le _⟩ (fun r' w1 hp => ?_)
      obtain ⟨rfl, rfl⟩ := hp
      rw [upd_12_16]
      refine And.intro (fun c27 => ?_) (fun c27 => ?_)
      · skip
        have c27 : ¬ T.getD (ps + 1) 0 = 46 := of_decide_eq_false (bI_eq c27)
        rw [show (if T.getD (ps + 1) 0 = 46 then ps + 1 + 1 else ps + 1) = ps + 1 from if_neg c27]
        refine vx_go hC hFt hini (vx_ends hC hr hlk) jc_Mo_weight 67 (by decide) rfl ?_
        refine And.intro (rfl) (And.intro ?_ (And.intro (Nat.le_refl _) (Nat.le_refl _)))
        rw [wgt, if_pos hc0, if_neg c27]
        exact And.intro rfl rfl
      · skip
        have c27 : T.getD (ps + 1) 0 = 46 := of_decide_eq_true (bI_ne c27)
        rw [show (if T.getD (ps + 1) 0 = 46 then ps + 1 + 1 else ps + 1) = ps + 2 from if_pos c27]
        have hin2 := T_in (T := T) (k := ps + 1) (by omega)
        have hspec : wgt T ps = wlp T (T.getD ps 0) 4 100 (1000 * (T.getD ps 0 - 48)) (ps + 2) := by rw [wgt, if_pos hc0, if_pos c27]
        rw [hspec]
        clear hspec
        generalize hres : wlp T (T.getD ps 0) 4 100 (1000 * (T.getD ps 0 - 48)) (ps + 2) = RES
        refine Vx.subL (lv' := [(0, .ref h), (1, .int (nI (T.getD ps 0))), (2, .int (nI 100))]) [2, 1, 0] rfl ?_
        obtain ⟨nf, hnf⟩ : ∃ nf : Nat, nf = 4 := ⟨_, rfl⟩
        obtain ⟨u, hu⟩ : ∃ u : Nat, u = 100 := ⟨_, rfl⟩
        obtain ⟨v, hv⟩ : ∃ v : Nat, v = (1000 * (T.getD ps 0 - 48)) := ⟨_, rfl⟩
        obtain ⟨pp, hp⟩ : ∃ pp : Nat, pp = ps + 2 := ⟨_, rfl⟩
        have hun : (u = 100 ∧ nf = 4) ∨ (u = 10 ∧ nf = 3) ∨ (u = 1 ∧ nf = 2) ∨ (u = 0 ∧ nf = 1) := by omega
        have hpp : pp ≤ 400 := by omega
        refine Vx.eqs rfl (lv2 := [(0, .ref h), (1, .int (nI (T.getD ps 0))), (2, .int (nI u))]) (by rw [hu]) rfl (w2 := mdW tc h ar now (upd (upd sc 12 (nI pp)) 16 (nI v)) ai al) (by rw [hv, hp]) ?_
        replace hres : wlp T (T.getD ps 0) nf u v pp = RES := by rw [hnf, hu, hv, hp]; exact hres
        have hM0 := hM
        clear hnf hu hv hp
        induction hn : T.length - pp using Nat.strongRecOn generalizing nf u v pp with
        | _ n ih =>
          refine vx_go hC hFt hini (vx_ends hC hr hlk) jc_Mo_weight 30 (by decide) rfl ?_
          refine And.intro (fun c31 => ?_) (fun c31 => ?_)
          · skip
            have c31 : u = 0 := Nat.eq_zero_of_not_pos (fun z => absurd c31 (nI_nle z (by omega)))
            refine vx_go hC hFt hini (vx_ends hC hr hlk) jc_Mo_weight 67 (by decide) rfl ?_
            refine And.intro (rfl) (And.intro ?_ (And.intro (Nat.le_refl _) (Nat.le_refl _)))
            rw [← hres, wlp_no (by omega)]
            exact And.intro rfl rfl
          · skip
            have c31 : 0 < u := Nat.pos_of_ne_zero (fun z => c31 (by rw [z]; exact nI_le (Nat.le_refl 0) (by decide)))
            refine mo_call hC (c_Mo_next l D tys tc hty h ar now (upd (upd sc 12 (nI pp)) 16 (nI v)) ai al F T pp ((hM0.at hpp).ot (by decide) (by decide))) wm_Mo_next wl_Mo_115 wi_Mo_next ws_Mo_Mo_next ⟨by decide, by decide⟩ rfl rfl (Nat.le_of_ble_eq_true rfl) ⟨Nat.zero_le _, Nat.zero_le _⟩ (fun r' w1 hp => ?_)
            obtain ⟨rfl, rfl⟩ := hp
            refine mo_calls hC (c_Mo_isDigit l D tys tc hty (T.getD pp 0) (T_lt hT pp)) wm_Mo_isDigit wl_Mo_119 wt_Mo_isDigit ⟨by decide, by decide⟩ rfl rfl (Nat.le_of_ble_eq_true rfl) ⟨Nat.zero_le _, Nat.zero_le _⟩ (fun r' hp => ?_)
            subst hp
            refine And.intro (fun c35 => ?_) (fun c35 => ?_)
            · skip
              have c35 : isDg (T.getD pp 0) = false := bI_eq c35
              refine vx_go hC hFt hini (vx_ends hC hr hlk) jc_Mo_weight 67 (by decide) rfl ?_
              refine And.intro (rfl) (And.intro ?_ (And.intro (Nat.le_refl _) (Nat.le_refl _)))
              rw [← hres, wlp_no (fun z => by rw [c35] at z; cases z.2)]
              exact And.intro rfl rfl
            · skip
              have c35 : isDg (T.getD pp 0) = true := bI_ne c35
              have hdg := dg_in c35
              have hin3 := T_in (T := T) (k := pp) (by omega)
              refine mo_call hC (c_Mo_next l D tys tc hty h ar now (upd (upd sc 12 (nI pp)) 16 (nI v)) ai al F T pp ((hM0.at hpp).ot (by decide) (by decide))) wm_Mo_next wl_Mo_115 wi_Mo_next ws_Mo_Mo_next ⟨by decide, by decide⟩ rfl rfl (Nat.le_of_ble_eq_true rfl) ⟨Nat.zero_le _, Nat.zero_le _⟩ (fun r' w1 hp => ?_)
              obtain ⟨rfl, rfl⟩ := hp
              refine And.intro (fun c43 => ?_) (fun c43 => ?_)
              · skip
                have c43 : ¬ (T.getD ps 0 = 49) := fun z => c43 (by rw [z]; rfl)
                have hnn : ¬ (T.getD ps 0 = 49 ∧ 48 < T.getD pp 0) := fun z => c43 z.1
                refine vx_go hC hFt hini (vx_ends hC hr hlk) jc_Mo_weight 48 (by decide) rfl ?_
                refine And.intro rfl ?_
                refine And.intro rfl ?_
                refine And.intro rfl (And.intro (And.intro rfl rfl) ?_)
                refine And.intro (by decide) ?_
                refine And.intro rfl ?_
                refine And.intro rfl ?_
                refine And.intro rfl (And.intro (And.intro rfl rfl) ?_)
                refine Vx.subL (lv' := [(0, .ref h), (1, .int (nI (T.getD ps 0))), (2, .int (nI u / (10 : Int32)))]) [2, 3, 0] rfl ?_
                refine Vx.eqs rfl rfl rfl (show _ = mdW tc h ar now (upd (upd sc 12 (nI pp + 1)) 16 (nI v + nI u * (nI (T.getD pp 0) - (48 : Int32)))) ai al from rfl) ?_
                rw [wt_add (by omega), div10 (by omega), nI_1]
                obtain ⟨n2, rfl⟩ : ∃ n2, nf = n2 + 1 := ⟨nf - 1, by omega⟩
                exact ih (T.length - (pp + 1)) (by omega) n2 (u / 10) (v + u * (T.getD pp 0 - 48)) (pp + 1) (by omega) (by omega) (by rw [← hres, wlp, if_pos ⟨c31, c35⟩, if_neg hnn]) rfl
              · skip
                have c43 : T.getD ps 0 = 49 := (nI_eq (by have := T_lt hT ps; omega) (by omega)).mp c43
                refine And.intro (fun c45 => ?_) (fun c45 => ?_)
                · skip
                  have c45 : T.getD pp 0 = 48 := by
                    have c45 : nI (T.getD pp 0) - nI 48 ≤ nI 0 := c45
                    rw [pk_sub (by omega), nI_leI (by have := T_lt hT pp; omega) (by omega)] at c45
                    omega
                  have hnn : ¬ (T.getD ps 0 = 49 ∧ 48 < T.getD pp 0) := by omega
                  refine vx_go hC hFt hini (vx_ends hC hr hlk) jc_Mo_weight 48 (by decide) rfl ?_
                  refine And.intro rfl ?_
                  refine And.intro rfl ?_
                  refine And.intro rfl (And.intro (And.intro rfl rfl) ?_)
                  refine And.intro (by decide) ?_
                  refine And.intro rfl ?_
                  refine And.intro rfl ?_
                  refine And.intro rfl (And.intro (And.intro rfl rfl) ?_)
                  refine Vx.subL (lv' := [(0, .ref h), (1, .int (nI (T.getD ps 0))), (2, .int (nI u / (10 : Int32)))]) [2, 3, 0] rfl ?_
                  refine Vx.eqs rfl rfl rfl (show _ = mdW tc h ar now (upd (upd sc 12 (nI pp + 1)) 16 (nI v + nI u * (nI (T.getD pp 0) - (48 : Int32)))) ai al from rfl) ?_
                  rw [wt_add (by omega), div10 (by omega), nI_1]
                  obtain ⟨n2, rfl⟩ : ∃ n2, nf = n2 + 1 := ⟨nf - 1, by omega⟩
                  exact ih (T.length - (pp + 1)) (by omega) n2 (u / 10) (v + u * (T.getD pp 0 - 48)) (pp + 1) (by omega) (by omega) (by rw [← hres, wlp, if_pos ⟨c31, c35⟩, if_neg hnn]) rfl
                · skip
                  have c45 : 48 < T.getD pp 0 := by
                    rcases Nat.lt_or_ge 48 (T.getD pp 0) with z | z
                    · exact z
                    · refine absurd (show nI (T.getD pp 0) - nI 48 ≤ nI 0 from ?_) c45
                      rw [pk_sub (by omega), nI_leI (by have := T_lt hT pp; omega) (by omega)]
                      omega
                  refine And.intro (rfl) (And.intro ?_ (And.intro (Nat.le_refl _) (Nat.le_refl _)))
                  obtain ⟨n2, rfl⟩ : ∃ n2, nf = n2 + 1 := ⟨nf - 1, by omega⟩
                  rw [← hres, wlp, if_pos ⟨c31, c35⟩, if_pos (by omega)]
                  exact And.intro rfl ⟨nI pp, nI v, rfl⟩
    · skip
      have c8 : ¬ (T.getD ps 0 = 49) := fun z => c8 (by rw [z]; rfl)
      refine And.intro (rfl) (And.intro ?_ (And.intro (Nat.le_refl _) (Nat.le_refl _)))
      rw [wgt, if_neg (by omega)]
      exact And.intro rfl ⟨sc 12, sc 16, by rw [upd_same (f := sc) rfl, upd_same (f := sc) rfl]⟩
/-- a weight, if a semicolon comes: its thousandths and the place behind it -/
def wia (T : List Nat) (ps : Nat) : Option (Nat × Nat) := if T.getD (pz T ps isGp) 0 = 59 then (if lwr (T.getD (pz T (pz T ps isGp + 1) isGp) 0) = 113 then (if T.getD (pz T (pz T ps isGp + 1) isGp + 1) 0 = 61 then wgt T (pz T (pz T ps isGp + 1) isGp + 2) else none) else none) else some (1000, ps)
theorem upd_16_12 {f : Nat → Int32} {a v : Int32} : upd (upd f 16 v) 12 a = upd (upd f 12 a) 16 v := by
  funext j
  by_cases e : j = 12
  · subst e; rw [pk_us, pk_un (by decide), pk_us]
  · rw [pk_un e]
    by_cases e2 : j = 16
    · subst e2; rw [pk_us, pk_us]
    · rw [pk_un e2, pk_un e2, pk_un e]
theorem upd_16_16 {f : Nat → Int32} {a v w : Int32} : upd (upd (upd f 12 a) 16 v) 16 w = upd (upd f 12 a) 16 w := upd_upd
set_option maxRecDepth 100000 in
set_option maxHeartbeats 4000000 in
theorem c_Mo_weightIfAny (l : Launch) (D : va_G) (tys : List (ClassId × FieldType)) (tc : Nat → ClassId) (hty : ∀ i : Nat, i < 4 → tys[i]? = some (tc i, vx_ty i)) (h : Nat) (ar : Nat → Nat) (now : Int64) (sc : Nat → Int32) (ai : Nat → Nat → Int32) (al : Nat → Nat → Int64) (F : Nat) (T : List Nat) (ps : Nat) (hM : mdS sc ai F T ps) : Kt l y_Mo_weightIfAny (yw y_Mo_weightIfAny b_Mo_weightIfAny 1 (some .boolean)) 4 86 0 0 D cls tys (fun _ _ _ => True) [.ref h] (mdW tc h ar now sc ai al) (fun r w => wgP tc h ar now sc ai al (wia T ps) r w) := by
  refine Kt.of ro_true (by decide) rfl hty (Nat.le_of_ble_eq_true rfl) ?_
  intro p e s m args below meth c0 A hC hr hlk hnm hF
  have hFt : vx_Ft y_Mo_weightIfAny.cls (yw y_Mo_weightIfAny b_Mo_weightIfAny 1 (some .boolean)) cls cty ft_Mo := ft_of (fun w h => List.mem_cons_of_mem _ h) fl_Mo_in ft_Mo_b
  have hini : false = true → meth.name = "<init>" := fun h => by cases h
  obtain ⟨hF8, h11, hlenT, htx, hT, h12, hps⟩ := id hM
  have hTl := hT.1
  refine vx_go hC hFt hini (vx_ends hC hr hlk) jc_Mo_weightIfAny 0 (by decide) rfl ?_
  refine And.intro rfl (And.intro (And.intro rfl rfl) ?_)
  refine wq_ws (ws2 := mdW tc h ar now (upd sc 16 (nI 1000)) ai al) rfl ?_
  refine mo_call hC (c_Mo_semicolon l D tys tc hty h ar now (upd sc 16 (nI 1000)) ai al F T ps (hM.ot (by decide) (by decide))) wm_Mo_semicolon wl_Mo_159 wi_Mo_semicolon ws_Mo_Mo_semicolon ⟨by decide, by decide⟩ rfl rfl (Nat.le_of_ble_eq_true rfl) ⟨Nat.zero_le _, Nat.zero_le _⟩ (fun r' w1 hp => ?_)
  obtain ⟨rfl, rfl⟩ := hp
  refine And.intro (fun c5 => ?_) (fun c5 => ?_)
  · skip
    have c5 : T.getD (pz T ps isGp) 0 = 59 := of_decide_eq_true (bI_ne c5)
    rw [show (if T.getD (pz T ps isGp) 0 = 59 then (pz T (pz T ps isGp + 1) isGp) else ps) = (pz T (pz T ps isGp + 1) isGp) from if_pos c5]
    have hin := T_in (T := T) (k := pz T ps isGp) (by omega)
    have hq1 : (pz T (pz T ps isGp + 1) isGp) ≤ 398 := by
      have := pz_le (T := T) (ps := pz T ps isGp + 1) (M := 97) (q := isGp) (by omega) (by omega)
      omega
    refine vx_go hC hFt hini (vx_ends hC hr hlk) jc_Mo_weightIfAny 8 (by decide) rfl ?_
    refine mo_call hC (c_Mo_next l D tys tc hty h ar now (upd (upd sc 16 (nI 1000)) 12 (nI (pz T (pz T ps isGp + 1) isGp))) ai al F T (pz T (pz T ps isGp + 1) isGp) ((hM.ot (k := 16) (v := nI 1000) (by decide) (by decide)).at (by omega))) wm_Mo_next wl_Mo_115 wi_Mo_next ws_Mo_Mo_next ⟨by decide, by decide⟩ rfl rfl (Nat.le_of_ble_eq_true rfl) ⟨Nat.zero_le _, Nat.zero_le _⟩ (fun r' w1 hp => ?_)
    obtain ⟨rfl, rfl⟩ := hp
    refine mo_calls hC (c_Mo_lower l D tys tc hty (T.getD (pz T (pz T ps isGp + 1) isGp) 0) (T_lt hT _)) wm_Mo_lower wl_Mo_139 wt_Mo_lower ⟨by decide, by decide⟩ rfl rfl (Nat.le_of_ble_eq_true rfl) ⟨Nat.zero_le _, Nat.zero_le _⟩ (fun r' hp => ?_)
    subst hp
    refine And.intro (fun c12 => ?_) (fun c12 => ?_)
    · skip
      have c12 : lwr (T.getD (pz T (pz T ps isGp + 1) isGp) 0) = 113 := (nI_eq (by have := lwr_lt (T_lt hT (pz T (pz T ps isGp + 1) isGp)); omega) (by omega)).mp c12
      refine vx_go hC hFt hini (vx_ends hC hr hlk) jc_Mo_weightIfAny 15 (by decide) rfl ?_
      refine And.intro rfl ?_
      refine And.intro rfl ?_
      refine And.intro rfl (And.intro (And.intro rfl rfl) ?_)
      refine wq_ws (ws2 := mdW tc h ar now (upd (upd sc 12 (nI ((pz T (pz T ps isGp + 1) isGp) + 1))) 16 (nI 1000)) ai al) (by rw [← upd_16_12, ← nI_1 (pz T (pz T ps isGp + 1) isGp)]; rfl) ?_
      refine mo_call hC (c_Mo_take l D tys tc hty h ar now (upd (upd sc 12 (nI ((pz T (pz T ps isGp + 1) isGp) + 1))) 16 (nI 1000)) ai al F T ((pz T (pz T ps isGp + 1) isGp) + 1) ((hM.at (p2 := (pz T (pz T ps isGp + 1) isGp) + 1) (by omega)).ot (by decide) (by decide)) 61 (by decide)) wm_Mo_take wl_Mo_153 wi_Mo_take ws_Mo_Mo_take ⟨by decide, by decide⟩ rfl rfl (Nat.le_of_ble_eq_true rfl) ⟨Nat.zero_le _, Nat.zero_le _⟩ (fun r' w1 hp => ?_)
      obtain ⟨rfl, rfl⟩ := hp
      rw [upd_12_16]
      refine And.intro (fun c24 => ?_) (fun c24 => ?_)
      · skip
        have c24 : ¬ T.getD ((pz T (pz T ps isGp + 1) isGp) + 1) 0 = 61 := of_decide_eq_false (bI_eq c24)
        refine vx_go hC hFt hini (vx_ends hC hr hlk) jc_Mo_weightIfAny 30 (by decide) rfl ?_
        refine And.intro (rfl) (And.intro ?_ (And.intro (Nat.le_refl _) (Nat.le_refl _)))
        rw [wia, if_pos c5, if_pos c12, if_neg c24]
        exact And.intro rfl ⟨_, _, rfl⟩
      · skip
        have c24 : T.getD ((pz T (pz T ps isGp + 1) isGp) + 1) 0 = 61 := of_decide_eq_true (bI_ne c24)
        rw [show (if T.getD ((pz T (pz T ps isGp + 1) isGp) + 1) 0 = 61 then (pz T (pz T ps isGp + 1) isGp) + 1 + 1 else (pz T (pz T ps isGp + 1) isGp) + 1) = (pz T (pz T ps isGp + 1) isGp) + 2 from if_pos c24]
        have hwi : wia T ps = wgt T ((pz T (pz T ps isGp + 1) isGp) + 2) := by rw [wia, if_pos c5, if_pos c12, if_pos c24]
        refine mo_call hC (c_Mo_weight l D tys tc hty h ar now (upd (upd sc 12 (nI ((pz T (pz T ps isGp + 1) isGp) + 2))) 16 (nI 1000)) ai al F T ((pz T (pz T ps isGp + 1) isGp) + 2) ((hM.at (p2 := (pz T (pz T ps isGp + 1) isGp) + 2) (by omega)).ot (by decide) (by decide))) wm_Mo_weight wl_Mo_163 wi_Mo_weight ws_Mo_Mo_weight ⟨by decide, by decide⟩ rfl rfl (Nat.le_of_ble_eq_true rfl) ⟨Nat.zero_le _, Nat.zero_le _⟩ (fun r' w1 hp => ?_)
        unfold wgP at hp
        cases hwg : wgt T ((pz T (pz T ps isGp + 1) isGp) + 2) with
        | none =>
          rw [hwg] at hp
          obtain ⟨rfl, a9, b9, rfl⟩ := hp
          refine And.intro (fun c27 => ?_) (fun c27 => ?_)
          · skip
            refine vx_go hC hFt hini (vx_ends hC hr hlk) jc_Mo_weightIfAny 30 (by decide) rfl ?_
            refine And.intro (rfl) (And.intro ?_ (And.intro (Nat.le_refl _) (Nat.le_refl _)))
            rw [hwi, hwg]
            exact And.intro rfl ⟨a9, b9, by rw [upd_12_16, upd_16_16]⟩
          · skip
            exact absurd rfl c27
        | some q9 =>
          rw [hwg] at hp
          obtain ⟨rfl, rfl⟩ := hp
          refine And.intro (fun c27 => ?_) (fun c27 => ?_)
          · skip
            exact absurd c27 (by decide)
          · skip
            refine vx_go hC hFt hini (vx_ends hC hr hlk) jc_Mo_weightIfAny 31 (by decide) rfl ?_
            refine And.intro (rfl) (And.intro ?_ (And.intro (Nat.le_refl _) (Nat.le_refl _)))
            rw [hwi, hwg]
            refine And.intro rfl ?_
            rw [upd_12_16, upd_16_16]
    · skip
      have c12 : ¬ (lwr (T.getD (pz T (pz T ps isGp + 1) isGp) 0) = 113) := fun z => c12 (by rw [z]; rfl)
      refine And.intro (rfl) (And.intro ?_ (And.intro (Nat.le_refl _) (Nat.le_refl _)))
      rw [wia, if_pos c5, if_neg c12]
      exact And.intro rfl ⟨nI (pz T (pz T ps isGp + 1) isGp), nI 1000, by rw [upd_16_12]⟩
  · skip
    have c5 : ¬ T.getD (pz T ps isGp) 0 = 59 := of_decide_eq_false (bI_eq c5)
    rw [show (if T.getD (pz T ps isGp) 0 = 59 then (pz T (pz T ps isGp + 1) isGp) else ps) = ps from if_neg c5]
    refine And.intro (rfl) (And.intro ?_ (And.intro (Nat.le_refl _) (Nat.le_refl _)))
    rw [wia, if_neg c5, upd_16_12]
    exact And.intro rfl rfl
