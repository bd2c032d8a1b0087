/-! THE CLASS: respond, and what the desk says afterwards, by program (wip/whole/gen/p85.py) -/
def cw9 (me : Int32) (n : Nat) : Nat := if me < 0 ∨ 2 < me then 501 else if n = 0 then 404 else if me = 2 then 204 else 200
section
variable {ly : Nat} {rp : List Rp} {me : Int32} {tx : Nat → List Nat}
theorem dcS_no (h : ¬ cw9 me rp.length = 200) : dcS ly rp me tx = (cw9 me rp.length, none, []) := by
  unfold dcS
  unfold cw9 at h ⊢
  by_cases h1 : me < 0 ∨ 2 < me
  · rw [if_pos h1, if_pos h1]
  · rw [if_neg h1] at h ⊢
    rw [if_neg h1]
    by_cases h2 : rp.length = 0
    · rw [if_pos h2, if_pos (List.eq_nil_of_length_eq_zero h2)]
    · rw [if_neg h2] at h ⊢
      rw [if_neg (fun z => h2 (by rw [z]; rfl))]
      by_cases h3 : me = 2
      · rw [if_pos h3, if_pos h3]
      · rw [if_neg h3] at h
        exact absurd rfl h
theorem dcS_yes (h : cw9 me rp.length = 200) : dcS ly rp me tx = match chS tx rp with
    | none => (406, none, [])
    | some i => (if 0 < cnS ly tx (rp.getD i (0, 0, 0, 0, false, 0)) then cnS ly tx (rp.getD i (0, 0, 0, 0, false, 0)) else (rgS ly me tx (rp.getD i (0, 0, 0, 0, false, 0))).1, some (i, rp.getD i (0, 0, 0, 0, false, 0)), if 0 < cnS ly tx (rp.getD i (0, 0, 0, 0, false, 0)) then [] else (rgS ly me tx (rp.getD i (0, 0, 0, 0, false, 0))).2) := by
  unfold dcS
  unfold cw9 at h
  by_cases h1 : me < 0 ∨ 2 < me
  · rw [if_pos h1] at h; exact absurd h (by decide)
  · rw [if_neg h1] at h ⊢
    by_cases h2 : rp.length = 0
    · rw [if_pos h2] at h; exact absurd h (by decide)
    · rw [if_neg h2] at h
      rw [if_neg (fun z => h2 (by rw [z]; rfl))]
      by_cases h3 : me = 2
      · rw [if_pos h3] at h; exact absurd h (by decide)
      · rw [if_neg h3]; rfl
theorem dcS_206 : (dcS ly rp me tx).1 = 206 ∨ (dcS ly rp me tx).2.2 = [] := by
  by_cases h : cw9 me rp.length = 200
  · rw [dcS_yes h]
    cases hc : chS tx rp with
    | none => exact Or.inr rfl
    | some i =>
      by_cases hz : 0 < cnS ly tx (rp.getD i (0, 0, 0, 0, false, 0))
      · right; show (if 0 < cnS ly tx (rp.getD i (0, 0, 0, 0, false, 0)) then [] else _) = _; exact if_pos hz
      · rcases rgS_ok (ly := ly) (me := me) (tx := tx) (r := rp.getD i (0, 0, 0, 0, false, 0)) with ⟨e1, e2⟩ | ⟨e1, e2⟩
        · left; show (if 0 < cnS ly tx (rp.getD i (0, 0, 0, 0, false, 0)) then cnS ly tx (rp.getD i (0, 0, 0, 0, false, 0)) else _) = _; rw [if_neg hz]; exact e1
        · right; show (if 0 < cnS ly tx (rp.getD i (0, 0, 0, 0, false, 0)) then [] else _) = _; rw [if_neg hz]; exact e2
  · rw [dcS_no h]; exact Or.inr rfl
theorem paA_nil9 : paA (fun _ _ => 0) [] := ⟨Nat.zero_le _, fun i hi => absurd hi (Nat.not_lt_zero _)⟩
/-- the answer is in order, whatever lies in the rows of the ranges -/
theorem dc_ok {g1 g2 : Nat → Int32} {kp : List (Nat × Nat)} (hrp : rpsOk rp) (hk : kpA g1 g2 kp) (h : (dcS ly rp me tx).1 = 206 → kp = (dcS ly rp me tx).2.2) : anOk (nI (dcS ly rp me tx).1) (anN (dcS ly rp me tx).2.1) (dcS ly rp me tx).2.2 ∧ (dcS ly rp me tx).1 ≤ 501 := by
  by_cases e : (dcS ly rp me tx).1 = 206
  · exact dcS_ok (a := fun q j => if q = 11 then g1 j else g2 j) hrp (by rw [← h e]; exact kp_pa hk)
  · exact dcS_ok (a := fun _ _ => 0) hrp (by rw [dcS_206.resolve_left e]; exact paA_nil9)
end
def sbS (sa : Nat → Nat) (v : Option (Nat × Rp)) : Option (Nat × Nat × Nat) := v.map (fun u => (sa u.1, u.1, u.2.2.2.1))
theorem sbS_N {sa : Nat → Nat} {v : Option (Nat × Rp)} : sjN (sbS sa v) = anN v := by
  cases v <;> rfl
theorem shF_sj {b sa : Nat → Nat} {rp : List Rp} {K : Nat → Nat} {A : Nat → Prop} {U : State} {H : Heap} (h : shF b sa rp K A U H) {v : Option (Nat × Rp)} (hv : ∀ u, v = some u → u.1 < rp.length ∧ u.2 = rp.getD u.1 (0, 0, 0, 0, false, 0)) : sjF (sbS sa v) A U H := by
  cases v with
  | none => exact trivial
  | some u =>
    obtain ⟨sv, -, -, h3⟩ := h
    obtain ⟨e1, e2⟩ := hv u rfl
    show spF (sa u.1) u.1 u.2.2.2.1 A U H
    rw [e2]
    exact (h3 u.1 e1).1
theorem dc_ch {ly : Nat} {rp : List Rp} {me : Int32} {tx : Nat → List Nat} : ∀ u, (dcS ly rp me tx).2.1 = some u → u.1 < rp.length ∧ u.2 = rp.getD u.1 (0, 0, 0, 0, false, 0) := by
  intro u hu
  by_cases h : cw9 me rp.length = 200
  · rw [dcS_yes h] at hu
    cases hc : chS tx rp with
    | none => rw [hc] at hu; cases hu
    | some i =>
      rw [hc] at hu
      obtain rfl := Option.some.inj hu
      exact ⟨chS_lt hc, rfl⟩
  · rw [dcS_no h] at hu; cases hu
theorem sjV_or (u : Option (Nat × Nat × Nat)) : sjV u = .null ∨ ∃ a, sjV u = .ref a := by
  cases u with
  | none => exact Or.inl rfl
  | some v => exact Or.inr ⟨_, rfl⟩
/-- the response's cells -/
def rpW (tc : Nat → ClassId) (b : Nat → Nat) (cd : Int32) (sb9 : Option (Nat × Nat × Nat)) (ho : Bool) (pa : List (Nat × Nat)) (f1 f2 : Nat → Int32) : va_W := rsW tc (b 8) (b 20) (b 21) (b 22) cd (sjV sb9) (nI (lnS cd (sjN sb9) pa)) (nI pa.length) (bI ho) f1 f2
theorem cw9_le {me : Int32} {n : Nat} : cw9 me n ≤ 501 := by
  unfold cw9
  split
  · decide
  · split
    · decide
    · split <;> decide
set_option maxRecDepth 100000 in
set_option maxHeartbeats 4000000 in
theorem c_Dk_respond (l : Launch) (D : va_G) (tys : List (ClassId × FieldType)) (tc : Nat → ClassId) (hty : ∀ i : Nat, i < 4 → tys[i]? = some (tc i, vx_ty i)) (b ro : Nat → Nat) (tx : Nat → List Nat) (hx : ∀ G, G < 8 → isT (tx G)) (K : Nat → Nat) (me : Int32) (sa : Nat → Nat) (rp : List Rp) (hrp : rpsOk rp) (ly : Nat) (hly : ly < 10000) (u1 u2 u3 u4 u5 : RSt) (ho1 : okR b ro 0 u1.1) (ho2 : okR b ro 1 u2.1) (ho3 : okR b ro 2 u3.1) (ho4 : okR b ro 3 u4.1) (ho5 : okR b ro 4 u5.1) (kp : List (Nat × Nat)) (g1 g2 : Nat → Int32) (hkp : kpA g1 g2 kp) (cd0 : Int32) (sj0 : Value) (bs0 pc0 bl0 : Int32) (f1 f2 : Nat → Int32) (v : Nat) (ml : Int32) (M9 : Nat) (a : Nat → Int32) (L : List Nat) (hL : sbI a L) (hf : sb_Fit a) (hm : L.length ≤ M9 ∧ 16 ≤ M9 ∧ M9 ≤ 100) : Kt l y_Dk_respond (yw y_Dk_respond b_Dk_respond 3 (some .int)) 10 222 32 3200 D cls tys (fun A U H => qF b ro tx K me A U H ∧ shF b sa rp K A U H) [.ref (b 0)] ([dkC b (nI rp.length)] ++ acW tc b u1 ++ laW tc b u2 ++ tgW tc b u3 ++ daW tc b ly u4 ++ rnW tc b u5 kp g1 g2 ++ (rsW tc (b 8) (b 20) (b 21) (b 22) cd0 sj0 bs0 pc0 bl0 f1 f2) ++ (sbW tc (b 22) v ml L.length M9 a)) (fun r w => r = some (.int (nI (dcS ly rp me tx).1)) ∧ ∃ t1 t2 t3 t4 t5 kp2 k1 k2 q1 q2 w2, w = ([dkC b (nI rp.length)] ++ acW tc b t1 ++ laW tc b t2 ++ tgW tc b t3 ++ daW tc b ly t4 ++ rnW tc b t5 kp2 k1 k2 ++ (rpW tc b (nI (dcS ly rp me tx).1) (sbS sa (dcS ly rp me tx).2.1) (decide (me = 1)) (dcS ly rp me tx).2.2 q1 q2) ++ w2) ∧ sbX tc (b 22) w2 ∧ kpA q1 q2 (dcS ly rp me tx).2.2 ∧ okR b ro 0 t1.1 ∧ okR b ro 1 t2.1 ∧ okR b ro 2 t3.1 ∧ okR b ro 3 t4.1 ∧ okR b ro 4 t5.1 ∧ kpA k1 k2 kp2) := by
  refine Kt.of (ro_and (qF_ro b ro tx K me) (shF_ro b sa rp K)) (by decide) rfl hty (Nat.le_of_ble_eq_true rfl) ?_
  intro p e s m args below meth c0 A hC hr hlk hnm hF
  have hFt : vx_Ft y_Dk_respond.cls (yw y_Dk_respond b_Dk_respond 3 (some .int)) cls cty ft_Dk := ft_of (fun w h => List.mem_cons_of_mem _ h) fl_Dk_in ft_Dk_b
  have hini : false = true → meth.name = "<init>" := fun h => by cases h
  have hr4 := hrp.1
  obtain ⟨sv, hse, hsv, hrf⟩ := id hF.2
  refine vx_cut (α := (RSt × RSt × RSt × RSt × RSt) × List (Nat × Nat) × (Nat → Int32) × (Nat → Int32)) 35 (fun u => okR b ro 0 u.1.1.1 ∧ okR b ro 1 u.1.2.1.1 ∧ okR b ro 2 u.1.2.2.1.1 ∧ okR b ro 3 u.1.2.2.2.1.1 ∧ okR b ro 4 u.1.2.2.2.2.1 ∧ kpA u.2.2.1 u.2.2.2 u.2.1 ∧ ((dcS ly rp me tx).1 = 206 → u.2.1 = (dcS ly rp me tx).2.2)) (fun u => [(0, .ref (b 0)), (1, sjV (sbS sa (dcS ly rp me tx).2.1)), (2, .int (nI (dcS ly rp me tx).1))]) (fun u => []) (fun u => ([dkC b (nI rp.length)] ++ acW tc b u.1.1 ++ laW tc b u.1.2.1 ++ tgW tc b u.1.2.2.1 ++ daW tc b ly u.1.2.2.2.1 ++ rnW tc b u.1.2.2.2.2 u.2.1 u.2.2.1 u.2.2.2 ++ (rsW tc (b 8) (b 20) (b 21) (b 22) cd0 sj0 bs0 pc0 bl0 f1 f2) ++ (sbW tc (b 22) v ml L.length M9 a))) (fun tail => ?_) ?_
  · skip
    refine vx_gon hC hFt hini (vx_ends hC hr hlk) jc_Dk_respond 0 19 (by decide) rfl ?_
    refine dx_call (wr := (acW tc b u1 ++ laW tc b u2 ++ tgW tc b u3 ++ daW tc b ly u4 ++ rnW tc b u5 kp g1 g2 ++ (rsW tc (b 8) (b 20) (b 21) (b 22) cd0 sj0 bs0 pc0 bl0 f1 f2) ++ (sbW tc (b 22) v ml L.length M9 a))) (wc := [dkC b (nI rp.length)]) hC (c_Dk_codeWithoutChoice l D tys tc hty b ro tx K me rp.length hrp.1) hF.1 (cw_V wm_Dk_codeWithoutChoice wl_Dk_101 wi_Dk_codeWithoutChoice ws_Dk_Dk_codeWithoutChoice hC.2.2.2.2.1 ⟨by decide, by decide⟩) [0] [1, 2, 3, 4, 5, 6, 7, 8, 9, 10, 11, 12, 13, 14, 15, 16, 17] rfl rfl rfl rfl (by decide) rfl rfl rfl rfl rfl (Nat.le_of_ble_eq_true rfl) ⟨by decide, by decide⟩ (fun r' w' hp => ?_)
    obtain ⟨rfl, rfl⟩ := hp
    refine ⟨[17, 0, 1, 2, 3, 4, 5, 6, 7, 8, 9, 10, 11, 12, 13, 14, 15, 16], ([dkC b (nI rp.length)] ++ acW tc b u1 ++ laW tc b u2 ++ tgW tc b u3 ++ daW tc b ly u4 ++ rnW tc b u5 kp g1 g2 ++ (rsW tc (b 8) (b 20) (b 21) (b 22) cd0 sj0 bs0 pc0 bl0 f1 f2) ++ (sbW tc (b 22) v ml L.length M9 a)), rfl, rfl, ?_⟩
    refine And.intro (fun c7 => ?_) (fun c7 => ?_)
    · skip
      have c7 : ¬ (cw9 me rp.length) = 200 := fun z => c7 (show nI (cw9 me rp.length) = 200 by rw [z]; rfl)
      refine Vx.subL (lv' := [(0, .ref (b 0)), (1, .null), (2, .int (nI (cw9 me rp.length)))]) [2, 1, 0] rfl ?_
      have hdc := dcS_no (ly := ly) (tx := tx) c7
      refine Vx.eqs rfl (lv2 := [(0, .ref (b 0)), (1, sjV (sbS sa (dcS ly rp me tx).2.1)), (2, .int (nI (dcS ly rp me tx).1))]) (by rw [hdc]; rfl) rfl rfl ?_
      exact tail ((u1, u2, u3, u4, u5), kp, g1, g2) ⟨ho1, ho2, ho3, ho4, ho5, hkp, fun z => by rw [hdc] at z; have z : (cw9 me rp.length) = 206 := z; exact absurd z (by unfold cw9; split; decide; split; decide; split; decide; exact fun y => absurd y (by decide))⟩
    · skip
      have c7 : (cw9 me rp.length) = 200 := (nI_eq (b := 200) (by have := cw9_le (me := me) (n := rp.length); omega) (by decide)).mp c7
      refine dx_call (wr := (tgW tc b u3 ++ daW tc b ly u4 ++ rnW tc b u5 kp g1 g2 ++ (rsW tc (b 8) (b 20) (b 21) (b 22) cd0 sj0 bs0 pc0 bl0 f1 f2) ++ (sbW tc (b 22) v ml L.length M9 a))) (wc := ([dkC b (nI rp.length)] ++ acW tc b u1 ++ laW tc b u2)) hC (c_Dk_choose l D tys tc hty b ro tx hx K me sa rp hrp u1 u2 ho1 ho2) hF (cw_V wm_Dk_choose wl_Dk_105 wi_Dk_choose ws_Dk_Dk_choose hC.2.2.2.2.1 ⟨by decide, by decide⟩) [0, 1, 2, 3, 4] [5, 6, 7, 8, 9, 10, 11, 12, 13, 14, 15, 16, 17] rfl rfl rfl rfl (by decide) rfl rfl rfl rfl rfl (Nat.le_of_ble_eq_true rfl) ⟨by decide, by decide⟩ (fun r' w' hp => ?_)
      obtain ⟨rfl, q1, q2, rfl, hq1, hq2⟩ := hp
      refine ⟨[13, 14, 15, 16, 17, 0, 1, 2, 3, 4, 5, 6, 7, 8, 9, 10, 11, 12], ([dkC b (nI rp.length)] ++ acW tc b q1 ++ laW tc b q2 ++ tgW tc b u3 ++ daW tc b ly u4 ++ rnW tc b u5 kp g1 g2 ++ (rsW tc (b 8) (b 20) (b 21) (b 22) cd0 sj0 bs0 pc0 bl0 f1 f2) ++ (sbW tc (b 22) v ml L.length M9 a)), rfl, rfl, ?_⟩
      have hdc := dcS_yes (ly := ly) (tx := tx) c7
      cases hch : chS tx rp with
      | none =>
        rw [hch] at hdc
        refine vx_gon hC hFt hini (vx_ends hC hr hlk) jc_Dk_respond 18 1 (by decide) rfl ?_
        refine Vx.subL (lv' := [(0, .ref (b 0)), (1, .null), (2, .int 406)]) [2, 1, 0] rfl ?_
        refine Vx.eqs rfl (lv2 := [(0, .ref (b 0)), (1, sjV (sbS sa (dcS ly rp me tx).2.1)), (2, .int (nI (dcS ly rp me tx).1))]) (by rw [hdc]; rfl) rfl rfl ?_
        exact tail ((q1, q2, u3, u4, u5), kp, g1, g2) ⟨hq1, hq2, ho3, ho4, ho5, hkp, fun z => by rw [hdc] at z; have z : (406 : Nat) = 206 := z; exact absurd z (by decide)⟩
      | some i =>
        rw [hch] at hdc
        have hil := chS_lt hch
        refine vx_gon hC hFt hini (vx_ends hC hr hlk) jc_Dk_respond 15 4 (by decide) rfl ?_
        refine dx_call (wr := (acW tc b q1 ++ laW tc b q2 ++ (rsW tc (b 8) (b 20) (b 21) (b 22) cd0 sj0 bs0 pc0 bl0 f1 f2) ++ (sbW tc (b 22) v ml L.length M9 a))) (wc := ([dkC b (nI rp.length)] ++ tgW tc b u3 ++ daW tc b ly u4 ++ rnW tc b u5 kp g1 g2)) hC (c_Dk_codeFor l D tys tc hty b ro (nI rp.length) tx hx K me (sa i) i (rp.getD i (0, 0, 0, 0, false, 0)) (rps_get hrp hil) ly hly u3 u4 ho3 ho4 u5 kp g1 g2 ho5 hkp) ⟨hF.1, hrf i hil⟩ (cw_V wm_Dk_codeFor wl_Dk_109 wi_Dk_codeFor ws_Dk_Dk_codeFor hC.2.2.2.2.1 ⟨by decide, by decide⟩) [0, 5, 6, 7, 8, 9, 10, 11, 12] [1, 2, 3, 4, 13, 14, 15, 16, 17] rfl rfl rfl rfl (by decide) rfl rfl rfl rfl rfl (Nat.le_of_ble_eq_true rfl) ⟨by decide, by decide⟩ (fun r' w' hp => ?_)
        obtain ⟨rfl, t3, t4, t5, kp2, k1, k2, rfl, ht3, ht4, ht5, hkp2, hpa⟩ := hp
        refine ⟨[9, 0, 1, 2, 3, 10, 11, 12, 13, 14, 15, 16, 17, 4, 5, 6, 7, 8], ([dkC b (nI rp.length)] ++ acW tc b q1 ++ laW tc b q2 ++ tgW tc b t3 ++ daW tc b ly t4 ++ rnW tc b t5 kp2 k1 k2 ++ (rsW tc (b 8) (b 20) (b 21) (b 22) cd0 sj0 bs0 pc0 bl0 f1 f2) ++ (sbW tc (b 22) v ml L.length M9 a)), rfl, rfl, ?_⟩
        refine Vx.subL (lv' := [(0, .ref (b 0)), (1, .ref (sa i)), (2, .int (nI (if 0 < cnS ly tx (rp.getD i (0, 0, 0, 0, false, 0)) then cnS ly tx (rp.getD i (0, 0, 0, 0, false, 0)) else (rgS ly me tx (rp.getD i (0, 0, 0, 0, false, 0))).1)))]) [2, 1, 0] rfl ?_
        refine Vx.eqs rfl (lv2 := [(0, .ref (b 0)), (1, sjV (sbS sa (dcS ly rp me tx).2.1)), (2, .int (nI (dcS ly rp me tx).1))]) (by rw [hdc]; rfl) rfl rfl ?_
        exact tail ((q1, q2, t3, t4, t5), kp2, k1, k2) ⟨hq1, hq2, ht3, ht4, ht5, hkp2, fun z => by rw [hdc] at z ⊢; exact hpa z⟩ --STOP
  · intro u hu
    obtain ⟨j1, j2, j3, j4, j5, j6, j7⟩ := hu
    obtain ⟨hok, hcd⟩ := dc_ok (ly := ly) (me := me) (tx := tx) hrp j6 j7
    rcases sjV_or (sbS sa (dcS ly rp me tx).2.1) with hv9 | ⟨a9, hv9⟩
    · skip
      refine Vx.eqs rfl (lv2 := [(0, .ref (b 0)), (1, .null), (2, .int (nI (dcS ly rp me tx).1))]) (by rw [hv9]) rfl rfl ?_
      refine vx_go hC hFt hini (vx_ends hC hr hlk) jc_Dk_respond 19 (by decide) rfl ?_
      refine And.intro rfl ?_
      refine And.intro rfl ?_
      refine ⟨_, ⟨"OriginDesk$Request", "method", "I", "OriginDesk$Request", hF.1.2.2.1, Or.inl (hC.2.2.2.2.1 _ (List.mem_cons_of_mem _ wf_Dk_113)), fun _ z => z⟩, ?_⟩
      refine And.intro (fun c27 => ?_) (fun c27 => ?_)
      · skip
        have c27 : ¬ me = 1 := c27
        refine vx_go hC hFt hini (vx_ends hC hr hlk) jc_Dk_respond 30 (by decide) rfl ?_
        refine And.intro rfl ?_
        refine dx_call (rest := []) (wr := ([dkC b (nI rp.length)] ++ acW tc b u.1.1 ++ laW tc b u.1.2.1 ++ tgW tc b u.1.2.2.1 ++ daW tc b ly u.1.2.2.2.1) ++ [(b 17, .inl (tc 0, 96, .inl u.1.2.2.2.2.2.2.2))]) (wc := (rsW tc (b 8) (b 20) (b 21) (b 22) cd0 sj0 bs0 pc0 bl0 f1 f2) ++ (sbW tc (b 22) v ml L.length M9 a) ++ [(b 7, .inr (4, [.ref u.1.2.2.2.2.1, .int (u.1.2.2.2.2.2.2.1 0), .int (u.1.2.2.2.2.2.2.1 1), .ref (b 17), .int (nI u.1.2.2.2.2.2.1), .ref (b 18), .ref (b 19), .int (u.1.2.2.2.2.2.2.1 2), .int (nI u.2.1.length)])), (b 18, .inl (tc 0, 4, .inl u.2.2.1)), (b 19, .inl (tc 0, 4, .inl u.2.2.2))]) hC (c_Rs_settle l D tys tc hty (b 8) (b 20) (b 21) (b 22) cd0 sj0 bs0 pc0 bl0 f1 f2 K v ml M9 a L hL hf hm (b 7) u.1.2.2.2.2.1 (b 17) (b 18) (b 19) (u.1.2.2.2.2.2.2.1 0) (u.1.2.2.2.2.2.2.1 1) u.1.2.2.2.2.2.1 (u.1.2.2.2.2.2.2.1 2) u.2.1 u.2.2.1 u.2.2.2 j6 (nI (dcS ly rp me tx).1) (sbS sa (dcS ly rp me tx).2.1) false (dcS ly rp me tx).2.2 (fun z => (j7 ((nI_eq (b := 206) (by omega) (by decide)).mp z)).symm) (fun z => Classical.byContradiction (fun y9 => z (hok.2.1.mpr y9))) (by rw [sbS_N]; exact hok)) ⟨shF_sj hF.2 dc_ch, hF.1.2.1⟩ (cw_V wm_Rs_settle wl_Dk_116 wi_Rs_settle ws_Rs_Rs_settle hC.2.2.2.2.1 ⟨by decide, by decide⟩) [13, 14, 15, 16, 17, 9, 11, 12] [0, 1, 2, 3, 4, 5, 6, 7, 8, 10] rfl rfl rfl rfl (by decide) rfl rfl rfl rfl (by rw [hv9]; rfl) (Nat.le_of_ble_eq_true rfl) ⟨by decide, by decide⟩ (fun r' w' hp => ?_)
        obtain ⟨rfl, q1, q2, w2, rfl, ⟨L2, v2, l2, m2, a2, rfl, hX⟩, hk2⟩ := hp
        refine ⟨[0, 1, 2, 3, 4, 5, 6, 7, 8, 15, 9, 16, 17, 10, 11, 12, 13, 14], ([dkC b (nI rp.length)] ++ acW tc b u.1.1 ++ laW tc b u.1.2.1 ++ tgW tc b u.1.2.2.1 ++ daW tc b ly u.1.2.2.2.1 ++ rnW tc b u.1.2.2.2.2 u.2.1 u.2.2.1 u.2.2.2 ++ (rpW tc b (nI (dcS ly rp me tx).1) (sbS sa (dcS ly rp me tx).2.1) false (dcS ly rp me tx).2.2 q1 q2) ++ (sbW tc (b 22) v2 l2 L2.length m2 a2)), rfl, rfl, ?_⟩
        refine And.intro (trivial) (And.intro ?_ (And.intro (Nat.le_of_ble_eq_true rfl) (Nat.le_of_ble_eq_true rfl)))
        rw [decide_eq_false c27]
        exact ⟨rfl, u.1.1, u.1.2.1, u.1.2.2.1, u.1.2.2.2.1, u.1.2.2.2.2, u.2.1, u.2.2.1, u.2.2.2, q1, q2, _, rfl, ⟨L2, v2, l2, m2, a2, rfl, hX⟩, hk2, j1, j2, j3, j4, j5, j6⟩
      · skip
        have c27 : me = 1 := c27
        refine vx_go hC hFt hini (vx_ends hC hr hlk) jc_Dk_respond 31 (by decide) rfl ?_
        refine And.intro rfl ?_
        refine dx_call (rest := []) (wr := ([dkC b (nI rp.length)] ++ acW tc b u.1.1 ++ laW tc b u.1.2.1 ++ tgW tc b u.1.2.2.1 ++ daW tc b ly u.1.2.2.2.1) ++ [(b 17, .inl (tc 0, 96, .inl u.1.2.2.2.2.2.2.2))]) (wc := (rsW tc (b 8) (b 20) (b 21) (b 22) cd0 sj0 bs0 pc0 bl0 f1 f2) ++ (sbW tc (b 22) v ml L.length M9 a) ++ [(b 7, .inr (4, [.ref u.1.2.2.2.2.1, .int (u.1.2.2.2.2.2.2.1 0), .int (u.1.2.2.2.2.2.2.1 1), .ref (b 17), .int (nI u.1.2.2.2.2.2.1), .ref (b 18), .ref (b 19), .int (u.1.2.2.2.2.2.2.1 2), .int (nI u.2.1.length)])), (b 18, .inl (tc 0, 4, .inl u.2.2.1)), (b 19, .inl (tc 0, 4, .inl u.2.2.2))]) hC (c_Rs_settle l D tys tc hty (b 8) (b 20) (b 21) (b 22) cd0 sj0 bs0 pc0 bl0 f1 f2 K v ml M9 a L hL hf hm (b 7) u.1.2.2.2.2.1 (b 17) (b 18) (b 19) (u.1.2.2.2.2.2.2.1 0) (u.1.2.2.2.2.2.2.1 1) u.1.2.2.2.2.2.1 (u.1.2.2.2.2.2.2.1 2) u.2.1 u.2.2.1 u.2.2.2 j6 (nI (dcS ly rp me tx).1) (sbS sa (dcS ly rp me tx).2.1) true (dcS ly rp me tx).2.2 (fun z => (j7 ((nI_eq (b := 206) (by omega) (by decide)).mp z)).symm) (fun z => Classical.byContradiction (fun y9 => z (hok.2.1.mpr y9))) (by rw [sbS_N]; exact hok)) ⟨shF_sj hF.2 dc_ch, hF.1.2.1⟩ (cw_V wm_Rs_settle wl_Dk_116 wi_Rs_settle ws_Rs_Rs_settle hC.2.2.2.2.1 ⟨by decide, by decide⟩) [13, 14, 15, 16, 17, 9, 11, 12] [0, 1, 2, 3, 4, 5, 6, 7, 8, 10] rfl rfl rfl rfl (by decide) rfl rfl rfl rfl (by rw [hv9]; rfl) (Nat.le_of_ble_eq_true rfl) ⟨by decide, by decide⟩ (fun r' w' hp => ?_)
        obtain ⟨rfl, q1, q2, w2, rfl, ⟨L2, v2, l2, m2, a2, rfl, hX⟩, hk2⟩ := hp
        refine ⟨[0, 1, 2, 3, 4, 5, 6, 7, 8, 15, 9, 16, 17, 10, 11, 12, 13, 14], ([dkC b (nI rp.length)] ++ acW tc b u.1.1 ++ laW tc b u.1.2.1 ++ tgW tc b u.1.2.2.1 ++ daW tc b ly u.1.2.2.2.1 ++ rnW tc b u.1.2.2.2.2 u.2.1 u.2.2.1 u.2.2.2 ++ (rpW tc b (nI (dcS ly rp me tx).1) (sbS sa (dcS ly rp me tx).2.1) true (dcS ly rp me tx).2.2 q1 q2) ++ (sbW tc (b 22) v2 l2 L2.length m2 a2)), rfl, rfl, ?_⟩
        refine And.intro (trivial) (And.intro ?_ (And.intro (Nat.le_of_ble_eq_true rfl) (Nat.le_of_ble_eq_true rfl)))
        rw [decide_eq_true c27]
        exact ⟨rfl, u.1.1, u.1.2.1, u.1.2.2.1, u.1.2.2.2.1, u.1.2.2.2.2, u.2.1, u.2.2.1, u.2.2.2, q1, q2, _, rfl, ⟨L2, v2, l2, m2, a2, rfl, hX⟩, hk2, j1, j2, j3, j4, j5, j6⟩
    · skip
      refine Vx.eqs rfl (lv2 := [(0, .ref (b 0)), (1, .ref a9), (2, .int (nI (dcS ly rp me tx).1))]) (by rw [hv9]) rfl rfl ?_
      refine vx_go hC hFt hini (vx_ends hC hr hlk) jc_Dk_respond 19 (by decide) rfl ?_
      refine And.intro rfl ?_
      refine And.intro rfl ?_
      refine ⟨_, ⟨"OriginDesk$Request", "method", "I", "OriginDesk$Request", hF.1.2.2.1, Or.inl (hC.2.2.2.2.1 _ (List.mem_cons_of_mem _ wf_Dk_113)), fun _ z => z⟩, ?_⟩
      refine And.intro (fun c27 => ?_) (fun c27 => ?_)
      · skip
        have c27 : ¬ me = 1 := c27
        refine vx_go hC hFt hini (vx_ends hC hr hlk) jc_Dk_respond 30 (by decide) rfl ?_
        refine And.intro rfl ?_
        refine dx_call (rest := []) (wr := ([dkC b (nI rp.length)] ++ acW tc b u.1.1 ++ laW tc b u.1.2.1 ++ tgW tc b u.1.2.2.1 ++ daW tc b ly u.1.2.2.2.1) ++ [(b 17, .inl (tc 0, 96, .inl u.1.2.2.2.2.2.2.2))]) (wc := (rsW tc (b 8) (b 20) (b 21) (b 22) cd0 sj0 bs0 pc0 bl0 f1 f2) ++ (sbW tc (b 22) v ml L.length M9 a) ++ [(b 7, .inr (4, [.ref u.1.2.2.2.2.1, .int (u.1.2.2.2.2.2.2.1 0), .int (u.1.2.2.2.2.2.2.1 1), .ref (b 17), .int (nI u.1.2.2.2.2.2.1), .ref (b 18), .ref (b 19), .int (u.1.2.2.2.2.2.2.1 2), .int (nI u.2.1.length)])), (b 18, .inl (tc 0, 4, .inl u.2.2.1)), (b 19, .inl (tc 0, 4, .inl u.2.2.2))]) hC (c_Rs_settle l D tys tc hty (b 8) (b 20) (b 21) (b 22) cd0 sj0 bs0 pc0 bl0 f1 f2 K v ml M9 a L hL hf hm (b 7) u.1.2.2.2.2.1 (b 17) (b 18) (b 19) (u.1.2.2.2.2.2.2.1 0) (u.1.2.2.2.2.2.2.1 1) u.1.2.2.2.2.2.1 (u.1.2.2.2.2.2.2.1 2) u.2.1 u.2.2.1 u.2.2.2 j6 (nI (dcS ly rp me tx).1) (sbS sa (dcS ly rp me tx).2.1) false (dcS ly rp me tx).2.2 (fun z => (j7 ((nI_eq (b := 206) (by omega) (by decide)).mp z)).symm) (fun z => Classical.byContradiction (fun y9 => z (hok.2.1.mpr y9))) (by rw [sbS_N]; exact hok)) ⟨shF_sj hF.2 dc_ch, hF.1.2.1⟩ (cw_V wm_Rs_settle wl_Dk_116 wi_Rs_settle ws_Rs_Rs_settle hC.2.2.2.2.1 ⟨by decide, by decide⟩) [13, 14, 15, 16, 17, 9, 11, 12] [0, 1, 2, 3, 4, 5, 6, 7, 8, 10] rfl rfl rfl rfl (by decide) rfl rfl rfl rfl (by rw [hv9]; rfl) (Nat.le_of_ble_eq_true rfl) ⟨by decide, by decide⟩ (fun r' w' hp => ?_)
        obtain ⟨rfl, q1, q2, w2, rfl, ⟨L2, v2, l2, m2, a2, rfl, hX⟩, hk2⟩ := hp
        refine ⟨[0, 1, 2, 3, 4, 5, 6, 7, 8, 15, 9, 16, 17, 10, 11, 12, 13, 14], ([dkC b (nI rp.length)] ++ acW tc b u.1.1 ++ laW tc b u.1.2.1 ++ tgW tc b u.1.2.2.1 ++ daW tc b ly u.1.2.2.2.1 ++ rnW tc b u.1.2.2.2.2 u.2.1 u.2.2.1 u.2.2.2 ++ (rpW tc b (nI (dcS ly rp me tx).1) (sbS sa (dcS ly rp me tx).2.1) false (dcS ly rp me tx).2.2 q1 q2) ++ (sbW tc (b 22) v2 l2 L2.length m2 a2)), rfl, rfl, ?_⟩
        refine And.intro (trivial) (And.intro ?_ (And.intro (Nat.le_of_ble_eq_true rfl) (Nat.le_of_ble_eq_true rfl)))
        rw [decide_eq_false c27]
        exact ⟨rfl, u.1.1, u.1.2.1, u.1.2.2.1, u.1.2.2.2.1, u.1.2.2.2.2, u.2.1, u.2.2.1, u.2.2.2, q1, q2, _, rfl, ⟨L2, v2, l2, m2, a2, rfl, hX⟩, hk2, j1, j2, j3, j4, j5, j6⟩
      · skip
        have c27 : me = 1 := c27
        refine vx_go hC hFt hini (vx_ends hC hr hlk) jc_Dk_respond 31 (by decide) rfl ?_
        refine And.intro rfl ?_
        refine dx_call (rest := []) (wr := ([dkC b (nI rp.length)] ++ acW tc b u.1.1 ++ laW tc b u.1.2.1 ++ tgW tc b u.1.2.2.1 ++ daW tc b ly u.1.2.2.2.1) ++ [(b 17, .inl (tc 0, 96, .inl u.1.2.2.2.2.2.2.2))]) (wc := (rsW tc (b 8) (b 20) (b 21) (b 22) cd0 sj0 bs0 pc0 bl0 f1 f2) ++ (sbW tc (b 22) v ml L.length M9 a) ++ [(b 7, .inr (4, [.ref u.1.2.2.2.2.1, .int (u.1.2.2.2.2.2.2.1 0), .int (u.1.2.2.2.2.2.2.1 1), .ref (b 17), .int (nI u.1.2.2.2.2.2.1), .ref (b 18), .ref (b 19), .int (u.1.2.2.2.2.2.2.1 2), .int (nI u.2.1.length)])), (b 18, .inl (tc 0, 4, .inl u.2.2.1)), (b 19, .inl (tc 0, 4, .inl u.2.2.2))]) hC (c_Rs_settle l D tys tc hty (b 8) (b 20) (b 21) (b 22) cd0 sj0 bs0 pc0 bl0 f1 f2 K v ml M9 a L hL hf hm (b 7) u.1.2.2.2.2.1 (b 17) (b 18) (b 19) (u.1.2.2.2.2.2.2.1 0) (u.1.2.2.2.2.2.2.1 1) u.1.2.2.2.2.2.1 (u.1.2.2.2.2.2.2.1 2) u.2.1 u.2.2.1 u.2.2.2 j6 (nI (dcS ly rp me tx).1) (sbS sa (dcS ly rp me tx).2.1) true (dcS ly rp me tx).2.2 (fun z => (j7 ((nI_eq (b := 206) (by omega) (by decide)).mp z)).symm) (fun z => Classical.byContradiction (fun y9 => z (hok.2.1.mpr y9))) (by rw [sbS_N]; exact hok)) ⟨shF_sj hF.2 dc_ch, hF.1.2.1⟩ (cw_V wm_Rs_settle wl_Dk_116 wi_Rs_settle ws_Rs_Rs_settle hC.2.2.2.2.1 ⟨by decide, by decide⟩) [13, 14, 15, 16, 17, 9, 11, 12] [0, 1, 2, 3, 4, 5, 6, 7, 8, 10] rfl rfl rfl rfl (by decide) rfl rfl rfl rfl (by rw [hv9]; rfl) (Nat.le_of_ble_eq_true rfl) ⟨by decide, by decide⟩ (fun r' w' hp => ?_)
        obtain ⟨rfl, q1, q2, w2, rfl, ⟨L2, v2, l2, m2, a2, rfl, hX⟩, hk2⟩ := hp
        refine ⟨[0, 1, 2, 3, 4, 5, 6, 7, 8, 15, 9, 16, 17, 10, 11, 12, 13, 14], ([dkC b (nI rp.length)] ++ acW tc b u.1.1 ++ laW tc b u.1.2.1 ++ tgW tc b u.1.2.2.1 ++ daW tc b ly u.1.2.2.2.1 ++ rnW tc b u.1.2.2.2.2 u.2.1 u.2.2.1 u.2.2.2 ++ (rpW tc b (nI (dcS ly rp me tx).1) (sbS sa (dcS ly rp me tx).2.1) true (dcS ly rp me tx).2.2 q1 q2) ++ (sbW tc (b 22) v2 l2 L2.length m2 a2)), rfl, rfl, ?_⟩
        refine And.intro (trivial) (And.intro ?_ (And.intro (Nat.le_of_ble_eq_true rfl) (Nat.le_of_ble_eq_true rfl)))
        rw [decide_eq_true c27]
        exact ⟨rfl, u.1.1, u.1.2.1, u.1.2.2.1, u.1.2.2.2.1, u.1.2.2.2.2, u.2.1, u.2.2.1, u.2.2.2, q1, q2, _, rfl, ⟨L2, v2, l2, m2, a2, rfl, hX⟩, hk2, j1, j2, j3, j4, j5, j6⟩
def j_Dk_statusR : wq_J := [(.aload_n 0, (0, 0, 0, 0, 0)), (.getfield 53, (1, 0, 8, 0, 0)), (.getfield 120, (1, 1, 0, 0, 0)), (.ireturn, (0, 0, 0, 0, 0))]
theorem jc_Dk_statusR : wq_c b_Dk_status 1 j_Dk_statusR 0 = true := by decide +kernel
set_option maxRecDepth 100000 in
set_option maxHeartbeats 4000000 in
theorem c_Dk_status (l : Launch) (D : va_G) (tys : List (ClassId × FieldType)) (tc : Nat → ClassId) (hty : ∀ i : Nat, i < 4 → tys[i]? = some (tc i, vx_ty i)) (b : Nat → Nat) (cn : Int32) (cd : Int32) (sb9 : Option (Nat × Nat × Nat)) (ho : Bool) (pa : List (Nat × Nat)) (f1 f2 : Nat → Int32) : Kt l y_Dk_status (yw y_Dk_status b_Dk_status 1 (some .int)) 0 0 0 0 D cls tys (fun _ _ _ => True) [.ref (b 0)] ([dkC b cn] ++ rpW tc b cd sb9 ho pa f1 f2) (fun r w => r = some (.int cd) ∧ w = ([dkC b cn] ++ rpW tc b cd sb9 ho pa f1 f2)) := by
  refine Kt.of ro_true (by decide) rfl hty (Nat.le_of_ble_eq_true rfl) ?_
  intro p e s m args below meth c0 A hC hr hlk hnm hF
  have hFt : vx_Ft y_Dk_status.cls (yw y_Dk_status b_Dk_status 1 (some .int)) cls cty ft_Dk := ft_of (fun w h => List.mem_cons_of_mem _ h) fl_Dk_in ft_Dk_b
  have hini : false = true → meth.name = "<init>" := fun h => by cases h
  refine vx_go hC hFt hini (vx_ends hC hr hlk) jc_Dk_statusR 0 (by decide) rfl ?_
  refine And.intro rfl ?_
  refine And.intro rfl ?_
  refine And.intro (trivial) (And.intro ?_ (And.intro (Nat.le_refl _) (Nat.le_refl _)))
  exact And.intro rfl rfl
def j_Dk_lengthR : wq_J := [(.aload_n 0, (0, 0, 0, 0, 0)), (.getfield 53, (1, 0, 8, 0, 0)), (.getfield 130, (1, 1, 2, 0, 0)), (.i2l, (0, 0, 0, 0, 0)), (.lreturn, (0, 0, 0, 0, 0))]
theorem jc_Dk_lengthR : wq_c b_Dk_length 1 j_Dk_lengthR 0 = true := by decide +kernel
set_option maxRecDepth 100000 in
set_option maxHeartbeats 4000000 in
theorem c_Dk_length (l : Launch) (D : va_G) (tys : List (ClassId × FieldType)) (tc : Nat → ClassId) (hty : ∀ i : Nat, i < 4 → tys[i]? = some (tc i, vx_ty i)) (b : Nat → Nat) (cn : Int32) (cd : Int32) (sb9 : Option (Nat × Nat × Nat)) (ho : Bool) (pa : List (Nat × Nat)) (f1 f2 : Nat → Int32) (hb : lnS cd (sjN sb9) pa < 2 ^ 31) : Kt l y_Dk_length (yw y_Dk_length b_Dk_length 1 (some .long)) 0 0 0 0 D cls tys (fun _ _ _ => True) [.ref (b 0)] ([dkC b cn] ++ rpW tc b cd sb9 ho pa f1 f2) (fun r w => r = some (.long (lN (lnS cd (sjN sb9) pa))) ∧ w = ([dkC b cn] ++ rpW tc b cd sb9 ho pa f1 f2)) := by
  refine Kt.of ro_true (by decide) rfl hty (Nat.le_of_ble_eq_true rfl) ?_
  intro p e s m args below meth c0 A hC hr hlk hnm hF
  have hFt : vx_Ft y_Dk_length.cls (yw y_Dk_length b_Dk_length 1 (some .long)) cls cty ft_Dk := ft_of (fun w h => List.mem_cons_of_mem _ h) fl_Dk_in ft_Dk_b
  have hini : false = true → meth.name = "<init>" := fun h => by cases h
  refine vx_go hC hFt hini (vx_ends hC hr hlk) jc_Dk_lengthR 0 (by decide) rfl ?_
  refine And.intro rfl ?_
  refine And.intro rfl ?_
  refine And.intro (trivial) (And.intro ?_ (And.intro (Nat.le_refl _) (Nat.le_refl _)))
  refine And.intro ?_ rfl
  exact congrArg (fun z => some (Value.long z)) (lN_n hb)
def j_Dk_partsR : wq_J := [(.aload_n 0, (0, 0, 0, 0, 0)), (.getfield 53, (1, 0, 8, 0, 0)), (.getfield 137, (1, 1, 3, 0, 0)), (.ireturn, (0, 0, 0, 0, 0))]
theorem jc_Dk_partsR : wq_c b_Dk_parts 1 j_Dk_partsR 0 = true := by decide +kernel
set_option maxRecDepth 100000 in
set_option maxHeartbeats 4000000 in
theorem c_Dk_parts (l : Launch) (D : va_G) (tys : List (ClassId × FieldType)) (tc : Nat → ClassId) (hty : ∀ i : Nat, i < 4 → tys[i]? = some (tc i, vx_ty i)) (b : Nat → Nat) (cn : Int32) (cd : Int32) (sb9 : Option (Nat × Nat × Nat)) (ho : Bool) (pa : List (Nat × Nat)) (f1 f2 : Nat → Int32) : Kt l y_Dk_parts (yw y_Dk_parts b_Dk_parts 1 (some .int)) 0 0 0 0 D cls tys (fun _ _ _ => True) [.ref (b 0)] ([dkC b cn] ++ rpW tc b cd sb9 ho pa f1 f2) (fun r w => r = some (.int (nI pa.length)) ∧ w = ([dkC b cn] ++ rpW tc b cd sb9 ho pa f1 f2)) := by
  refine Kt.of ro_true (by decide) rfl hty (Nat.le_of_ble_eq_true rfl) ?_
  intro p e s m args below meth c0 A hC hr hlk hnm hF
  have hFt : vx_Ft y_Dk_parts.cls (yw y_Dk_parts b_Dk_parts 1 (some .int)) cls cty ft_Dk := ft_of (fun w h => List.mem_cons_of_mem _ h) fl_Dk_in ft_Dk_b
  have hini : false = true → meth.name = "<init>" := fun h => by cases h
  refine vx_go hC hFt hini (vx_ends hC hr hlk) jc_Dk_partsR 0 (by decide) rfl ?_
  refine And.intro rfl ?_
  refine And.intro rfl ?_
  refine And.intro (trivial) (And.intro ?_ (And.intro (Nat.le_refl _) (Nat.le_refl _)))
  exact And.intro rfl rfl
def j_Dk_chosenNR : wq_J := [(.aload_n 0, (0, 0, 0, 0, 0)), (.getfield 53, (1, 0, 8, 0, 0)), (.getfield 123, (1, 1, 1, 0, 0)), (.ifnonnull 7, (0, 14, 0, 0, 0)), (.iconst (-1), (0, 0, 0, (-1), 0)), (.goto 13, (0, 24, 0, 0, 0)), (.aload_n 0, (0, 0, 0, 0, 0)), (.getfield 53, (1, 0, 8, 0, 0)), (.getfield 123, (1, 1, 1, 0, 0)), (.getfield 127, (2, 0, 0, 0, 0)), (.ireturn, (0, 0, 0, 0, 0))]
theorem jc_Dk_chosenNR : wq_c b_Dk_chosen 1 j_Dk_chosenNR 0 = true := by decide +kernel
set_option maxRecDepth 100000 in
set_option maxHeartbeats 4000000 in
theorem c_Dk_chosenN (l : Launch) (D : va_G) (tys : List (ClassId × FieldType)) (tc : Nat → ClassId) (hty : ∀ i : Nat, i < 4 → tys[i]? = some (tc i, vx_ty i)) (b : Nat → Nat) (cn : Int32) (cd : Int32) (ho : Bool) (pa : List (Nat × Nat)) (f1 f2 : Nat → Int32) : Kt l y_Dk_chosen (yw y_Dk_chosen b_Dk_chosen 1 (some .int)) 0 0 0 0 D cls tys (fun _ _ _ => True) [.ref (b 0)] ([dkC b cn] ++ rpW tc b cd none ho pa f1 f2) (fun r w => r = some (.int (-1)) ∧ w = ([dkC b cn] ++ rpW tc b cd none ho pa f1 f2)) := by
  refine Kt.of ro_true (by decide) rfl hty (Nat.le_of_ble_eq_true rfl) ?_
  intro p e s m args below meth c0 A hC hr hlk hnm hF
  have hFt : vx_Ft y_Dk_chosen.cls (yw y_Dk_chosen b_Dk_chosen 1 (some .int)) cls cty ft_Dk := ft_of (fun w h => List.mem_cons_of_mem _ h) fl_Dk_in ft_Dk_b
  have hini : false = true → meth.name = "<init>" := fun h => by cases h
  refine vx_go hC hFt hini (vx_ends hC hr hlk) jc_Dk_chosenNR 0 (by decide) rfl ?_
  refine And.intro rfl ?_
  refine And.intro rfl ?_
  refine vx_go hC hFt hini (vx_ends hC hr hlk) jc_Dk_chosenNR 10 (by decide) rfl ?_
  refine And.intro (trivial) (And.intro ?_ (And.intro (Nat.le_refl _) (Nat.le_refl _)))
  exact And.intro rfl rfl
def j_Dk_chosenSR : wq_J := [(.aload_n 0, (0, 0, 0, 0, 0)), (.getfield 53, (1, 0, 8, 0, 0)), (.getfield 123, (1, 1, 1, 0, 0)), (.ifnonnull 7, (0, 14, 0, 0, 0)), (.iconst (-1), (0, 0, 0, (-1), 0)), (.goto 13, (0, 24, 0, 0, 0)), (.aload_n 0, (0, 0, 0, 0, 0)), (.getfield 53, (1, 0, 8, 0, 0)), (.getfield 123, (1, 1, 1, 0, 0)), (.getfield 127, (2, 0, 0, 0, 0)), (.ireturn, (0, 0, 0, 0, 0))]
theorem jc_Dk_chosenSR : wq_c b_Dk_chosen 1 j_Dk_chosenSR 0 = true := by decide +kernel
set_option maxRecDepth 100000 in
set_option maxHeartbeats 4000000 in
theorem c_Dk_chosenS (l : Launch) (D : va_G) (tys : List (ClassId × FieldType)) (tc : Nat → ClassId) (hty : ∀ i : Nat, i < 4 → tys[i]? = some (tc i, vx_ty i)) (b : Nat → Nat) (cn : Int32) (cd : Int32) (ho : Bool) (pa : List (Nat × Nat)) (f1 f2 : Nat → Int32) (v : Nat × Nat × Nat) : Kt l y_Dk_chosen (yw y_Dk_chosen b_Dk_chosen 1 (some .int)) 0 0 0 0 D cls tys (spF v.1 v.2.1 v.2.2) [.ref (b 0)] ([dkC b cn] ++ rpW tc b cd (some v) ho pa f1 f2) (fun r w => r = some (.int (nI v.2.1)) ∧ w = ([dkC b cn] ++ rpW tc b cd (some v) ho pa f1 f2)) := by
  refine Kt.of (spF_ro _ _ _) (by decide) rfl hty (Nat.le_of_ble_eq_true rfl) ?_
  intro p e s m args below meth c0 A hC hr hlk hnm hF
  have hFt : vx_Ft y_Dk_chosen.cls (yw y_Dk_chosen b_Dk_chosen 1 (some .int)) cls cty ft_Dk := ft_of (fun w h => List.mem_cons_of_mem _ h) fl_Dk_in ft_Dk_b
  have hini : false = true → meth.name = "<init>" := fun h => by cases h
  refine vx_go hC hFt hini (vx_ends hC hr hlk) jc_Dk_chosenSR 0 (by decide) rfl ?_
  refine And.intro rfl ?_
  refine And.intro rfl ?_
  refine vx_go hC hFt hini (vx_ends hC hr hlk) jc_Dk_chosenSR 6 (by decide) rfl ?_
  refine And.intro rfl ?_
  refine And.intro rfl ?_
  refine ⟨_, ⟨"OriginDesk$Representation", "number", "I", "OriginDesk$Representation", hF.2.1, Or.inl (hC.2.2.2.2.1 _ (List.mem_cons_of_mem _ wf_Dk_127)), fun _ z => z⟩, ?_⟩
  refine And.intro (trivial) (And.intro ?_ (And.intro (Nat.le_refl _) (Nat.le_refl _)))
  exact And.intro rfl rfl
theorem c_Dk_chosen (l : Launch) (D : va_G) (tys : List (ClassId × FieldType)) (tc : Nat → ClassId) (hty : ∀ i : Nat, i < 4 → tys[i]? = some (tc i, vx_ty i)) (b : Nat → Nat) (cn : Int32) (cd : Int32) (sb9 : Option (Nat × Nat × Nat)) (ho : Bool) (pa : List (Nat × Nat)) (f1 f2 : Nat → Int32) : Kt l y_Dk_chosen (yw y_Dk_chosen b_Dk_chosen 1 (some .int)) 0 0 0 0 D cls tys (sjF sb9) [.ref (b 0)] ([dkC b cn] ++ rpW tc b cd sb9 ho pa f1 f2) (fun r w => r = some (.int (iI ((sjN sb9).map Prod.fst))) ∧ w = ([dkC b cn] ++ rpW tc b cd sb9 ho pa f1 f2)) := by
  cases sb9 with
  | none => exact c_Dk_chosenN l D tys tc hty b cn cd ho pa f1 f2
  | some v => exact c_Dk_chosenS l D tys tc hty b cn cd ho pa f1 f2 v
def j_Dk_firstR : wq_J := [(.aload_n 0, (0, 0, 0, 0, 0)), (.getfield 53, (1, 0, 8, 0, 0)), (.iload_n 1, (0, 0, 0, 0, 0)), (.invokevirtual 140, (0, 0, 0, 0, 0)), (.ifCond .eq 15, (0, 23, 0, 0, 0)), (.aload_n 0, (0, 0, 0, 0, 0)), (.getfield 53, (1, 0, 8, 0, 0)), (.getfield 144, (1, 1, 4, 0, 0)), (.iload_n 1, (0, 0, 0, 0, 0)), (.iaload, (1, 2, 0, 0, 0)), (.goto 4, (0, 24, 0, 0, 0)), (.iconst (-1), (0, 0, 0, (-1), 0)), (.ireturn, (0, 0, 0, 0, 0))]
theorem jc_Dk_firstR : wq_c b_Dk_first 2 j_Dk_firstR 0 = true := by decide +kernel
set_option maxRecDepth 100000 in
set_option maxHeartbeats 4000000 in
theorem c_Dk_first (l : Launch) (D : va_G) (tys : List (ClassId × FieldType)) (tc : Nat → ClassId) (hty : ∀ i : Nat, i < 4 → tys[i]? = some (tc i, vx_ty i)) (b : Nat → Nat) (cn : Int32) (cd : Int32) (sb9 : Option (Nat × Nat × Nat)) (ho : Bool) (pa : List (Nat × Nat)) (f1 f2 : Nat → Int32) (hpa : kpA f1 f2 pa) (i : Int32) : Kt l y_Dk_first (yw y_Dk_first b_Dk_first 2 (some .int)) 1 21 0 0 D cls tys (fun _ _ _ => True) [.ref (b 0), .int i] ([dkC b cn] ++ rpW tc b cd sb9 ho pa f1 f2) (fun r w => r = some (.int (fsS pa i)) ∧ w = ([dkC b cn] ++ rpW tc b cd sb9 ho pa f1 f2)) := by
  refine Kt.of ro_true (by decide) rfl hty (Nat.le_of_ble_eq_true rfl) ?_
  intro p e s m args below meth c0 A hC hr hlk hnm hF
  have hFt : vx_Ft y_Dk_first.cls (yw y_Dk_first b_Dk_first 2 (some .int)) cls cty ft_Dk := ft_of (fun w h => List.mem_cons_of_mem _ h) fl_Dk_in ft_Dk_b
  have hini : false = true → meth.name = "<init>" := fun h => by cases h
  refine vx_go hC hFt hini (vx_ends hC hr hlk) jc_Dk_firstR 0 (by decide) rfl ?_
  refine And.intro rfl ?_
  refine dx_call (wr := [dkC b cn] ++ [(b 20, .inl (tc 0, 4, .inl f1)), (b 21, .inl (tc 0, 4, .inl f2))]) (wc := [(b 8, .inr (6, [.int cd, sjV sb9, .int (nI (lnS cd (sjN sb9) pa)), .int (nI pa.length), .ref (b 20), .ref (b 21), .int (bI ho), .ref (b 22)]))]) hC (c_Rs_hasPart l D tys tc hty (b 8) (b 20) (b 21) (b 22) cd (sjV sb9) (nI (lnS cd (sjN sb9) pa)) (bI ho) pa hpa.1 i) trivial (cw_V wm_Rs_hasPart wl_Dk_140 wi_Rs_hasPart ws_Rs_Rs_hasPart hC.2.2.2.2.1 ⟨by decide, by decide⟩) [1] [0, 2, 3] rfl rfl rfl rfl (by decide) rfl rfl rfl rfl rfl (Nat.le_of_ble_eq_true rfl) ⟨by decide, by decide⟩ (fun r' w' hp => ?_)
  obtain ⟨rfl, rfl⟩ := hp
  refine ⟨[0, 3, 1, 2], ([dkC b cn] ++ rpW tc b cd sb9 ho pa f1 f2), rfl, rfl, ?_⟩
  refine And.intro (fun c4 => ?_) (fun c4 => ?_)
  · skip
    have c4 : ¬ (¬ i < 0 ∧ ¬ pa.length ≤ i.toNatClampNeg) := of_decide_eq_false (bI_eq c4)
    refine vx_go hC hFt hini (vx_ends hC hr hlk) jc_Dk_firstR 11 (by decide) rfl ?_
    refine And.intro (trivial) (And.intro ?_ (And.intro (Nat.le_refl _) (Nat.le_refl _)))
    have hv : fsS pa i = -1 := by
      unfold fsS
      split
      · rfl
      · split
        · rfl
        · rename_i z1 z2
          exact absurd ⟨z1, z2⟩ c4
    rw [hv]
    exact And.intro rfl rfl
  · skip
    have c4 : ¬ i < 0 ∧ ¬ pa.length ≤ i.toNatClampNeg := of_decide_eq_true (bI_ne c4)
    obtain ⟨hi1, hi2⟩ := i_nat c4.1
    refine And.intro rfl ?_
    refine And.intro rfl ?_
    refine And.intro rfl (And.intro rfl (And.intro (show vp_in i 4 by rw [hi1]; exact vp_in_nI (by have := hpa.1; omega) (by decide)) ?_))
    rw [show f1 i.toNatClampNeg = _ from (hpa.2 _ (by omega)).1]
    refine vx_go hC hFt hini (vx_ends hC hr hlk) jc_Dk_firstR 12 (by decide) rfl ?_
    refine And.intro (trivial) (And.intro ?_ (And.intro (Nat.le_refl _) (Nat.le_refl _)))
    refine And.intro ?_ rfl
    unfold fsS
    rw [if_neg c4.1, if_neg c4.2]
def j_Dk_lastR : wq_J := [(.aload_n 0, (0, 0, 0, 0, 0)), (.getfield 53, (1, 0, 8, 0, 0)), (.iload_n 1, (0, 0, 0, 0, 0)), (.invokevirtual 140, (0, 0, 0, 0, 0)), (.ifCond .eq 15, (0, 23, 0, 0, 0)), (.aload_n 0, (0, 0, 0, 0, 0)), (.getfield 53, (1, 0, 8, 0, 0)), (.getfield 148, (1, 1, 5, 0, 0)), (.iload_n 1, (0, 0, 0, 0, 0)), (.iaload, (1, 3, 0, 0, 0)), (.goto 4, (0, 24, 0, 0, 0)), (.iconst (-1), (0, 0, 0, (-1), 0)), (.ireturn, (0, 0, 0, 0, 0))]
theorem jc_Dk_lastR : wq_c b_Dk_last 2 j_Dk_lastR 0 = true := by decide +kernel
set_option maxRecDepth 100000 in
set_option maxHeartbeats 4000000 in
theorem c_Dk_last (l : Launch) (D : va_G) (tys : List (ClassId × FieldType)) (tc : Nat → ClassId) (hty : ∀ i : Nat, i < 4 → tys[i]? = some (tc i, vx_ty i)) (b : Nat → Nat) (cn : Int32) (cd : Int32) (sb9 : Option (Nat × Nat × Nat)) (ho : Bool) (pa : List (Nat × Nat)) (f1 f2 : Nat → Int32) (hpa : kpA f1 f2 pa) (i : Int32) : Kt l y_Dk_last (yw y_Dk_last b_Dk_last 2 (some .int)) 1 21 0 0 D cls tys (fun _ _ _ => True) [.ref (b 0), .int i] ([dkC b cn] ++ rpW tc b cd sb9 ho pa f1 f2) (fun r w => r = some (.int (lsS pa i)) ∧ w = ([dkC b cn] ++ rpW tc b cd sb9 ho pa f1 f2)) := by
  refine Kt.of ro_true (by decide) rfl hty (Nat.le_of_ble_eq_true rfl) ?_
  intro p e s m args below meth c0 A hC hr hlk hnm hF
  have hFt : vx_Ft y_Dk_last.cls (yw y_Dk_last b_Dk_last 2 (some .int)) cls cty ft_Dk := ft_of (fun w h => List.mem_cons_of_mem _ h) fl_Dk_in ft_Dk_b
  have hini : false = true → meth.name = "<init>" := fun h => by cases h
  refine vx_go hC hFt hini (vx_ends hC hr hlk) jc_Dk_lastR 0 (by decide) rfl ?_
  refine And.intro rfl ?_
  refine dx_call (wr := [dkC b cn] ++ [(b 20, .inl (tc 0, 4, .inl f1)), (b 21, .inl (tc 0, 4, .inl f2))]) (wc := [(b 8, .inr (6, [.int cd, sjV sb9, .int (nI (lnS cd (sjN sb9) pa)), .int (nI pa.length), .ref (b 20), .ref (b 21), .int (bI ho), .ref (b 22)]))]) hC (c_Rs_hasPart l D tys tc hty (b 8) (b 20) (b 21) (b 22) cd (sjV sb9) (nI (lnS cd (sjN sb9) pa)) (bI ho) pa hpa.1 i) trivial (cw_V wm_Rs_hasPart wl_Dk_140 wi_Rs_hasPart ws_Rs_Rs_hasPart hC.2.2.2.2.1 ⟨by decide, by decide⟩) [1] [0, 2, 3] rfl rfl rfl rfl (by decide) rfl rfl rfl rfl rfl (Nat.le_of_ble_eq_true rfl) ⟨by decide, by decide⟩ (fun r' w' hp => ?_)
  obtain ⟨rfl, rfl⟩ := hp
  refine ⟨[0, 3, 1, 2], ([dkC b cn] ++ rpW tc b cd sb9 ho pa f1 f2), rfl, rfl, ?_⟩
  refine And.intro (fun c4 => ?_) (fun c4 => ?_)
  · skip
    have c4 : ¬ (¬ i < 0 ∧ ¬ pa.length ≤ i.toNatClampNeg) := of_decide_eq_false (bI_eq c4)
    refine vx_go hC hFt hini (vx_ends hC hr hlk) jc_Dk_lastR 11 (by decide) rfl ?_
    refine And.intro (trivial) (And.intro ?_ (And.intro (Nat.le_refl _) (Nat.le_refl _)))
    have hv : lsS pa i = -1 := by
      unfold lsS
      split
      · rfl
      · split
        · rfl
        · rename_i z1 z2
          exact absurd ⟨z1, z2⟩ c4
    rw [hv]
    exact And.intro rfl rfl
  · skip
    have c4 : ¬ i < 0 ∧ ¬ pa.length ≤ i.toNatClampNeg := of_decide_eq_true (bI_ne c4)
    obtain ⟨hi1, hi2⟩ := i_nat c4.1
    refine And.intro rfl ?_
    refine And.intro rfl ?_
    refine And.intro rfl (And.intro rfl (And.intro (show vp_in i 4 by rw [hi1]; exact vp_in_nI (by have := hpa.1; omega) (by decide)) ?_))
    rw [show f2 i.toNatClampNeg = _ from (hpa.2 _ (by omega)).2.1]
    refine vx_go hC hFt hini (vx_ends hC hr hlk) jc_Dk_lastR 12 (by decide) rfl ?_
    refine And.intro (trivial) (And.intro ?_ (And.intro (Nat.le_refl _) (Nat.le_refl _)))
    refine And.intro ?_ rfl
    unfold lsS
    rw [if_neg c4.1, if_neg c4.2]
def j_Dk_bodyR : wq_J := [(.aload_n 0, (0, 0, 0, 0, 0)), (.getfield 53, (1, 0, 8, 0, 0)), (.iload_n 1, (0, 0, 0, 0, 0)), (.invokevirtual 133, (0, 0, 0, 0, 0)), (.ireturn, (0, 0, 0, 0, 0))]
theorem jc_Dk_bodyR : wq_c b_Dk_body 2 j_Dk_bodyR 0 = true := by decide +kernel
set_option maxRecDepth 100000 in
set_option maxHeartbeats 4000000 in
theorem c_Dk_body (l : Launch) (D : va_G) (tys : List (ClassId × FieldType)) (tc : Nat → ClassId) (hty : ∀ i : Nat, i < 4 → tys[i]? = some (tc i, vx_ty i)) (b : Nat → Nat) (cn : Int32) (cd : Int32) (sb9 : Option (Nat × Nat × Nat)) (ho : Bool) (pa : List (Nat × Nat)) (f1 f2 : Nat → Int32) (hpa : kpA f1 f2 pa) (hok : anOk cd (sjN sb9) pa) (K : Nat → Nat) (v : Nat) (ml : Int32) (M9 : Nat) (a : Nat → Int32) (L : List Nat) (hL : sbI a L) (hf : sb_Fit a) (hm : L.length ≤ M9 ∧ 16 ≤ M9 ∧ M9 ≤ 100) (i : Int32) : Kt l y_Dk_body (yw y_Dk_body b_Dk_body 2 (some .int)) 9 215 32 3200 D cls tys (fun A U H => sjF sb9 A U H ∧ gtF K A U H) [.ref (b 0), .int i] ([dkC b cn] ++ rpW tc b cd sb9 ho pa f1 f2 ++ (sbW tc (b 22) v ml L.length M9 a)) (fun r w => r = some (.int (bdS cd (sjN sb9) ho pa i)) ∧ ∃ w2, w = [dkC b cn] ++ rpW tc b cd sb9 ho pa f1 f2 ++ w2 ∧ sbX tc (b 22) w2) := by
  refine Kt.of (ro_and (sjF_ro sb9) (gtF_ro K)) (by decide) rfl hty (Nat.le_of_ble_eq_true rfl) ?_
  intro p e s m args below meth c0 A hC hr hlk hnm hF
  have hFt : vx_Ft y_Dk_body.cls (yw y_Dk_body b_Dk_body 2 (some .int)) cls cty ft_Dk := ft_of (fun w h => List.mem_cons_of_mem _ h) fl_Dk_in ft_Dk_b
  have hini : false = true → meth.name = "<init>" := fun h => by cases h
  refine vx_go hC hFt hini (vx_ends hC hr hlk) jc_Dk_bodyR 0 (by decide) rfl ?_
  refine And.intro rfl ?_
  refine dx_call (wr := [dkC b cn]) (wc := rpW tc b cd sb9 ho pa f1 f2 ++ (sbW tc (b 22) v ml L.length M9 a)) hC (c_Rs_byteAt l D tys tc hty (b 8) (b 20) (b 21) (b 22) cd ho pa f1 f2 hpa sb9 hok K v ml M9 a L hL hf hm i) hF (cw_V wm_Rs_byteAt wl_Dk_133 wi_Rs_byteAt ws_Rs_Rs_byteAt hC.2.2.2.2.1 ⟨by decide, by decide⟩) [1, 2, 3, 4, 5] [0] rfl rfl rfl rfl (by decide) rfl rfl rfl rfl rfl (Nat.le_of_ble_eq_true rfl) ⟨by decide, by decide⟩ (fun r' w' hp => ?_)
  obtain ⟨rfl, w2, rfl, L2, v2, l2, m2, a2, rfl, hX⟩ := hp
  refine ⟨[0, 1, 2, 3, 4, 5], [dkC b cn] ++ rpW tc b cd sb9 ho pa f1 f2 ++ (sbW tc (b 22) v2 l2 L2.length m2 a2), rfl, rfl, ?_⟩
  refine And.intro (trivial) (And.intro ?_ (And.intro (Nat.le_of_ble_eq_true rfl) (Nat.le_of_ble_eq_true rfl)))
  exact ⟨rfl, _, rfl, L2, v2, l2, m2, a2, rfl, hX⟩
