/-! THE CLASS: score, formed, date, clear, request, feed, add, by program (wip/whole/gen/p86.py) -/
section
variable {p : Program} {l : Launch} {e : Env} {R : Room} {s : State} {m : MethodId} {args : Array Value} {below : List Frame} {meth : Method} {c : Code} {cc : ByteArray} {nL : Nat} {D : va_G} {tys : List (ClassId × FieldType)} {A : Nat → Prop} {tc : Nat → ClassId} {Q : State → Prop} {rest : List Value} {k n : Nat} {K : List Value → va_W → Nat → Nat → Prop} {own : String} {Ts : List Cond} {ws : va_W}
/-- the length of an array that is only read -/
theorem sx_alenT {t N : Nat} {f : Nat → Value} {ty : FieldType} (hC : Cx p s m args c cc nL own Ts D cls tys A tc) (hT : va_T ty t N f A s s.heap) (kk : K (.int (nI N) :: rest) ws k n) : vx_SX cc (Vx p l e R s m args below meth c nL D cls A Q) .arraylength 1 (.ref t :: rest) ws k n K := by
  intro pc lv hdg hK H locs ls hP hD hS hl
  exact va_tlen hC.1 hC.2.1 hT hS rfl hdg (hK _ _ _ _ kk H locs ls hP hD hS hl)
/-- an owned object goes into an owned array of its class -/
theorem sx_aast (hC : Cx p s m args c cc nL own Ts D cls tys A tc) (q0 t0 qk ci : Nat) {a : Nat} {cA : ClassId} {r : vw_C} {N v : Nat} {vs : List Value} {f : Nat → Option Nat} (ha : ws[q0]? = some (a, .inl (cA, N, .inr (.inr (.inr (.inr f)))))) (ht : tys[t0]? = some (cA, .object r.1)) (hv : ws[qk]? = some (v, .inr (ci, vs))) (hc : cls[ci]? = some r) {i : Int32} (hin : vp_in i N) (kk : K rest (ws.set q0 (a, .inl (cA, N, .inr (.inr (.inr (.inr (va_up f i.toNatClampNeg (some v)))))))) k n) : vx_SX cc (Vx p l e R s m args below meth c nL D cls A Q) .aastore 1 (.ref v :: .int i :: .ref a :: rest) ws k n K := by
  intro pc lv hdg hK H locs ls hP hD hS hl
  exact va_astq hC.1 hC.2.1 hC.2.2.2.2.2.1 hP hD hS q0 t0 qk ci ha ht hv hc hin hdg (fun H1 locs1 hP hD hS => hK _ _ _ _ kk H1 locs1 ls hP hD hS hl)
end
set_option maxRecDepth 100000 in
set_option maxHeartbeats 4000000 in
theorem c_Dk_score (l : Launch) (D : va_G) (tys : List (ClassId × FieldType)) (tc : Nat → ClassId) (hty : ∀ i : Nat, i < 4 → tys[i]? = some (tc i, vx_ty i)) (b ro : Nat → Nat) (tx : Nat → List Nat) (hx : ∀ G, G < 8 → isT (tx G)) (K : Nat → Nat) (me : Int32) (sa : Nat → Nat) (rp : List Rp) (hrp : rpsOk rp) (u1 u2 : RSt) (ho1 : okR b ro 0 u1.1) (ho2 : okR b ro 1 u2.1) (n9 : Int32) : Kt l y_Dk_score (yw y_Dk_score b_Dk_score 2 (some .int)) 9 197 0 0 D cls tys (fun A U H => qF b ro tx K me A U H ∧ shF b sa rp K A U H) [.ref (b 0), .int n9] ([dkC b (nI rp.length)] ++ acW tc b u1 ++ laW tc b u2) (fun r w => r = some (.int (soS tx rp n9)) ∧ ∃ q1 q2, w = ([dkC b (nI rp.length)] ++ acW tc b q1 ++ laW tc b q2) ∧ okR b ro 0 q1.1 ∧ okR b ro 1 q2.1) := by
  refine Kt.of (ro_and (qF_ro b ro tx K me) (shF_ro b sa rp K)) (by decide) rfl hty (Nat.le_of_ble_eq_true rfl) ?_
  intro p e s m args below meth c0 A hC hr hlk hnm hF
  have hFt : vx_Ft y_Dk_score.cls (yw y_Dk_score b_Dk_score 2 (some .int)) cls cty ft_Dk := ft_of (fun w h => List.mem_cons_of_mem _ h) fl_Dk_in ft_Dk_b
  have hini : false = true → meth.name = "<init>" := fun h => by cases h
  have hr4 := hrp.1
  obtain ⟨sv, hse, hsv, hrf⟩ := id hF.2
  refine vx_go hC hFt hini (vx_ends hC hr hlk) jc_Dk_score 0 (by decide) rfl ?_
  refine And.intro (fun c1 => ?_) (fun c1 => ?_)
  · skip
    refine vx_go hC hFt hini (vx_ends hC hr hlk) jc_Dk_score 11 (by decide) rfl ?_
    refine And.intro (trivial) (And.intro ?_ (And.intro (Nat.le_refl _) (Nat.le_refl _)))
    rw [show soS tx rp n9 = -1 from if_pos c1]
    exact ⟨rfl, u1, u2, rfl, ho1, ho2⟩
  · skip
    obtain ⟨hi1, hi2⟩ := i_nat c1
    refine And.intro rfl ?_
    refine And.intro (fun c5 => ?_) (fun c5 => ?_)
    · skip
      have c5 : rp.length ≤ n9.toNatClampNeg := by rw [hi1] at c5; exact (nI_leI (by omega) hi2).mp c5
      refine vx_go hC hFt hini (vx_ends hC hr hlk) jc_Dk_score 11 (by decide) rfl ?_
      refine And.intro (trivial) (And.intro ?_ (And.intro (Nat.le_refl _) (Nat.le_refl _)))
      rw [show soS tx rp n9 = -1 by unfold soS; rw [if_neg c1, if_pos c5]]
      exact ⟨rfl, u1, u2, rfl, ho1, ho2⟩
    · skip
      have c5 : ¬ rp.length ≤ n9.toNatClampNeg := fun z => c5 (by rw [hi1]; exact (nI_leI (by omega) hi2).mpr z)
      refine And.intro rfl ?_
      refine sx_aaT hC hsv rfl (show vp_in n9 4 by rw [hi1]; exact vp_in_nI (by omega) (by decide)) (v := .ref (sa n9.toNatClampNeg)) (by rw [hse n9.toNatClampNeg (by omega)]; rfl) ?_
      refine vx_go hC hFt hini (vx_ends hC hr hlk) jc_Dk_score 13 (by decide) rfl ?_
      refine And.intro rfl ?_
      refine sx_aaT hC hsv rfl (show vp_in n9 4 by rw [hi1]; exact vp_in_nI (by omega) (by decide)) (v := .ref (sa n9.toNatClampNeg)) (by rw [hse n9.toNatClampNeg (by omega)]; rfl) ?_
      refine dx_call (wr := []) (wc := ([dkC b (nI rp.length)] ++ acW tc b u1 ++ laW tc b u2)) hC (c_Dk_scoreOf l D tys tc hty b ro (nI rp.length) tx hx K me (sa n9.toNatClampNeg) n9.toNatClampNeg (rp.getD n9.toNatClampNeg (0, 0, 0, 0, false, 0)) (rps_get hrp (by omega)) u1 u2 ho1 ho2) ⟨hF.1, hrf n9.toNatClampNeg (by omega)⟩ (cw_V wm_Dk_scoreOf wl_Dk_151 wi_Dk_scoreOf ws_Dk_Dk_scoreOf hC.2.2.2.2.1 ⟨by decide, by decide⟩) [0, 1, 2, 3, 4] [] rfl rfl rfl rfl (by decide) rfl rfl rfl rfl rfl (Nat.le_of_ble_eq_true rfl) ⟨by decide, by decide⟩ (fun r' w' hp => ?_)
      obtain ⟨rfl, q1, q2, rfl, hq1, hq2⟩ := hp
      refine ⟨[0, 1, 2, 3, 4], ([dkC b (nI rp.length)] ++ acW tc b q1 ++ laW tc b q2), rfl, rfl, ?_⟩
      refine And.intro (trivial) (And.intro ?_ (And.intro (Nat.le_refl _) (Nat.le_refl _)))
      rw [show soS tx rp n9 = nI (scS tx (rp.getD n9.toNatClampNeg (0, 0, 0, 0, false, 0))) by unfold soS; rw [if_neg c1, if_neg c5]]
      exact ⟨rfl, q1, q2, rfl, hq1, hq2⟩
set_option maxRecDepth 100000 in
set_option maxHeartbeats 4000000 in
theorem c_Dk_date (l : Launch) (D : va_G) (tys : List (ClassId × FieldType)) (tc : Nat → ClassId) (hty : ∀ i : Nat, i < 4 → tys[i]? = some (tc i, vx_ty i)) (b ro : Nat → Nat) (cn : Int32) (tx : Nat → List Nat) (hx : ∀ G, G < 8 → isT (tx G)) (K : Nat → Nat) (me : Int32) (ly : Nat) (hly : ly < 10000) (u4 : RSt) (ho4 : okR b ro 3 u4.1) (fd : Int32) : Kt l y_Dk_date (yw y_Dk_date b_Dk_date 2 (some .long)) 8 173 0 0 D cls tys (qF b ro tx K me) [.ref (b 0), .int fd] ([dkC b cn] ++ daW tc b ly u4) (fun r w => r = some (.long (lI (dvS ly tx fd))) ∧ ∃ q4, w = ([dkC b cn] ++ daW tc b ly q4) ∧ okR b ro 3 q4.1) := by
  refine Kt.of (qF_ro b ro tx K me) (by decide) rfl hty (Nat.le_of_ble_eq_true rfl) ?_
  intro p e s m args below meth c0 A hC hr hlk hnm hF
  have hFt : vx_Ft y_Dk_date.cls (yw y_Dk_date b_Dk_date 2 (some .long)) cls cty ft_Dk := ft_of (fun w h => List.mem_cons_of_mem _ h) fl_Dk_in ft_Dk_b
  have hini : false = true → meth.name = "<init>" := fun h => by cases h
  refine vx_go hC hFt hini (vx_ends hC hr hlk) jc_Dk_date 0 (by decide) rfl ?_
  refine And.intro (fun c2 => ?_) (fun c2 => ?_)
  · skip
    have c2 : fd < 4 := c2
    refine vx_go hC hFt hini (vx_ends hC hr hlk) jc_Dk_date 13 (by decide) rfl ?_
    refine And.intro (Or.inr (Or.inl ⟨_, rfl, hC.2.2.2.2.1 _ (List.mem_cons_of_mem _ wc_Dk_183)⟩)) ?_
    refine And.intro (trivial) (And.intro ?_ (And.intro (Nat.le_refl _) (Nat.le_refl _)))
    rw [show dvS ly tx fd = none from if_pos (Or.inl c2)]
    exact ⟨rfl, u4, rfl, ho4⟩
  · skip
    have c2 : ¬ fd < 4 := c2
    refine And.intro (fun c5 => ?_) (fun c5 => ?_)
    · skip
      have c5 : 6 < fd := c5
      refine vx_go hC hFt hini (vx_ends hC hr hlk) jc_Dk_date 13 (by decide) rfl ?_
      refine And.intro (Or.inr (Or.inl ⟨_, rfl, hC.2.2.2.2.1 _ (List.mem_cons_of_mem _ wc_Dk_183)⟩)) ?_
      refine And.intro (trivial) (And.intro ?_ (And.intro (Nat.le_refl _) (Nat.le_refl _)))
      rw [show dvS ly tx fd = none from if_pos (Or.inr c5)]
      exact ⟨rfl, u4, rfl, ho4⟩
    · skip
      have c5 : ¬ 6 < fd := c5
      have c0 : ¬ fd < 0 := fun z => c2 (Int32.lt_trans z (by decide))
      obtain ⟨hfn, hf31⟩ := i_nat c0
      have hG : fd.toNatClampNeg < 8 := by
        have c5b : ¬ nI 6 < nI fd.toNatClampNeg := by rw [← hfn]; exact c5
        have h9 : ¬ 6 < fd.toNatClampNeg := fun z => c5b ((nI_ltI (a := 6) (by decide) hf31).mpr z)
        omega
      refine And.intro rfl ?_
      refine And.intro rfl ?_
      refine dx_call (wr := [dkC b cn]) (wc := daW tc b ly u4) hC (c_Da_timeOf l D tys tc hty (b 6) u4.1 (b 16) (u4.2.2.1 0) (u4.2.2.1 1) u4.2.2.2 u4.2.1 (b 2) ro tx hx K ly hly (u4.2.2.1 2) (u4.2.2.1 3) (u4.2.2.1 4) (u4.2.2.1 5) fd.toNatClampNeg hG) ⟨hF.1, qR hF (i := 3) (by decide) ho4, hF.2.1.1⟩ (cw_V wm_Da_timeOf wl_Dk_179 wi_Da_timeOf ws_Da_Da_timeOf hC.2.2.2.2.1 ⟨by decide, by decide⟩) [1, 2] [0] rfl rfl rfl rfl (by decide) rfl rfl rfl rfl (show [Value.int fd, Value.ref (b 2), Value.ref (b 6)] = [Value.int (nI fd.toNatClampNeg), Value.ref (b 2), Value.ref (b 6)] by rw [← hfn]) (Nat.le_of_ble_eq_true rfl) ⟨by decide, by decide⟩ (fun r' w' hp => ?_)
      obtain ⟨rfl, rb2, x1, x2, sb2, se2, a2, b2, c3, e2, rfl, hok3⟩ := hp
      refine ⟨[0, 1, 2], ([dkC b cn] ++ daW tc b ly (rb2, sb2, zf [x1, x2, a2, b2, c3, e2], se2)), rfl, rfl, ?_⟩
      refine vx_go hC hFt hini (vx_ends hC hr hlk) jc_Dk_date 14 (by decide) rfl ?_
      refine And.intro (trivial) (And.intro ?_ (And.intro (Nat.le_refl _) (Nat.le_refl _)))
      rw [show dvS ly tx fd = dtO ly (tx fd.toNatClampNeg) from if_neg (fun z => z.elim c2 c5)]
      exact ⟨rfl, (rb2, sb2, zf [x1, x2, a2, b2, c3, e2], se2), rfl, okN ho4 hok3 hG⟩
theorem rt_b (b : Bool) : narrow .boolean (.int (bI b)) = .int (bI b) := by cases b <;> rfl
theorem nil_W : isW [] := ⟨by decide, by decide⟩
set_option maxRecDepth 100000 in
set_option maxHeartbeats 4000000 in
theorem c_Dk_formed (l : Launch) (D : va_G) (tys : List (ClassId × FieldType)) (tc : Nat → ClassId) (hty : ∀ i : Nat, i < 4 → tys[i]? = some (tc i, vx_ty i)) (b ro : Nat → Nat) (cn : Int32) (tx : Nat → List Nat) (hx : ∀ G, G < 8 → isT (tx G)) (K : Nat → Nat) (me : Int32) (ly : Nat) (hly : ly < 10000) (u1 u2 u3 u4 u5 : RSt) (ho1 : okR b ro 0 u1.1) (ho2 : okR b ro 1 u2.1) (ho3 : okR b ro 2 u3.1) (ho4 : okR b ro 3 u4.1) (ho5 : okR b ro 4 u5.1) (kp : List (Nat × Nat)) (g1 g2 : Nat → Int32) (hkp : kpA g1 g2 kp) (fd : Int32) : Kt l y_Dk_formed (yw y_Dk_formed b_Dk_formed 2 (some .boolean)) 8 174 0 0 D cls tys (qF b ro tx K me) [.ref (b 0), .int fd] ([dkC b cn] ++ acW tc b u1 ++ laW tc b u2 ++ tgW tc b u3 ++ daW tc b ly u4 ++ rnW tc b u5 kp g1 g2) (fun r w => r = some (.int (bI (fmS ly tx fd))) ∧ ∃ t1 t2 t3 t4 t5 kp2 k1 k2, w = ([dkC b cn] ++ acW tc b t1 ++ laW tc b t2 ++ tgW tc b t3 ++ daW tc b ly t4 ++ rnW tc b t5 kp2 k1 k2) ∧ okR b ro 0 t1.1 ∧ okR b ro 1 t2.1 ∧ okR b ro 2 t3.1 ∧ okR b ro 3 t4.1 ∧ okR b ro 4 t5.1 ∧ kpA k1 k2 kp2) := by
  refine Kt.of (qF_ro b ro tx K me) (by decide) rfl hty (Nat.le_of_ble_eq_true rfl) ?_
  intro p e s m args below meth c0 A hC hr hlk hnm hF
  have hFt : vx_Ft y_Dk_formed.cls (yw y_Dk_formed b_Dk_formed 2 (some .boolean)) cls cty ft_Dk := ft_of (fun w h => List.mem_cons_of_mem _ h) fl_Dk_in ft_Dk_b
  have hini : false = true → meth.name = "<init>" := fun h => by cases h
  refine vx_gon hC hFt hini (vx_ends hC hr hlk) jc_Dk_formed 0 1 (by decide) rfl ?_
  refine Vx.subL (lv' := [(0, .ref (b 0)), (1, .int fd)]) [0, 1] rfl ?_
  have hdec := vx_dec jc_Dk_formed 1 _ (by decide) rfl
  by_cases hin : fd < 0 ∨ 7 < fd
  · have hfm : fmS ly tx fd = false := if_pos hin
    refine vx_tblO hC hdec 173 (hin.imp (fun z => show fd.toInt < 0 from Int32.lt_iff_toInt_lt.mp z) (fun z => by have h9 := Int32.lt_iff_toInt_lt.mp z; rw [show (7 : Int32).toInt = 7 by decide] at h9; exact h9)) rfl ?_
    refine vx_go hC hFt hini (vx_ends hC hr hlk) jc_Dk_formed 65 (by decide) rfl ?_
    refine And.intro (rfl) (And.intro ?_ (And.intro (Nat.le_refl _) (Nat.le_refl _)))
    rw [hfm]
    exact ⟨rfl, u1, u2, u3, u4, u5, kp, g1, g2, rfl, ho1, ho2, ho3, ho4, ho5, hkp⟩
  · obtain ⟨hfn, hf31⟩ := i_nat (fun z => hin (Or.inl z))
    have hG : fd.toNatClampNeg < 8 := by
      have c5b : ¬ nI 7 < nI fd.toNatClampNeg := by rw [← hfn]; exact fun z => hin (Or.inr z)
      have h9 : ¬ 7 < fd.toNatClampNeg := fun z => c5b ((nI_ltI (a := 7) (by decide) hf31).mpr z)
      omega
    rcases (show fd.toNatClampNeg = 0 ∨ fd.toNatClampNeg = 1 ∨ fd.toNatClampNeg = 2 ∨ fd.toNatClampNeg = 3 ∨ fd.toNatClampNeg = 4 ∨ fd.toNatClampNeg = 5 ∨ fd.toNatClampNeg = 6 ∨ fd.toNatClampNeg = 7 by omega) with e9 | e9 | e9 | e9 | e9 | e9 | e9 | e9
    · have hfm : fmS ly tx fd = (accL (mnL 0) (snL 0) (pnL 0) (vnL 0) 97 0 0 0 (tx 0)).isSome := by rw [fmS, if_neg hin, if_pos e9]
      have hfd : fd = 0 := by rw [hfn, e9]; rfl
      subst hfd
      refine vx_tbl hC hdec 48 (off := 47) (by decide) (by decide) rfl rfl ?_
      refine vx_go hC hFt hini (vx_ends hC hr hlk) jc_Dk_formed 2 (by decide) rfl ?_
      refine And.intro rfl ?_
      refine And.intro rfl ?_
      refine ⟨_, ⟨"OriginDesk$MediaType", "HTML", "LOriginDesk$MediaType;", "OriginDesk$MediaType", hF.2.1.1.2.2.2.2.1, Or.inl (hC.2.2.2.2.1 _ (List.mem_cons_of_mem _ wf_Dk_154)), fun _ z => z⟩, ?_⟩
      refine dx_call (wr := ([dkC b cn] ++ laW tc b u2 ++ tgW tc b u3 ++ daW tc b ly u4 ++ rnW tc b u5 kp g1 g2)) (wc := (acW tc b u1)) hC (c_Ac_read l D tys tc hty (b 3) u1.1 (b 13) (u1.2.2.1 0) (u1.2.2.1 1) u1.2.2.2 u1.2.1 (b 2) ro tx hx K (u1.2.2.1 2) (u1.2.2.1 3) (u1.2.2.1 4) (u1.2.2.1 5) (u1.2.2.1 6) 0 (by decide)) ⟨hF.1, qR hF (i := 0) (by decide) ho1, hF.2.1.1⟩ (cw_V wm_Ac_read wl_Dk_160 wi_Ac_read ws_Ac_Ac_read hC.2.2.2.2.1 ⟨by decide, by decide⟩) [1, 2] [0, 3, 4, 5, 6, 7, 8, 9, 10, 11, 12] rfl rfl rfl rfl (by decide) rfl rfl rfl rfl rfl (Nat.le_of_ble_eq_true rfl) ⟨by decide, by decide⟩ (fun r' w' hp => ?_)
      obtain ⟨rfl, ra2, y1, y2, ss2, sd2, q2, m2, f2, t2, w2, rfl, hok2, hv2⟩ := hp
      refine ⟨[0, 11, 12, 1, 2, 3, 4, 5, 6, 7, 8, 9, 10], ([dkC b cn] ++ acW tc b (ra2, ss2, zf [y1, y2, q2, m2, f2, t2, w2], sd2) ++ laW tc b u2 ++ tgW tc b u3 ++ daW tc b ly u4 ++ rnW tc b u5 kp g1 g2), rfl, rfl, ?_⟩
      refine And.intro (rt_b _) (And.intro ?_ (And.intro (Nat.le_refl _) (Nat.le_refl _)))
      rw [hfm]
      exact ⟨rfl, (ra2, ss2, zf [y1, y2, q2, m2, f2, t2, w2], sd2), u2, u3, u4, u5, kp, g1, g2, rfl, okN ho1 hok2 (by decide), ho2, ho3, ho4, ho5, hkp⟩
    · have hfm : fmS ly tx fd = (lanL (coL 0) (beL 0) 97 0 0 0 (tx 1)).isSome := by rw [fmS, if_neg hin, if_neg (by omega), if_pos e9]
      have hfd : fd = 1 := by rw [hfn, e9]; rfl
      subst hfd
      refine vx_tbl hC hdec 63 (off := 62) (by decide) (by decide) rfl rfl ?_
      refine vx_go hC hFt hini (vx_ends hC hr hlk) jc_Dk_formed 9 (by decide) rfl ?_
      refine And.intro rfl ?_
      refine And.intro rfl ?_
      refine ⟨_, ⟨"OriginDesk$Language", "EN", "LOriginDesk$Language;", "OriginDesk$Language", hF.2.1.1.2.2.2.2.2.1, Or.inl (hC.2.2.2.2.1 _ (List.mem_cons_of_mem _ wf_Dk_164)), fun _ z => z⟩, ?_⟩
      refine dx_call (wr := ([dkC b cn] ++ acW tc b u1 ++ tgW tc b u3 ++ daW tc b ly u4 ++ rnW tc b u5 kp g1 g2)) (wc := (laW tc b u2)) hC (c_La_read l D tys tc hty (b 4) u2.1 (b 14) (u2.2.2.1 0) (u2.2.2.1 1) u2.2.2.2 u2.2.1 (b 2) ro tx hx K (u2.2.2.1 2) (u2.2.2.1 3) 0 (by decide)) ⟨hF.1, qR hF (i := 1) (by decide) ho2, hF.2.1.1⟩ (cw_V wm_La_read wl_Dk_170 wi_La_read ws_La_La_read hC.2.2.2.2.1 ⟨by decide, by decide⟩) [3, 4] [0, 1, 2, 5, 6, 7, 8, 9, 10, 11, 12] rfl rfl rfl rfl (by decide) rfl rfl rfl rfl rfl (Nat.le_of_ble_eq_true rfl) ⟨by decide, by decide⟩ (fun r' w' hp => ?_)
      obtain ⟨rfl, rb2, x1, x2, sb2, se2, p2, n2, rfl, hok3, hv3⟩ := hp
      refine ⟨[0, 1, 2, 11, 12, 3, 4, 5, 6, 7, 8, 9, 10], ([dkC b cn] ++ acW tc b u1 ++ laW tc b (rb2, sb2, zf [x1, x2, p2, n2], se2) ++ tgW tc b u3 ++ daW tc b ly u4 ++ rnW tc b u5 kp g1 g2), rfl, rfl, ?_⟩
      refine And.intro (rt_b _) (And.intro ?_ (And.intro (Nat.le_refl _) (Nat.le_refl _)))
      rw [hfm]
      exact ⟨rfl, u1, (rb2, sb2, zf [x1, x2, p2, n2], se2), u3, u4, u5, kp, g1, g2, rfl, ho1, okN ho2 hok3 (by decide), ho3, ho4, ho5, hkp⟩
    · have hfm : fmS ly tx fd = (tgsL [] (tx 2)).isSome := by rw [fmS, if_neg hin, if_neg (by omega), if_neg (by omega), if_pos e9]
      have hfd : fd = 2 := by rw [hfn, e9]; rfl
      subst hfd
      refine vx_tbl hC hdec 78 (off := 77) (by decide) (by decide) rfl rfl ?_
      refine vx_go hC hFt hini (vx_ends hC hr hlk) jc_Dk_formed 16 (by decide) rfl ?_
      refine And.intro rfl ?_
      refine And.intro rfl ?_
      refine ⟨K 1, Or.inr (Or.inr ⟨_, _, rfl, (hF.2.1.1.1 1 _ rfl).1⟩), ?_⟩
      refine dx_call (wr := ([dkC b cn] ++ acW tc b u1 ++ laW tc b u2 ++ daW tc b ly u4 ++ rnW tc b u5 kp g1 g2)) (wc := (tgW tc b u3)) hC (c_Tg_readList l D tys tc hty (b 5) u3.1 (b 15) (u3.2.2.1 0) (u3.2.2.1 1) u3.2.2.2 u3.2.1 (b 2) ro tx hx K (u3.2.2.1 2) (u3.2.2.1 3) (u3.2.2.1 4) 2 (by decide) (K 1) [] nil_W) ⟨hF.1, qR hF (i := 2) (by decide) ho3, hF.2.1.1, (hF.2.1.1.1 1 _ rfl).2⟩ (cw_V wm_Tg_readList wl_Dk_175 wi_Tg_readList ws_Tg_Tg_readList hC.2.2.2.2.1 ⟨by decide, by decide⟩) [5, 6] [0, 1, 2, 3, 4, 7, 8, 9, 10, 11, 12] rfl rfl rfl rfl (by decide) rfl rfl rfl rfl rfl (Nat.le_of_ble_eq_true rfl) ⟨by decide, by decide⟩ (fun r' w' hp => ?_)
      obtain ⟨rfl, ra2, y1, y2, ss2, sd2, q2, m2, s2, rfl, hok2, hv2⟩ := hp
      refine ⟨[0, 1, 2, 3, 4, 11, 12, 5, 6, 7, 8, 9, 10], ([dkC b cn] ++ acW tc b u1 ++ laW tc b u2 ++ tgW tc b (ra2, ss2, zf [y1, y2, q2, m2, s2], sd2) ++ daW tc b ly u4 ++ rnW tc b u5 kp g1 g2), rfl, rfl, ?_⟩
      refine And.intro (rt_b _) (And.intro ?_ (And.intro (Nat.le_refl _) (Nat.le_refl _)))
      rw [hfm]
      exact ⟨rfl, u1, u2, (ra2, ss2, zf [y1, y2, q2, m2, s2], sd2), u4, u5, kp, g1, g2, rfl, ho1, ho2, okN ho3 hok2 (by decide), ho4, ho5, hkp⟩
    · have hfm : fmS ly tx fd = (tgsL [] (tx 3)).isSome := by rw [fmS, if_neg hin, if_neg (by omega), if_neg (by omega), if_neg (by omega), if_pos e9]
      have hfd : fd = 3 := by rw [hfn, e9]; rfl
      subst hfd
      refine vx_tbl hC hdec 78 (off := 77) (by decide) (by decide) rfl rfl ?_
      refine vx_go hC hFt hini (vx_ends hC hr hlk) jc_Dk_formed 16 (by decide) rfl ?_
      refine And.intro rfl ?_
      refine And.intro rfl ?_
      refine ⟨K 1, Or.inr (Or.inr ⟨_, _, rfl, (hF.2.1.1.1 1 _ rfl).1⟩), ?_⟩
      refine dx_call (wr := ([dkC b cn] ++ acW tc b u1 ++ laW tc b u2 ++ daW tc b ly u4 ++ rnW tc b u5 kp g1 g2)) (wc := (tgW tc b u3)) hC (c_Tg_readList l D tys tc hty (b 5) u3.1 (b 15) (u3.2.2.1 0) (u3.2.2.1 1) u3.2.2.2 u3.2.1 (b 2) ro tx hx K (u3.2.2.1 2) (u3.2.2.1 3) (u3.2.2.1 4) 3 (by decide) (K 1) [] nil_W) ⟨hF.1, qR hF (i := 2) (by decide) ho3, hF.2.1.1, (hF.2.1.1.1 1 _ rfl).2⟩ (cw_V wm_Tg_readList wl_Dk_175 wi_Tg_readList ws_Tg_Tg_readList hC.2.2.2.2.1 ⟨by decide, by decide⟩) [5, 6] [0, 1, 2, 3, 4, 7, 8, 9, 10, 11, 12] rfl rfl rfl rfl (by decide) rfl rfl rfl rfl rfl (Nat.le_of_ble_eq_true rfl) ⟨by decide, by decide⟩ (fun r' w' hp => ?_)
      obtain ⟨rfl, ra2, y1, y2, ss2, sd2, q2, m2, s2, rfl, hok2, hv2⟩ := hp
      refine ⟨[0, 1, 2, 3, 4, 11, 12, 5, 6, 7, 8, 9, 10], ([dkC b cn] ++ acW tc b u1 ++ laW tc b u2 ++ tgW tc b (ra2, ss2, zf [y1, y2, q2, m2, s2], sd2) ++ daW tc b ly u4 ++ rnW tc b u5 kp g1 g2), rfl, rfl, ?_⟩
      refine And.intro (rt_b _) (And.intro ?_ (And.intro (Nat.le_refl _) (Nat.le_refl _)))
      rw [hfm]
      exact ⟨rfl, u1, u2, (ra2, ss2, zf [y1, y2, q2, m2, s2], sd2), u4, u5, kp, g1, g2, rfl, ho1, ho2, okN ho3 hok2 (by decide), ho4, ho5, hkp⟩
    · have hfm : fmS ly tx fd = (dtO ly (tx 4)).isSome := by rw [fmS, if_neg hin, if_neg (by omega), if_neg (by omega), if_neg (by omega), if_neg (by omega), if_neg (by omega), if_neg (by omega), e9]
      have hfd : fd = 4 := by rw [hfn, e9]; rfl
      subst hfd
      refine vx_tbl hC hdec 93 (off := 92) (by decide) (by decide) rfl rfl ?_
      refine vx_go hC hFt hini (vx_ends hC hr hlk) jc_Dk_formed 24 (by decide) rfl ?_
      refine And.intro rfl ?_
      refine And.intro rfl ?_
      refine dx_call (wr := ([dkC b cn] ++ acW tc b u1 ++ laW tc b u2 ++ tgW tc b u3 ++ rnW tc b u5 kp g1 g2)) (wc := (daW tc b ly u4)) hC (c_Da_timeOf l D tys tc hty (b 6) u4.1 (b 16) (u4.2.2.1 0) (u4.2.2.1 1) u4.2.2.2 u4.2.1 (b 2) ro tx hx K ly hly (u4.2.2.1 2) (u4.2.2.1 3) (u4.2.2.1 4) (u4.2.2.1 5) 4 (by decide)) ⟨hF.1, qR hF (i := 3) (by decide) ho4, hF.2.1.1⟩ (cw_V wm_Da_timeOf wl_Dk_179 wi_Da_timeOf ws_Da_Da_timeOf hC.2.2.2.2.1 ⟨by decide, by decide⟩) [7, 8] [0, 1, 2, 3, 4, 5, 6, 9, 10, 11, 12] rfl rfl rfl rfl (by decide) rfl rfl rfl rfl rfl (Nat.le_of_ble_eq_true rfl) ⟨by decide, by decide⟩ (fun r' w' hp => ?_)
      obtain ⟨rfl, rb2, x1, x2, sb2, se2, a2, b2, c2, e2, rfl, hok3⟩ := hp
      refine ⟨[0, 1, 2, 3, 4, 5, 6, 11, 12, 7, 8, 9, 10], ([dkC b cn] ++ acW tc b u1 ++ laW tc b u2 ++ tgW tc b u3 ++ daW tc b ly (rb2, sb2, zf [x1, x2, a2, b2, c2, e2], se2) ++ rnW tc b u5 kp g1 g2), rfl, rfl, ?_⟩
      refine And.intro (Or.inr (Or.inl ⟨_, rfl, hC.2.2.2.2.1 _ (List.mem_cons_of_mem _ wc_Dk_183)⟩)) ?_
      refine And.intro (fun c32 => ?_) (fun c32 => ?_)
      · skip
        have c32 : dtO ly (tx 4) = none := (lI_m1 (fun t h9 => dtO_lt t h9)).mp c32
        refine vx_go hC hFt hini (vx_ends hC hr hlk) jc_Dk_formed 35 (by decide) rfl ?_
        refine And.intro (rfl) (And.intro ?_ (And.intro (Nat.le_refl _) (Nat.le_refl _)))
        rw [hfm, c32]
        exact ⟨rfl, u1, u2, u3, (rb2, sb2, zf [x1, x2, a2, b2, c2, e2], se2), u5, kp, g1, g2, rfl, ho1, ho2, ho3, okN ho4 hok3 (by decide), ho5, hkp⟩
      · skip
        obtain ⟨t, c32⟩ : ∃ t, dtO ly (tx 4) = some t := by
          cases h9 : dtO ly (tx 4) with
          | none => exact absurd ((lI_m1 (fun t h8 => dtO_lt t h8)).mpr h9) c32
          | some t => exact ⟨t, rfl⟩
        have ht63 := dtO_lt t c32
        refine vx_go hC hFt hini (vx_ends hC hr hlk) jc_Dk_formed 36 (by decide) rfl ?_
        refine And.intro (rfl) (And.intro ?_ (And.intro (Nat.le_refl _) (Nat.le_refl _)))
        rw [hfm, c32]
        exact ⟨rfl, u1, u2, u3, (rb2, sb2, zf [x1, x2, a2, b2, c2, e2], se2), u5, kp, g1, g2, rfl, ho1, ho2, ho3, okN ho4 hok3 (by decide), ho5, hkp⟩
    · have hfm : fmS ly tx fd = (dtO ly (tx 5)).isSome := by rw [fmS, if_neg hin, if_neg (by omega), if_neg (by omega), if_neg (by omega), if_neg (by omega), if_neg (by omega), if_neg (by omega), e9]
      have hfd : fd = 5 := by rw [hfn, e9]; rfl
      subst hfd
      refine vx_tbl hC hdec 93 (off := 92) (by decide) (by decide) rfl rfl ?_
      refine vx_go hC hFt hini (vx_ends hC hr hlk) jc_Dk_formed 24 (by decide) rfl ?_
      refine And.intro rfl ?_
      refine And.intro rfl ?_
      refine dx_call (wr := ([dkC b cn] ++ acW tc b u1 ++ laW tc b u2 ++ tgW tc b u3 ++ rnW tc b u5 kp g1 g2)) (wc := (daW tc b ly u4)) hC (c_Da_timeOf l D tys tc hty (b 6) u4.1 (b 16) (u4.2.2.1 0) (u4.2.2.1 1) u4.2.2.2 u4.2.1 (b 2) ro tx hx K ly hly (u4.2.2.1 2) (u4.2.2.1 3) (u4.2.2.1 4) (u4.2.2.1 5) 5 (by decide)) ⟨hF.1, qR hF (i := 3) (by decide) ho4, hF.2.1.1⟩ (cw_V wm_Da_timeOf wl_Dk_179 wi_Da_timeOf ws_Da_Da_timeOf hC.2.2.2.2.1 ⟨by decide, by decide⟩) [7, 8] [0, 1, 2, 3, 4, 5, 6, 9, 10, 11, 12] rfl rfl rfl rfl (by decide) rfl rfl rfl rfl rfl (Nat.le_of_ble_eq_true rfl) ⟨by decide, by decide⟩ (fun r' w' hp => ?_)
      obtain ⟨rfl, rb2, x1, x2, sb2, se2, a2, b2, c2, e2, rfl, hok3⟩ := hp
      refine ⟨[0, 1, 2, 3, 4, 5, 6, 11, 12, 7, 8, 9, 10], ([dkC b cn] ++ acW tc b u1 ++ laW tc b u2 ++ tgW tc b u3 ++ daW tc b ly (rb2, sb2, zf [x1, x2, a2, b2, c2, e2], se2) ++ rnW tc b u5 kp g1 g2), rfl, rfl, ?_⟩
      refine And.intro (Or.inr (Or.inl ⟨_, rfl, hC.2.2.2.2.1 _ (List.mem_cons_of_mem _ wc_Dk_183)⟩)) ?_
      refine And.intro (fun c32 => ?_) (fun c32 => ?_)
      · skip
        have c32 : dtO ly (tx 5) = none := (lI_m1 (fun t h9 => dtO_lt t h9)).mp c32
        refine vx_go hC hFt hini (vx_ends hC hr hlk) jc_Dk_formed 35 (by decide) rfl ?_
        refine And.intro (rfl) (And.intro ?_ (And.intro (Nat.le_refl _) (Nat.le_refl _)))
        rw [hfm, c32]
        exact ⟨rfl, u1, u2, u3, (rb2, sb2, zf [x1, x2, a2, b2, c2, e2], se2), u5, kp, g1, g2, rfl, ho1, ho2, ho3, okN ho4 hok3 (by decide), ho5, hkp⟩
      · skip
        obtain ⟨t, c32⟩ : ∃ t, dtO ly (tx 5) = some t := by
          cases h9 : dtO ly (tx 5) with
          | none => exact absurd ((lI_m1 (fun t h8 => dtO_lt t h8)).mpr h9) c32
          | some t => exact ⟨t, rfl⟩
        have ht63 := dtO_lt t c32
        refine vx_go hC hFt hini (vx_ends hC hr hlk) jc_Dk_formed 36 (by decide) rfl ?_
        refine And.intro (rfl) (And.intro ?_ (And.intro (Nat.le_refl _) (Nat.le_refl _)))
        rw [hfm, c32]
        exact ⟨rfl, u1, u2, u3, (rb2, sb2, zf [x1, x2, a2, b2, c2, e2], se2), u5, kp, g1, g2, rfl, ho1, ho2, ho3, okN ho4 hok3 (by decide), ho5, hkp⟩
    · have hfm : fmS ly tx fd = ((lonT [] (tx 6)).isSome || (dtO ly (tx 6)).isSome) := by rw [fmS, if_neg hin, if_neg (by omega), if_neg (by omega), if_neg (by omega), if_neg (by omega), if_neg (by omega), if_pos e9]
      have hfd : fd = 6 := by rw [hfn, e9]; rfl
      subst hfd
      refine vx_tbl hC hdec 118 (off := 117) (by decide) (by decide) rfl rfl ?_
      refine vx_go hC hFt hini (vx_ends hC hr hlk) jc_Dk_formed 37 (by decide) rfl ?_
      refine And.intro rfl ?_
      refine And.intro rfl ?_
      refine ⟨K 1, Or.inr (Or.inr ⟨_, _, rfl, (hF.2.1.1.1 1 _ rfl).1⟩), ?_⟩
      refine dx_call (wr := ([dkC b cn] ++ acW tc b u1 ++ laW tc b u2 ++ daW tc b ly u4 ++ rnW tc b u5 kp g1 g2)) (wc := (tgW tc b u3)) hC (c_Tg_readOne l D tys tc hty (b 5) u3.1 (b 15) (u3.2.2.1 0) (u3.2.2.1 1) u3.2.2.2 u3.2.1 (b 2) ro tx hx K (u3.2.2.1 2) (u3.2.2.1 3) (u3.2.2.1 4) 6 (by decide) (K 1) [] nil_W) ⟨hF.1, qR hF (i := 2) (by decide) ho3, hF.2.1.1, (hF.2.1.1.1 1 _ rfl).2⟩ (cw_V wm_Tg_readOne wl_Dk_185 wi_Tg_readOne ws_Tg_Tg_readOne hC.2.2.2.2.1 ⟨by decide, by decide⟩) [5, 6] [0, 1, 2, 3, 4, 7, 8, 9, 10, 11, 12] rfl rfl rfl rfl (by decide) rfl rfl rfl rfl rfl (Nat.le_of_ble_eq_true rfl) ⟨by decide, by decide⟩ (fun r' w' hp => ?_)
      obtain ⟨rfl, ra2, y1, y2, ss2, sd2, q2, m2, s2, rfl, hok2, hv2⟩ := hp
      refine ⟨[0, 1, 2, 3, 4, 11, 12, 5, 6, 7, 8, 9, 10], ([dkC b cn] ++ acW tc b u1 ++ laW tc b u2 ++ tgW tc b (ra2, ss2, zf [y1, y2, q2, m2, s2], sd2) ++ daW tc b ly u4 ++ rnW tc b u5 kp g1 g2), rfl, rfl, ?_⟩
      refine And.intro (fun c44 => ?_) (fun c44 => ?_)
      · skip
        obtain ⟨v9, c44⟩ := isS (show ¬ bI (lonT [] (tx 6)).isSome = 0 from c44)
        refine vx_go hC hFt hini (vx_ends hC hr hlk) jc_Dk_formed 54 (by decide) rfl ?_
        refine vx_go hC hFt hini (vx_ends hC hr hlk) jc_Dk_formed 57 (by decide) rfl ?_
        refine And.intro (rfl) (And.intro ?_ (And.intro (Nat.le_refl _) (Nat.le_refl _)))
        rw [hfm, c44]
        exact ⟨rfl, u1, u2, (ra2, ss2, zf [y1, y2, q2, m2, s2], sd2), u4, u5, kp, g1, g2, rfl, ho1, ho2, okN ho3 hok2 (by decide), ho4, ho5, hkp⟩
      · skip
        have c44 : lonT [] (tx 6) = none := isN c44
        refine And.intro rfl ?_
        refine And.intro rfl ?_
        refine dx_call (wr := ([dkC b cn] ++ acW tc b u1 ++ laW tc b u2 ++ tgW tc b (ra2, ss2, zf [y1, y2, q2, m2, s2], sd2) ++ rnW tc b u5 kp g1 g2)) (wc := (daW tc b ly u4)) hC (c_Da_timeOf l D tys tc hty (b 6) u4.1 (b 16) (u4.2.2.1 0) (u4.2.2.1 1) u4.2.2.2 u4.2.1 (b 2) ro tx hx K ly hly (u4.2.2.1 2) (u4.2.2.1 3) (u4.2.2.1 4) (u4.2.2.1 5) 6 (by decide)) ⟨hF.1, qR hF (i := 3) (by decide) ho4, hF.2.1.1⟩ (cw_V wm_Da_timeOf wl_Dk_179 wi_Da_timeOf ws_Da_Da_timeOf hC.2.2.2.2.1 ⟨by decide, by decide⟩) [7, 8] [0, 1, 2, 3, 4, 5, 6, 9, 10, 11, 12] rfl rfl rfl rfl (by decide) rfl rfl rfl rfl rfl (Nat.le_of_ble_eq_true rfl) ⟨by decide, by decide⟩ (fun r' w' hp => ?_)
        obtain ⟨rfl, rb2, x1, x2, sb2, se2, a2, b2, c2, e2, rfl, hok3⟩ := hp
        refine ⟨[0, 1, 2, 3, 4, 5, 6, 11, 12, 7, 8, 9, 10], ([dkC b cn] ++ acW tc b u1 ++ laW tc b u2 ++ tgW tc b (ra2, ss2, zf [y1, y2, q2, m2, s2], sd2) ++ daW tc b ly (rb2, sb2, zf [x1, x2, a2, b2, c2, e2], se2) ++ rnW tc b u5 kp g1 g2), rfl, rfl, ?_⟩
        refine And.intro (Or.inr (Or.inl ⟨_, rfl, hC.2.2.2.2.1 _ (List.mem_cons_of_mem _ wc_Dk_183)⟩)) ?_
        refine And.intro (fun c53 => ?_) (fun c53 => ?_)
        · skip
          have c53 : dtO ly (tx 6) = none := (lI_m1 (fun t h9 => dtO_lt t h9)).mp c53
          refine vx_go hC hFt hini (vx_ends hC hr hlk) jc_Dk_formed 56 (by decide) rfl ?_
          refine And.intro (rfl) (And.intro ?_ (And.intro (Nat.le_refl _) (Nat.le_refl _)))
          rw [hfm, c44, c53]
          exact ⟨rfl, u1, u2, (ra2, ss2, zf [y1, y2, q2, m2, s2], sd2), (rb2, sb2, zf [x1, x2, a2, b2, c2, e2], se2), u5, kp, g1, g2, rfl, ho1, ho2, okN ho3 hok2 (by decide), okN ho4 hok3 (by decide), ho5, hkp⟩
        · skip
          obtain ⟨t, c53⟩ : ∃ t, dtO ly (tx 6) = some t := by
            cases h9 : dtO ly (tx 6) with
            | none => exact absurd ((lI_m1 (fun t h8 => dtO_lt t h8)).mpr h9) c53
            | some t => exact ⟨t, rfl⟩
          have ht63 := dtO_lt t c53
          refine vx_go hC hFt hini (vx_ends hC hr hlk) jc_Dk_formed 57 (by decide) rfl ?_
          refine And.intro (rfl) (And.intro ?_ (And.intro (Nat.le_refl _) (Nat.le_refl _)))
          rw [hfm, c44, c53]
          exact ⟨rfl, u1, u2, (ra2, ss2, zf [y1, y2, q2, m2, s2], sd2), (rb2, sb2, zf [x1, x2, a2, b2, c2, e2], se2), u5, kp, g1, g2, rfl, ho1, ho2, okN ho3 hok2 (by decide), okN ho4 hok3 (by decide), ho5, hkp⟩
    · have hfm : fmS ly tx fd = (rngL (tx 7)).isSome := by rw [fmS, if_neg hin, if_neg (by omega), if_neg (by omega), if_neg (by omega), if_neg (by omega), if_pos e9]
      have hfd : fd = 7 := by rw [hfn, e9]; rfl
      subst hfd
      refine vx_tbl hC hdec 160 (off := 159) (by decide) (by decide) rfl rfl ?_
      refine vx_go hC hFt hini (vx_ends hC hr hlk) jc_Dk_formed 58 (by decide) rfl ?_
      refine And.intro rfl ?_
      refine And.intro rfl ?_
      refine dx_call (wr := ([dkC b cn] ++ acW tc b u1 ++ laW tc b u2 ++ tgW tc b u3 ++ daW tc b ly u4)) (wc := (rnW tc b u5 kp g1 g2)) hC (c_Ra_read l D tys tc hty (b 7) u5.1 (b 17) (b 18) (b 19) (u5.2.2.1 0) (u5.2.2.1 1) u5.2.2.2 u5.2.1 (b 2) ro tx hx K (u5.2.2.1 2) (nI kp.length) g1 g2 0 (by decide)) ⟨hF.1, qR hF (i := 4) (by decide) ho5, hF.2.1.1⟩ (cw_V wm_Ra_read wl_Dk_188 wi_Ra_read ws_Ra_Ra_read hC.2.2.2.2.1 ⟨by decide, by decide⟩) [9, 10, 11, 12] [0, 1, 2, 3, 4, 5, 6, 7, 8] rfl rfl rfl rfl (by decide) rfl rfl rfl rfl rfl (Nat.le_of_ble_eq_true rfl) ⟨by decide, by decide⟩ (fun r' w' hp => ?_)
      obtain ⟨rfl, rc2, w1, w2, sc2, sf2, sp2, kp2, k1, k2, rfl, hok5, hkp2, hv5⟩ := hp
      refine ⟨[0, 1, 2, 3, 4, 5, 6, 7, 8, 9, 10, 11, 12], ([dkC b cn] ++ acW tc b u1 ++ laW tc b u2 ++ tgW tc b u3 ++ daW tc b ly u4 ++ rnW tc b (rc2, sc2, zf [w1, w2, sp2], sf2) kp2 k1 k2), rfl, rfl, ?_⟩
      refine And.intro (rt_b _) (And.intro ?_ (And.intro (Nat.le_refl _) (Nat.le_refl _)))
      rw [hfm]
      exact ⟨rfl, u1, u2, u3, u4, (rc2, sc2, zf [w1, w2, sp2], sf2), kp2, k1, k2, rfl, ho1, ho2, ho3, ho4, okN ho5 hok5 (by decide), hkp2⟩
def j_Dk_clearR : wq_J := [(.aload_n 0, (0, 0, 0, 0, 0)), (.iconst 0, (0, 0, 0, 0, 0)), (.putfield 86, (1, 0, 1, 0, 0)), (.return_, (0, 0, 0, 0, 0))]
theorem jc_Dk_clearR : wq_c b_Dk_clear 1 j_Dk_clearR 0 = true := by decide +kernel
set_option maxRecDepth 100000 in
set_option maxHeartbeats 4000000 in
theorem c_Dk_clear (l : Launch) (D : va_G) (tys : List (ClassId × FieldType)) (tc : Nat → ClassId) (hty : ∀ i : Nat, i < 4 → tys[i]? = some (tc i, vx_ty i)) (b : Nat → Nat) (cn : Int32) : Kt l y_Dk_clear (yw y_Dk_clear b_Dk_clear 1 none) 0 0 0 0 D cls tys (fun _ _ _ => True) [.ref (b 0)] [dkC b cn] (fun r w => r = none ∧ w = [dkC b 0]) := by
  refine Kt.of ro_true (by decide) rfl hty (Nat.le_of_ble_eq_true rfl) ?_
  intro p e s m args below meth c0 A hC hr hlk hnm hF
  have hFt : vx_Ft y_Dk_clear.cls (yw y_Dk_clear b_Dk_clear 1 none) cls cty ft_Dk := ft_of (fun w h => List.mem_cons_of_mem _ h) fl_Dk_in ft_Dk_b
  have hini : false = true → meth.name = "<init>" := fun h => by cases h
  refine vx_go hC hFt hini (vx_ends hC hr hlk) jc_Dk_clearR 0 (by decide) rfl ?_
  refine And.intro rfl (And.intro (And.intro rfl rfl) ?_)
  refine And.intro (trivial) (And.intro ?_ (And.intro (Nat.le_refl _) (Nat.le_refl _)))
  exact And.intro rfl rfl
def j_Dk_requestR : wq_J := [(.aload_n 0, (0, 0, 0, 0, 0)), (.getfield 18, (1, 0, 2, 0, 0)), (.iload_n 1, (0, 0, 0, 0, 0)), (.invokevirtual 93, (0, 0, 0, 0, 0)), (.return_, (0, 0, 0, 0, 0))]
theorem jc_Dk_requestR : wq_c b_Dk_request 2 j_Dk_requestR 0 = true := by decide +kernel
set_option maxRecDepth 100000 in
set_option maxHeartbeats 4000000 in
theorem c_Dk_request (l : Launch) (D : va_G) (tys : List (ClassId × FieldType)) (tc : Nat → ClassId) (hty : ∀ i : Nat, i < 4 → tys[i]? = some (tc i, vx_ty i)) (b ro : Nat → Nat) (cn : Int32) (tcA : ClassId) (me mt : Int32) (zs : Nat → Int32) (rw9 : Nat → Nat → Int32) : Kt l y_Dk_request (yw y_Dk_request b_Dk_request 2 none) 1 22 0 0 D cls tys (fun _ _ _ => True) [.ref (b 0), .int mt] ([dkC b cn] ++ rqW tc tcA (b 2) (b 23) (b 24) ro me zs rw9) (fun r w => r = none ∧ ∃ z2, w = [dkC b cn] ++ rqW tc tcA (b 2) (b 23) (b 24) ro mt z2 rw9 ∧ ∀ j, j < 8 → z2 j = nI 0) := by
  refine Kt.of ro_true (by decide) rfl hty (Nat.le_of_ble_eq_true rfl) ?_
  intro p e s m args below meth c0 A hC hr hlk hnm hF
  have hFt : vx_Ft y_Dk_request.cls (yw y_Dk_request b_Dk_request 2 none) cls cty ft_Dk := ft_of (fun w h => List.mem_cons_of_mem _ h) fl_Dk_in ft_Dk_b
  have hini : false = true → meth.name = "<init>" := fun h => by cases h
  refine vx_go hC hFt hini (vx_ends hC hr hlk) jc_Dk_requestR 0 (by decide) rfl ?_
  refine And.intro rfl ?_
  refine dx_call (wr := [dkC b cn, (b 24, .inl (tcA, 8, .inr (.inr (.inr (.inr (fun G => some (ro G))))))), (ro 0, .inl (tc 0, 96, .inl (rw9 0))), (ro 1, .inl (tc 0, 96, .inl (rw9 1))), (ro 2, .inl (tc 0, 96, .inl (rw9 2))), (ro 3, .inl (tc 0, 96, .inl (rw9 3))), (ro 4, .inl (tc 0, 96, .inl (rw9 4))), (ro 5, .inl (tc 0, 96, .inl (rw9 5))), (ro 6, .inl (tc 0, 96, .inl (rw9 6))), (ro 7, .inl (tc 0, 96, .inl (rw9 7)))]) (wc := [(b 2, .inr (5, [.int me, .ref (b 24), .ref (b 23)])), (b 23, .inl (tc 0, 8, .inl zs))]) hC (c_Rq_restart l D tys tc hty (b 2) (b 24) (b 23) me mt zs) trivial (cw_V wm_Rq_restart wl_Dk_93 wi_Rq_restart ws_Rq_Rq_restart hC.2.2.2.2.1 ⟨by decide, by decide⟩) [1, 2] [0, 3, 4, 5, 6, 7, 8, 9, 10, 11] rfl rfl rfl rfl (by decide) rfl rfl rfl rfl rfl (Nat.le_of_ble_eq_true rfl) ⟨by decide, by decide⟩ (fun r' w' hp => ?_)
  obtain ⟨rfl, z2, rfl, hz2⟩ := hp
  refine ⟨[0, 10, 11, 1, 2, 3, 4, 5, 6, 7, 8, 9], [dkC b cn] ++ rqW tc tcA (b 2) (b 23) (b 24) ro mt z2 rw9, rfl, rfl, ?_⟩
  refine And.intro (trivial) (And.intro ?_ (And.intro (Nat.le_refl _) (Nat.le_refl _)))
  exact ⟨rfl, z2, rfl, hz2⟩
def j_Dk_feedR : wq_J := [(.aload_n 0, (0, 0, 0, 0, 0)), (.getfield 18, (1, 0, 2, 0, 0)), (.iload_n 1, (0, 0, 0, 0, 0)), (.lload_n 2, (0, 0, 0, 0, 0)), (.invokevirtual 97, (0, 0, 0, 0, 0)), (.ireturn, (0, 0, 0, 0, 0))]
theorem jc_Dk_feedR : wq_c b_Dk_feed 4 j_Dk_feedR 0 = true := by decide +kernel
set_option maxRecDepth 100000 in
set_option maxHeartbeats 4000000 in
theorem c_Dk_feed (l : Launch) (D : va_G) (tys : List (ClassId × FieldType)) (tc : Nat → ClassId) (hty : ∀ i : Nat, i < 4 → tys[i]? = some (tc i, vx_ty i)) (b ro : Nat → Nat) (cn : Int32) (tcA : ClassId) (htA : tys[5]? = some (tcA, .array .int)) (me : Int32) (zs : Nat → Int32) (rw9 : Nat → Nat → Int32) (tx : Nat → List Nat) (hA : rqA zs rw9 tx) (fd : Int32) (ch : Int64) : Kt l y_Dk_feed (yw y_Dk_feed b_Dk_feed 4 (some .int)) 3 70 0 0 D cls tys (fun _ _ _ => True) [.ref (b 0), .int fd, .long ch] ([dkC b cn] ++ rqW tc tcA (b 2) (b 23) (b 24) ro me zs rw9) (fun r w => r = some (.int (if fdB tx fd ch = true then nI ((tx fd.toNatClampNeg).length + (chL ch).length) else -1)) ∧ ∃ z2 r2, w = [dkC b cn] ++ rqW tc tcA (b 2) (b 23) (b 24) ro me z2 r2 ∧ rqA z2 r2 (if fdB tx fd ch = true then txU tx fd ch else tx)) := by
  refine Kt.of ro_true (by decide) rfl hty (Nat.le_of_ble_eq_true rfl) ?_
  intro p e s m args below meth c0 A hC hr hlk hnm hF
  have hFt : vx_Ft y_Dk_feed.cls (yw y_Dk_feed b_Dk_feed 4 (some .int)) cls cty ft_Dk := ft_of (fun w h => List.mem_cons_of_mem _ h) fl_Dk_in ft_Dk_b
  have hini : false = true → meth.name = "<init>" := fun h => by cases h
  refine vx_go hC hFt hini (vx_ends hC hr hlk) jc_Dk_feedR 0 (by decide) rfl ?_
  refine And.intro rfl ?_
  refine dx_call (wr := [dkC b cn]) (wc := rqW tc tcA (b 2) (b 23) (b 24) ro me zs rw9) hC (c_Rq_append l D tys tc hty tcA htA (b 2) (b 23) (b 24) ro me zs rw9 tx hA fd ch) trivial (cw_V wm_Rq_append wl_Dk_97 wi_Rq_append ws_Rq_Rq_append hC.2.2.2.2.1 ⟨by decide, by decide⟩) [1, 2, 3, 4, 5, 6, 7, 8, 9, 10, 11] [0] rfl rfl rfl rfl (by decide) rfl rfl rfl rfl rfl (Nat.le_of_ble_eq_true rfl) ⟨by decide, by decide⟩ (fun r' w' hp => ?_)
  obtain ⟨rfl, z2, r2, rfl, hA2⟩ := hp
  refine ⟨[0, 1, 2, 3, 4, 5, 6, 7, 8, 9, 10, 11], [dkC b cn] ++ rqW tc tcA (b 2) (b 23) (b 24) ro me z2 r2, rfl, rfl, ?_⟩
  refine And.intro (trivial) (And.intro ?_ (And.intro (Nat.le_refl _) (Nat.le_refl _)))
  exact ⟨rfl, z2, r2, rfl, hA2⟩
theorem lc_0 {x : Int64} : lg_cmp x 0 < 0 ↔ x < 0 := lc_lt
set_option maxRecDepth 100000 in
set_option maxHeartbeats 4000000 in
theorem c_Dk_isWithin (l : Launch) (D : va_G) (tys : List (ClassId × FieldType)) (tc : Nat → ClassId) (hty : ∀ i : Nat, i < 4 → tys[i]? = some (tc i, vx_ty i)) (x9 y9 : Int64) : Kt l y_Dk_isWithin (yw y_Dk_isWithin b_Dk_isWithin 4 (some .boolean)) 0 0 0 0 D cls tys (fun _ _ _ => True) [.long x9, .long y9] [] (fun r w => r = some (.int (bI (decide (0 ≤ x9 ∧ x9 ≤ y9)))) ∧ w = []) := by
  refine Kt.of ro_true (by decide) rfl hty (Nat.le_of_ble_eq_true rfl) ?_
  intro p e s m args below meth c0 A hC hr hlk hnm hF
  have hFt : vx_Ft y_Dk_isWithin.cls (yw y_Dk_isWithin b_Dk_isWithin 4 (some .boolean)) cls cty [] := (fun q h => by cases h)
  have hini : false = true → meth.name = "<init>" := fun h => by cases h
  refine vx_go hC hFt hini (vx_ends hC hr hlk) jc_Dk_isWithin 0 (by decide) rfl ?_
  refine And.intro (fun c3 => ?_) (fun c3 => ?_)
  · skip
    have c3 : x9 < 0 := lc_lt.mp c3
    refine vx_go hC hFt hini (vx_ends hC hr hlk) jc_Dk_isWithin 10 (by decide) rfl ?_
    refine And.intro (rfl) (And.intro ?_ (And.intro (Nat.le_refl _) (Nat.le_refl _)))
    rw [decide_eq_false (fun z => absurd z.1 (Int64.not_le.mpr c3))]
    exact And.intro rfl rfl
  · skip
    have c3 : ¬ x9 < 0 := fun z => c3 (lc_lt.mpr z)
    refine And.intro (fun c7 => ?_) (fun c7 => ?_)
    · skip
      have c7 : y9 < x9 := lc_gt.mp c7
      refine vx_go hC hFt hini (vx_ends hC hr hlk) jc_Dk_isWithin 10 (by decide) rfl ?_
      refine And.intro (rfl) (And.intro ?_ (And.intro (Nat.le_refl _) (Nat.le_refl _)))
      rw [decide_eq_false (fun z => absurd z.2 (Int64.not_le.mpr c7))]
      exact And.intro rfl rfl
    · skip
      have c7 : ¬ y9 < x9 := fun z => c7 (lc_gt.mpr z)
      refine vx_go hC hFt hini (vx_ends hC hr hlk) jc_Dk_isWithin 11 (by decide) rfl ?_
      refine And.intro (rfl) (And.intro ?_ (And.intro (Nat.le_refl _) (Nat.le_refl _)))
      rw [decide_eq_true ⟨Int64.not_lt.mp c3, Int64.not_lt.mp c7⟩]
      exact And.intro rfl rfl
set_option maxRecDepth 100000 in
set_option maxHeartbeats 4000000 in
theorem c_Rp_init (l : Launch) (D : va_G) (tys : List (ClassId × FieldType)) (tc : Nat → ClassId) (hty : ∀ i : Nat, i < 4 → tys[i]? = some (tc i, vx_ty i)) (a num t1 t2 sz tag : Nat) (htg : tag ≤ 9999) (wk : Bool) (ch : Int64) (K : Nat → Nat) : Kt l y_Rp_init (yw y_Rp_init b_Rp_init 9 none) 6 171 8 400 D cls tys (gtF K) [.ref a, .int (nI num), .ref t1, .ref t2, .int (nI sz), .int (nI tag), .int (bI wk), .long ch] [(a, .inr (7, [.int 0, .null, .null, .int 0, .null, .int 0, .long 0]))] (fun r w => r = none ∧ ∃ t w2 a3 b9 v3 l3 m3, w = [(a, .inr (7, [.int (nI num), .ref t1, .ref t2, .int (nI sz), .ref t, .int (bI wk), .long ch])), (t, .inr (10, [.ref w2, .int 0, .int 0, .int 0])), (b9, .inr (11, [.ref v3, .int 0, .int l3, .int (nI (tagL tag).length)])), (v3, .inl (tc 1, m3, .inl a3)), (w2, .inl (tc 1, (tagL tag).length, .inl (va_cpy a3 (fun _ => 0) 0 0 (tagL tag).length)))] ∧ sbI a3 (tagL tag)) := by
  refine Kt.of (gtF_ro K) (by decide) rfl hty (Nat.le_of_ble_eq_true rfl) ?_
  intro p e s m args below meth c0 A hC hr hlk hnm hF
  have hFt : vx_Ft y_Rp_init.cls (yw y_Rp_init b_Rp_init 9 none) cls cty ft_Rp := ft_of (fun w h => List.mem_cons_of_mem _ h) fl_Rp_in ft_Rp_b
  have hini : true = true → meth.name = "<init>" := fun _ => hnm
  have hdl := dec6 (n := tag) (by omega)
  refine vx_go hC hFt hini (vx_ends hC hr hlk) jc_Rp_init 0 (by decide) rfl ?_
  refine sx_obj hC wl_Rp_1 (by decide) (Nat.le_of_ble_eq_true rfl) ?_
  refine And.intro rfl (And.intro (And.intro rfl rfl) ?_)
  refine And.intro rfl (And.intro (And.intro rfl rfl) ?_)
  refine And.intro rfl (And.intro (And.intro rfl rfl) ?_)
  refine And.intro rfl (And.intro (And.intro rfl rfl) ?_)
  refine sx_new hC (ci := 11) rfl wk_Rp_24 wn_Sb wz_Sb (fs := [.null, .int 0, .int 0, .int 0]) (fun j hj => by rcases (show j = 0 ∨ j = 1 ∨ j = 2 ∨ j = 3 by omega) with rfl | rfl | rfl | rfl <;> rfl) ⟨by decide, by decide⟩ (fun b9 => ?_)
  refine And.intro rfl ?_
  refine sx_callI (wr := [(a, .inr (7, [.int (nI num), .ref t1, .ref t2, .int (nI sz), .null, .int 0, .long 0]))]) (wc := [(b9, .inr (11, [.null, .int 0, .int 0, .int 0]))]) hC (c_Sb_init1 l D tys tc hty b9) (cw_I2 wm_Sb_init1 wl_Rp_26 wi_Sb_init1 rfl hC.2.2.2.2.1 ⟨by decide, by decide⟩) [1] [0] rfl rfl rfl rfl (by decide) (vx_ro (wc := [(b9, .inr (11, [.null, .int 0, .int 0, .int 0]))]) csF_ro hC.2.2.2.2.2.2.1 (gt_cs hF) [1] rfl) rfl rfl (Nat.le_of_ble_eq_true rfl) ⟨by decide, by decide⟩ (fun r' w' hp => ?_)
  obtain ⟨v1, rfl, rfl⟩ := hp
  refine sx_callV (wr := [(a, .inr (7, [.int (nI num), .ref t1, .ref t2, .int (nI sz), .null, .int 0, .long 0]))]) (wc := (sbW tc b9 v1 0 ([] : List Nat).length 16 (fun _ => 0))) hC (c_Sb_append14 l D tys tc hty b9 v1 0 16 (fun _ => 0) ([] : List Nat) (by exact ⟨by decide, fun j hj => absurd hj (Nat.not_lt_zero _)⟩) (fun _ => (by decide : fits .byte (.int 0) = true)) ⟨by decide, by decide, by decide⟩ 118 (by decide) (by decide)) (cw_V wm_Sb_append14 wl_Rp_27 wi_Sb_append14 ws_Sb_Sb_append14 hC.2.2.2.2.1 ⟨by decide, by decide⟩) [1, 2] [0] rfl rfl rfl rfl (by decide) (q0 := 0) rfl rfl rfl (vx_ro (wc := (sbW tc b9 v1 0 ([] : List Nat).length 16 (fun _ => 0))) csF_ro hC.2.2.2.2.2.2.1 (gt_cs hF) [1, 2] rfl) rfl rfl (Nat.le_of_ble_eq_true rfl) ⟨by decide, by decide⟩ (fun r' w' hp => ?_)
  obtain ⟨rfl, v2, l2, m2, a2, rfl, I2, G2, p2⟩ := hp
  refine sx_callV (wr := [(a, .inr (7, [.int (nI num), .ref t1, .ref t2, .int (nI sz), .null, .int 0, .long 0]))]) (wc := (sbW tc b9 v2 l2 ([] ++ [118]).length m2 a2)) hC (c_Sb_append15 l D tys tc hty b9 v2 l2 m2 a2 ([] ++ [118]) I2 G2 p2 tag (by omega) (by show 1 + (dec tag).length ≤ 48; omega)) (cw_V wm_Sb_append15 wl_Rp_31 wi_Sb_append15 ws_Sb_Sb_append15 hC.2.2.2.2.1 ⟨by decide, by decide⟩) [1, 2] [0] rfl rfl rfl rfl (by decide) (q0 := 0) rfl rfl rfl (vx_ro (wc := (sbW tc b9 v2 l2 ([] ++ [118]).length m2 a2)) (ro_and csF_ro dgF_ro) hC.2.2.2.2.2.2.1 ⟨gt_cs hF, hF.2⟩ [1, 2] rfl) rfl rfl (Nat.le_of_ble_eq_true rfl) ⟨by decide, by decide⟩ (fun r' w' hp => ?_)
  obtain ⟨rfl, v3, l3, m3, a3, rfl, I3, G3, p3⟩ := hp
  refine sx_callV (wr := [(a, .inr (7, [.int (nI num), .ref t1, .ref t2, .int (nI sz), .null, .int 0, .long 0]))]) (wc := (sbW tc b9 v3 l3 (tagL tag).length m3 a3)) hC (c_Sb_toString42 l D tys tc hty b9 v3 l3 m3 a3 (tagL tag) I3 G3 p3 (by show (dec tag).length + 1 < 16; omega)) (cw_V wm_Sb_toString42 wl_Rp_34 wi_Sb_toString42 ws_Sb_Sb_toString42 hC.2.2.2.2.1 ⟨by decide, by decide⟩) [1, 2] [0] rfl rfl rfl rfl (by decide) (q0 := 0) rfl rfl rfl (vx_ro (wc := (sbW tc b9 v3 l3 (tagL tag).length m3 a3)) csF_ro hC.2.2.2.2.2.2.1 (gt_cs hF) [1, 2] rfl) rfl rfl (Nat.le_of_ble_eq_true rfl) ⟨by decide, by decide⟩ (fun r' w' hp => ?_)
  obtain ⟨t, w2, rfl, rfl⟩ := hp
  refine And.intro rfl (And.intro (And.intro rfl rfl) ?_)
  refine And.intro rfl (And.intro (And.intro (by cases wk <;> rfl) (by cases wk <;> rfl)) ?_)
  refine And.intro rfl (And.intro (And.intro rfl rfl) ?_)
  refine And.intro (trivial) (And.intro ?_ (And.intro (Nat.le_of_ble_eq_true rfl) (Nat.le_of_ble_eq_true rfl)))
  exact ⟨rfl, t, w2, a3, b9, v3, l3, m3, rfl, I3⟩
def j_Dk_addR : wq_J := [(.iload_n 1, (0, 0, 0, 0, 0)), (.i2l, (0, 0, 0, 0, 0)), (.getstatic 70, (2, 0, 0, 0, 0)), (.arraylength, (0, 0, 0, 0, 0)), (.iconst 1, (0, 0, 0, 1, 0)), (.isub, (0, 0, 0, 0, 0)), (.i2l, (0, 0, 0, 0, 0)), (.invokestatic 74, (0, 0, 0, 0, 0)), (.ifCond .eq 22, (0, 34, 0, 0, 0)), (.iload_n 2, (0, 0, 0, 0, 0)), (.i2l, (0, 0, 0, 0, 0)), (.getstatic 78, (2, 0, 0, 0, 0)), (.arraylength, (0, 0, 0, 0, 0)), (.iconst 1, (0, 0, 0, 1, 0)), (.isub, (0, 0, 0, 0, 0)), (.i2l, (0, 0, 0, 0, 0)), (.invokestatic 74, (0, 0, 0, 0, 0)), (.ifCond .eq 7, (0, 34, 0, 0, 0)), (.iconst 1, (0, 0, 0, 1, 0)), (.goto 4, (0, 35, 0, 0, 0)), (.iconst 0, (0, 0, 0, 0, 0)), (.istore 8, (0, 0, 0, 0, 0)), (.iload_n 3, (0, 0, 0, 0, 0)), (.i2l, (0, 0, 0, 0, 0)), (.ldc2_w 82, (1, 0, 0, 0, 100000)), (.invokestatic 74, (0, 0, 0, 0, 0)), (.ifCond .eq 30, (0, 75, 0, 0, 0)), (.iload 4, (0, 0, 0, 0, 0)), (.i2l, (0, 0, 0, 0, 0)), (.ldc2_w 84, (1, 0, 0, 0, 9999)), (.invokestatic 74, (0, 0, 0, 0, 0)), (.ifCond .eq 18, (0, 75, 0, 0, 0)), (.lload 6, (0, 0, 0, 0, 0)), (.ldc2_w 61, (1, 0, 0, 0, 4102444799)), (.invokestatic 74, (0, 0, 0, 0, 0)), (.ifCond .eq 7, (0, 75, 0, 0, 0)), (.iconst 1, (0, 0, 0, 1, 0)), (.goto 4, (0, 76, 0, 0, 0)), (.iconst 0, (0, 0, 0, 0, 0)), (.istore 9, (0, 0, 0, 0, 0)), (.iload 8, (0, 0, 0, 0, 0)), (.ifCond .eq 16, (0, 96, 0, 0, 0)), (.iload 9, (0, 0, 0, 0, 0)), (.ifCond .eq 11, (0, 96, 0, 0, 0)), (.aload_n 0, (0, 0, 0, 0, 0)), (.getfield 86, (1, 0, 1, 0, 0)), (.iconst 4, (0, 0, 0, 4, 0)), (.if_icmp .lt 5, (0, 98, 0, 0, 0)), (.iconst (-1), (0, 0, 0, (-1), 0)), (.ireturn, (0, 0, 0, 0, 0)), (.aload_n 0, (0, 0, 0, 0, 0)), (.getfield 86, (1, 0, 1, 0, 0)), (.istore 10, (0, 0, 0, 0, 0)), (.aload_n 0, (0, 0, 0, 0, 0)), (.getfield 11, (1, 0, 0, 0, 0)), (.iload 10, (0, 0, 0, 0, 0)), (.new 9, (0, 0, 0, 0, 0)), (.dup, (0, 0, 0, 0, 0)), (.iload 10, (0, 0, 0, 0, 0)), (.getstatic 70, (2, 0, 0, 0, 0)), (.iload_n 1, (0, 0, 0, 0, 0)), (.aaload, (0, 0, 0, 0, 0)), (.getstatic 78, (2, 0, 0, 0, 0)), (.iload_n 2, (0, 0, 0, 0, 0)), (.aaload, (0, 0, 0, 0, 0)), (.iload_n 3, (0, 0, 0, 0, 0)), (.iload 4, (0, 0, 0, 0, 0)), (.iload 5, (0, 0, 0, 0, 0)), (.lload 6, (0, 0, 0, 0, 0)), (.invokespecial 90, (0, 0, 0, 0, 0)), (.aastore, (0, 0, 0, 0, 0)), (.aload_n 0, (0, 0, 0, 0, 0)), (.dup, (0, 0, 0, 0, 0)), (.getfield 86, (1, 0, 1, 0, 0)), (.iconst 1, (0, 0, 0, 1, 0)), (.iadd, (0, 0, 0, 0, 0)), (.putfield 86, (1, 0, 1, 0, 0)), (.iload 10, (0, 0, 0, 0, 0)), (.ireturn, (0, 0, 0, 0, 0))]
theorem jc_Dk_addR : wq_c b_Dk_add 11 j_Dk_addR 0 = true := by decide +kernel
theorem w5_i {x : Int32} {k : Nat} (hk : k < 2 ^ 31) : (0 ≤ Int32.toInt64 x ∧ Int32.toInt64 x ≤ lN k) ↔ (0 ≤ x ∧ x ≤ nI k) := by
  rw [Int64.le_iff_toInt_le, Int64.le_iff_toInt_le, Int32.le_iff_toInt_le, Int32.le_iff_toInt_le, Int32.toInt_toInt64, lW_toInt (by omega), nI_toInt hk]
  exact Iff.rfl
theorem nat_i {x : Int32} {k : Nat} (hk : k < 2 ^ 31) (h : 0 ≤ x ∧ x ≤ nI k) : x = nI x.toNatClampNeg ∧ x.toNatClampNeg ≤ k := by
  obtain ⟨h1, h2⟩ := i_nat (Int32.not_lt.mpr h.1)
  refine ⟨h1, ?_⟩
  have h3 := h.2
  rw [h1] at h3
  exact (nI_leI h2 hk).mp h3
theorem nat_l {x : Int64} {k : Nat} (hk : k < 2 ^ 63) (h : 0 ≤ x ∧ x ≤ lN k) : x = lN x.toNatClampNeg ∧ x.toNatClampNeg ≤ k := by
  have h1 := Int64.le_iff_toInt_le.mp h.1
  have h2 := Int64.le_iff_toInt_le.mp h.2
  rw [lW_toInt hk] at h2
  have h0 : (0 : Int64).toInt = 0 := rfl
  rw [h0] at h1
  have h3 : x.toNatClampNeg = x.toInt.toNat := rfl
  refine ⟨Int64.toInt_inj.mp (by rw [lW_toInt (by omega), h3]; omega), by omega⟩
