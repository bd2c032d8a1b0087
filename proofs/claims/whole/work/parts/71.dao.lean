/-! THE CLASS: Dates, a field's time, by program (wip/whole/gen/p71.py) -/
def rix (wd : Nat) : Nat := if wd = 2 then 7 else if wd = 3 then 8 else if wd = 4 then 9 else if wd = 6 then 10 else 11
theorem rix_ok {wd : Nat} (h : wd < 7) : ∃ q : String × Nat × String × List Nat, KLs[rix wd]? = some q ∧ q.2.2.2 = rstL wd := by
  rcases (show wd = 0 ∨ wd = 1 ∨ wd = 2 ∨ wd = 3 ∨ wd = 4 ∨ wd = 5 ∨ wd = 6 by omega) with rfl | rfl | rfl | rfl | rfl | rfl | rfl <;> exact ⟨_, rfl, rfl⟩
theorem rst_w {wd : Nat} : isW (rstL wd) := by
  unfold rstL
  split; exact ⟨by decide, by decide⟩; split; exact ⟨by decide, by decide⟩; split; exact ⟨by decide, by decide⟩; split; exact ⟨by decide, by decide⟩; exact ⟨by decide, by decide⟩
set_option maxRecDepth 100000 in
set_option maxHeartbeats 4000000 in
theorem c_Da_restOfName (l : Launch) (D : va_G) (tys : List (ClassId × FieldType)) (tc : Nat → ClassId) (hty : ∀ i : Nat, i < 4 → tys[i]? = some (tc i, vx_ty i)) (wd : Nat) (hwd : wd < 7) (K : Nat → Nat) : Kt l y_Da_restOfName (yw y_Da_restOfName b_Da_restOfName 1 (Option.some (Jvm.ClassFile.FieldType.object "java/lang/String"))) 0 0 0 0 D cls tys (gF K) [.int (nI wd)] [] (fun r w => r = some (.ref (K (rix wd))) ∧ w = []) := by
  refine Kt.of (gF_ro K) (by decide) rfl hty (Nat.le_of_ble_eq_true rfl) ?_
  intro p e s m args below meth c0 A hC hr hlk hnm hF
  have hFt : vx_Ft y_Da_restOfName.cls (yw y_Da_restOfName b_Da_restOfName 1 (Option.some (Jvm.ClassFile.FieldType.object "java/lang/String"))) cls cty [] := (fun q h => by cases h)
  have hini : false = true → meth.name = "<init>" := fun h => by cases h
  have hg := hF
  refine vx_gon hC hFt hini (vx_ends hC hr hlk) jc_Da_restOfName 0 1 (by decide) rfl ?_
  refine Vx.subL (lv' := [(0, .int (nI wd))]) [0] rfl ?_
  have hdec := vx_dec jc_Da_restOfName 1 _ (by decide) rfl
  rcases (show wd = 0 ∨ wd = 1 ∨ wd = 2 ∨ wd = 3 ∨ wd = 4 ∨ wd = 5 ∨ wd = 6 by omega) with rfl | rfl | rfl | rfl | rfl | rfl | rfl
  · refine vx_tblO hC hdec 48 (Or.inl (by decide)) rfl ?_
    refine vx_go hC hFt hini (vx_ends hC hr hlk) jc_Da_restOfName 10 (by decide) rfl ?_
    refine ⟨_, Or.inr (Or.inr ⟨_, _, rfl, (hg.1 11 _ rfl).1⟩), ?_⟩
    refine And.intro (trivial) (And.intro ?_ (And.intro (Nat.le_refl _) (Nat.le_refl _)))
    exact And.intro rfl rfl
  · refine vx_tblO hC hdec 48 (Or.inl (by decide)) rfl ?_
    refine vx_go hC hFt hini (vx_ends hC hr hlk) jc_Da_restOfName 10 (by decide) rfl ?_
    refine ⟨_, Or.inr (Or.inr ⟨_, _, rfl, (hg.1 11 _ rfl).1⟩), ?_⟩
    refine And.intro (trivial) (And.intro ?_ (And.intro (Nat.le_refl _) (Nat.le_refl _)))
    exact And.intro rfl rfl
  · refine vx_tbl hC hdec 36 (off := 35) (by decide) (by decide) rfl rfl ?_
    refine vx_go hC hFt hini (vx_ends hC hr hlk) jc_Da_restOfName 2 (by decide) rfl ?_
    refine ⟨_, Or.inr (Or.inr ⟨_, _, rfl, (hg.1 7 _ rfl).1⟩), ?_⟩
    refine And.intro (trivial) (And.intro ?_ (And.intro (Nat.le_refl _) (Nat.le_refl _)))
    exact And.intro rfl rfl
  · refine vx_tbl hC hdec 39 (off := 38) (by decide) (by decide) rfl rfl ?_
    refine vx_go hC hFt hini (vx_ends hC hr hlk) jc_Da_restOfName 4 (by decide) rfl ?_
    refine ⟨_, Or.inr (Or.inr ⟨_, _, rfl, (hg.1 8 _ rfl).1⟩), ?_⟩
    refine And.intro (trivial) (And.intro ?_ (And.intro (Nat.le_refl _) (Nat.le_refl _)))
    exact And.intro rfl rfl
  · refine vx_tbl hC hdec 42 (off := 41) (by decide) (by decide) rfl rfl ?_
    refine vx_go hC hFt hini (vx_ends hC hr hlk) jc_Da_restOfName 6 (by decide) rfl ?_
    refine ⟨_, Or.inr (Or.inr ⟨_, _, rfl, (hg.1 9 _ rfl).1⟩), ?_⟩
    refine And.intro (trivial) (And.intro ?_ (And.intro (Nat.le_refl _) (Nat.le_refl _)))
    exact And.intro rfl rfl
  · refine vx_tbl hC hdec 48 (off := 47) (by decide) (by decide) rfl rfl ?_
    refine vx_go hC hFt hini (vx_ends hC hr hlk) jc_Da_restOfName 10 (by decide) rfl ?_
    refine ⟨_, Or.inr (Or.inr ⟨_, _, rfl, (hg.1 11 _ rfl).1⟩), ?_⟩
    refine And.intro (trivial) (And.intro ?_ (And.intro (Nat.le_refl _) (Nat.le_refl _)))
    exact And.intro rfl rfl
  · refine vx_tbl hC hdec 45 (off := 44) (by decide) (by decide) rfl rfl ?_
    refine vx_go hC hFt hini (vx_ends hC hr hlk) jc_Da_restOfName 8 (by decide) rfl ?_
    refine ⟨_, Or.inr (Or.inr ⟨_, _, rfl, (hg.1 10 _ rfl).1⟩), ?_⟩
    refine And.intro (trivial) (And.intro ?_ (And.intro (Nat.le_refl _) (Nat.le_refl _)))
    exact And.intro rfl rfl
theorem cal_b {ly wd : Nat} {r : List Nat} {u : Dt} (hly : ly < 10000) (h : dtC ly wd r = some u) : u.1.1 < 10000 ∧ u.1.2.1 < 12 ∧ u.1.2.2.1 < 100 ∧ u.1.2.2.2 < 86400 := by
  have kb : ∀ {b : Bool × List Nat} {f : List Nat → Option Dt} {u : Dt}, sb b f = some u → ∃ r, f r = some u := by
    intro b f u hb
    unfold sb at hb
    split at hb
    · exact ⟨_, hb⟩
    · cases hb
  have kn : ∀ {v : Option (Nat × List Nat)} {f : Nat → List Nat → Option Dt} {u : Dt}, sn v f = some u → ∃ z r, v = some (z, r) ∧ f z r = some u := by
    intro v f u hb
    cases v with
    | none => cases hb
    | some w => exact ⟨w.1, w.2, rfl, hb⟩
  have kc : ∀ {rs : List Nat} {z : Nat} {r : List Nat}, clk rs = some (z, r) → z < 86400 := by
    intro rs z r hc
    have := clk_ok (T := rs) (p := 0) (ov := some z) (by rw [List.drop_zero, hc]; rfl) z rfl
    omega
  have km : ∀ {rs : List Nat} {z : Nat} {r : List Nat}, nmO monL rs = some (z, r) → z < 12 := fun hc => nmO_lt 12 (by decide) hc
  have kd : ∀ {k : Nat} {rs : List Nat} {z : Nat} {r : List Nat}, dgO k rs = some (z, r) → z < 10 ^ k := by
    intro k rs z r hc
    unfold dgO at hc
    cases hd : (dgs k 0 rs).1 with
    | none => rw [hd] at hc; cases hc
    | some v =>
      rw [hd] at hc
      have h1 := (Prod.mk.inj (Option.some.inj hc)).1
      have h2 := dgs_lt (show dgs k 0 rs = (some v, (dgs k 0 rs).2) by rw [← hd])
      omega
  have kp : ∀ {rs : List Nat} {z : Nat} {r : List Nat}, pday rs = some (z, r) → z < 100 := by
    intro rs z r hc
    have := day_ok (rs := rs) (ov := some z) (by rw [hc]; rfl) z rfl
    omega
  have kT : ∀ {y k d : Nat} {r : List Nat} {u : Dt}, fT y k d r = some u → u.1.1 = y ∧ u.1.2.1 = k ∧ u.1.2.2.1 = d ∧ u.1.2.2.2 < 86400 := by
    intro y k d r u h1
    obtain ⟨r1, h1⟩ := kb h1
    obtain ⟨t, r2, hc, h1⟩ := kn h1
    obtain ⟨r3, h1⟩ := kb h1
    obtain rfl := Option.some.inj h1
    exact ⟨rfl, rfl, rfl, kc hc⟩
  have hsy : ∀ v, v < 100 → shy ly v < 10000 := by intro v hv; unfold shy; split <;> omega
  unfold dtC at h
  split at h
  · obtain ⟨r1, h⟩ := kb h
    obtain ⟨d, r2, hd, h⟩ := kn h
    obtain ⟨r3, h⟩ := kb h
    obtain ⟨k, r4, hk, h⟩ := kn h
    obtain ⟨r5, h⟩ := kb h
    obtain ⟨y, r6, hy, h⟩ := kn h
    obtain ⟨e1, e2, e3, e4⟩ := kT h
    have := kd hd; have := km hk; have := kd hy
    exact ⟨by omega, by omega, by omega, e4⟩
  · split at h
    · obtain ⟨k, r4, hk, h⟩ := kn h
      obtain ⟨r5, h⟩ := kb h
      obtain ⟨d, r2, hd, h⟩ := kn h
      obtain ⟨r3, h⟩ := kb h
      obtain ⟨t, r6, ht, h⟩ := kn h
      obtain ⟨r7, h⟩ := kb h
      obtain ⟨y, r8, hy, h⟩ := kn h
      obtain rfl := Option.some.inj h
      exact ⟨kd hy, km hk, kp hd, kc ht⟩
    · obtain ⟨r0, h⟩ := kb h
      obtain ⟨r1, h⟩ := kb h
      obtain ⟨d, r2, hd, h⟩ := kn h
      obtain ⟨r3, h⟩ := kb h
      obtain ⟨k, r4, hk, h⟩ := kn h
      obtain ⟨r5, h⟩ := kb h
      obtain ⟨v, r6, hv, h⟩ := kn h
      obtain ⟨e1, e2, e3, e4⟩ := kT h
      have := kd hd; have := km hk; have := hsy v (kd hv)
      exact ⟨by omega, by omega, by omega, e4⟩
set_option maxRecDepth 100000 in
set_option maxHeartbeats 4000000 in
theorem c_Da_timeOf (l : Launch) (D : va_G) (tys : List (ClassId × FieldType)) (tc : Nat → ClassId) (hty : ∀ i : Nat, i < 4 → tys[i]? = some (tc i, vx_ty i)) (h ra sa : Nat) (z1 z2 : Int32) (sd : Nat → Int32) (ss : Nat) (q : Nat) (ro : Nat → Nat) (tx : Nat → List Nat) (hx : ∀ G, G < 8 → isT (tx G)) (K : Nat → Nat) (lyn : Nat) (hly : lyn < 10000) (y0 mo0 d0 s0 : Int32) (G : Nat) (hG : G < 8) : Kt l y_Da_timeOf (yw y_Da_timeOf b_Da_timeOf 5 (some .long)) 7 149 0 0 D cls tys (fun A U H => rqF q ro tx A U H ∧ rdF ra [] A U H ∧ gF K A U H) [.ref h, .ref q, .int (nI G)] [(h, .inr (3, [.ref ra, .int z1, .int z2, .ref sa, .int (nI ss), .int (nI lyn), .int (y0), .int (mo0), .int (d0), .int (s0)])), (sa, .inl (tc 0, 96, .inl sd))] (fun r w => r = some (.long (lI (dtO lyn (tx G)))) ∧ ∃ ra2 y1 y2 ss2 sd2 a2 b2 c2 e2, w = [(h, .inr (3, [.ref ra2, .int y1, .int y2, .ref sa, .int (nI ss2), .int (nI lyn), .int (a2), .int (b2), .int (c2), .int (e2)])), (sa, .inl (tc 0, 96, .inl sd2))] ∧ (ra2 = ra ∨ ra2 = ro G)) := by
  refine Kt.of (ro_and (rqF_ro q ro tx) (ro_and (rdF_ro ra []) (gF_ro K))) (by decide) rfl hty (Nat.le_of_ble_eq_true rfl) ?_
  intro p e s m args below meth c0 A hC hr hlk hnm hF
  have hFt : vx_Ft y_Da_timeOf.cls (yw y_Da_timeOf b_Da_timeOf 5 (some .long)) cls cty ft_Da := ft_of (fun w h => List.mem_cons_of_mem _ h) fl_Da_in ft_Da_b
  have hini : false = true → meth.name = "<init>" := fun h => by cases h
  obtain ⟨hrq, hold, hg⟩ := hF
  refine vx_gon hC hFt hini (vx_ends hC hr hlk) jc_Da_timeOf 0 15 (by decide) rfl ?_
  refine ux_call hC (c_Rd_open l D tys tc hty 3 (by decide) h ra sa [.int (nI lyn), .int (y0), .int (mo0), .int (d0), .int (s0)] z1 z2 sd ss q ro tx G hG (hx G hG).1) hrq (cw_U wm_Rd_open wl_Da_19 wsm_Da_open wi_Rd_open ws_Da_Da_open rfl hC.2.2.2.2.1 ⟨by decide, by decide⟩) rfl rfl rfl rfl (Nat.le_of_ble_eq_true rfl) ⟨Nat.zero_le _, Nat.zero_le _⟩ (fun r' w1 hp => ?_)
  obtain ⟨rfl, rfl⟩ := hp
  obtain ⟨ra2, hra2⟩ : ∃ ra2, (if 0 < (tx G).length then ro G else ra) = ra2 := ⟨_, rfl⟩
  rw [hra2]
  have hra : ra2 = ra ∨ ra2 = ro G := by rw [← hra2]; split <;> simp
  have hrd : rdF ra2 (tx G) A s s.heap := by
    rw [← hra2]
    split
    · exact hrq.2.choose_spec.choose_spec.2.2.2.2 G hG
    · rename_i hz
      rw [show tx G = [] from List.eq_nil_of_length_eq_zero (by omega)]; exact hold
  obtain ⟨T, hTe⟩ : ∃ T, tx G = T := ⟨_, rfl⟩
  have hT : isT T := by rw [← hTe]; exact hx G hG
  rw [hTe] at hrd ⊢
  refine ux_call hC (c_Rd_skipGap l D tys tc hty 3 (by decide) h ra2 sa [.int (nI lyn), .int (y0), .int (mo0), .int (d0), .int (s0)] T T sd ss hT (List.suffix_refl _)) hrd (cw_U wm_Rd_skipGap wl_Da_23 wsm_Da_skipGap wi_Rd_skipGap ws_Da_Da_skipGap rfl hC.2.2.2.2.1 ⟨by decide, by decide⟩) rfl rfl rfl rfl (Nat.le_of_ble_eq_true rfl) ⟨Nat.zero_le _, Nat.zero_le _⟩ (fun r' w1 hp => ?_)
  obtain ⟨rfl, rfl⟩ := hp
  refine ⟨_, Or.inr (Or.inr ⟨_, _, rfl, (hg.1 4 _ rfl).1⟩), ?_⟩
  refine ux_call hC (c_Rd_takeName l D tys tc hty 3 (by decide) h ra2 sa [.int (nI lyn), .int (y0), .int (mo0), .int (d0), .int (s0)] T (gp T) sd ss hT gp_sf (K 4) dayL (by exact ⟨by decide, by decide⟩) (by decide)) ⟨hrd, (hg.1 4 _ rfl).2⟩ (cw_U wm_Rd_takeName wl_Da_28 wsm_Da_takeName wi_Rd_takeName ws_Da_Da_takeName rfl hC.2.2.2.2.1 ⟨by decide, by decide⟩) rfl rfl rfl rfl (Nat.le_of_ble_eq_true rfl) ⟨Nat.zero_le _, Nat.zero_le _⟩ (fun r' w1 hp => ?_)
  obtain ⟨rfl, rfl⟩ := hp
  refine And.intro (fun c12 => ?_) (fun c12 => ?_)
  · skip
    obtain ⟨wd, hwd1⟩ : ∃ wd, (nmAt dayL (gp T)).1 = some wd := by
      cases h9 : (nmAt dayL (gp T)).1 with
      | none => rw [h9] at c12; exact absurd rfl c12
      | some a => exact ⟨a, rfl⟩
    have hwd : wd < 7 := nmO_lt (u := (wd, (nmAt dayL (gp T)).2)) 7 (by decide) (nmO_s hwd1)
    have hsn : (nmAt dayL (gp T)).2 <:+ T := nmAt_sf.trans gp_sf
    refine Vx.subL (lv' := [(0, .ref h), (3, .int (iI (nmAt dayL (gp T)).1))]) [1, 0] rfl ?_
    refine vx_cut (α := (Bool × List Nat × Int32 × Int32 × Int32 × Int32)) 87 (fun u => u.1 = (dtC lyn wd (nmAt dayL (gp T)).2).isSome ∧ u.2.1 <:+ T ∧ ∀ v, dtC lyn wd (nmAt dayL (gp T)).2 = some v → u.2.2.1 = nI v.1.1 ∧ u.2.2.2.1 = nI v.1.2.1 ∧ u.2.2.2.2.1 = nI v.1.2.2.1 ∧ u.2.2.2.2.2 = nI v.1.2.2.2 ∧ u.2.1 = v.2) (fun u => [(0, .ref h), (4, .int (bI u.1))]) (fun u => []) (fun u => (rdW tc 3 h ra2 sa [.int (nI lyn), .int (u.2.2.1), .int (u.2.2.2.1), .int (u.2.2.2.2.1), .int (u.2.2.2.2.2)] T u.2.1 sd ss)) (fun hJ43 => ?_) ?_
    · skip
      refine vx_gon hC hFt hini (vx_ends hC hr hlk) jc_Da_timeOf 15 28 (by decide) rfl ?_
      refine ux_call hC (c_Rd_take l D tys tc hty 3 (by decide) h ra2 sa [.int (nI lyn), .int (y0), .int (mo0), .int (d0), .int (s0)] T (nmAt dayL (gp T)).2 sd ss 44 hT hsn (by decide)) hrd (cw_U wm_Rd_take wl_Da_34 wsm_Da_take wi_Rd_take ws_Da_Da_take rfl hC.2.2.2.2.1 ⟨by decide, by decide⟩) rfl rfl rfl rfl (Nat.le_of_ble_eq_true rfl) ⟨Nat.zero_le _, Nat.zero_le _⟩ (fun r' w1 hp => ?_)
      obtain ⟨rfl, rfl⟩ := hp
      refine And.intro (fun c18 => ?_) (fun c18 => ?_)
      · skip
        have c18 : (pk 44 (nmAt dayL (gp T)).2).1 = false := bI_eq c18
        refine vx_gon hC hFt hini (vx_ends hC hr hlk) jc_Da_timeOf 23 20 (by decide) rfl ?_
        refine ux_call hC (c_Rd_take l D tys tc hty 3 (by decide) h ra2 sa [.int (nI lyn), .int (y0), .int (mo0), .int (d0), .int (s0)] T (pk 44 (nmAt dayL (gp T)).2).2 sd ss 32 hT (pk_sf.trans hsn) (by decide)) hrd (cw_U wm_Rd_take wl_Da_34 wsm_Da_take wi_Rd_take ws_Da_Da_take rfl hC.2.2.2.2.1 ⟨by decide, by decide⟩) rfl rfl rfl rfl (Nat.le_of_ble_eq_true rfl) ⟨Nat.zero_le _, Nat.zero_le _⟩ (fun r' w1 hp => ?_)
        obtain ⟨rfl, rfl⟩ := hp
        refine And.intro (fun c26 => ?_) (fun c26 => ?_)
        · skip
          have c26 : (pk 32 (pk 44 (nmAt dayL (gp T)).2).2).1 = false := bI_eq c26
          refine vx_gon hC hFt hini (vx_ends hC hr hlk) jc_Da_timeOf 31 12 (by decide) rfl ?_
          refine calls0 hC (c_Da_restOfName l D tys tc hty wd hwd K) hg wm_Da_restOfName wl_Da_45 wt_Da_restOfName ⟨by decide, by decide⟩ rfl (by rw [hwd1]; rfl) (Nat.le_of_ble_eq_true rfl) ⟨Nat.zero_le _, Nat.zero_le _⟩ (fun r' hp => ?_)
          subst hp
          obtain ⟨qk, hqk, hql⟩ := rix_ok hwd
          have hkc := hg.1 (rix wd) qk hqk
          rw [hql] at hkc
          refine ux_call hC (c_Rd_takeText l D tys tc hty 3 (by decide) h ra2 sa [.int (nI lyn), .int (y0), .int (mo0), .int (d0), .int (s0)] T (pk 32 (pk 44 (nmAt dayL (gp T)).2).2).2 sd ss hT (pk_sf.trans (pk_sf.trans hsn)) (K (rix wd)) (rstL wd) rst_w) ⟨hrd, hkc.2⟩ (cw_U wm_Rd_takeText wl_Da_49 wsm_Da_takeText wi_Rd_takeText ws_Da_Da_takeText rfl hC.2.2.2.2.1 ⟨by decide, by decide⟩) rfl rfl rfl rfl (Nat.le_of_ble_eq_true rfl) ⟨Nat.zero_le _, Nat.zero_le _⟩ (fun r' w1 hp => ?_)
          obtain ⟨rfl, rfl⟩ := hp
          refine And.intro (fun c35 => ?_) (fun c35 => ?_)
          · skip
            have c35 : (tt (rstL wd) (pk 32 (pk 44 (nmAt dayL (gp T)).2).2).2).1 = false := bI_eq c35
            refine vx_gon hC hFt hini (vx_ends hC hr hlk) jc_Da_timeOf 41 2 (by decide) rfl ?_
            refine Vx.subL (lv' := [(0, .ref h), (4, .int (bI false))]) [1, 0] rfl ?_
            have hC9 : dtC lyn wd (nmAt dayL (gp T)).2 = sb (tt (rstL wd) (pk 32 (pk 44 (nmAt dayL (gp T)).2).2).2) (fD lyn) := by
              unfold dtC
              rw [if_neg (by rw [c18]; exact fun z => by cases z)]
              have e1 := pk_f c18
              have e2 := pk_f c26
              rw [e1] at c26 e2
              rw [e1, e2, if_neg (by rw [c26]; exact fun z => by cases z)]
            rw [sb_f c35] at hC9
            exact hJ43 (false, (tt (rstL wd) (pk 32 (pk 44 (nmAt dayL (gp T)).2).2).2).2, y0, mo0, d0, s0) ⟨by rw [hC9]; rfl, tt_sf.trans (pk_sf.trans (pk_sf.trans hsn)), fun v hv => by rw [hC9] at hv; cases hv⟩
          · skip
            have c35 : (tt (rstL wd) (pk 32 (pk 44 (nmAt dayL (gp T)).2).2).2).1 = true := bI_ne c35
            refine ox_call hC (c_Da_takeDashForm l D tys tc hty h ra2 sa T (tt (rstL wd) (pk 32 (pk 44 (nmAt dayL (gp T)).2).2).2).2 sd ss hT (tt_sf.trans (pk_sf.trans (pk_sf.trans hsn))) K lyn hly y0 mo0 d0 s0) ⟨hrd, hg⟩ (cw_V wm_Da_takeDashForm wl_Da_53 wi_Da_takeDashForm ws_Da_Da_takeDashForm hC.2.2.2.2.1 ⟨by decide, by decide⟩) rfl rfl rfl rfl (Nat.le_of_ble_eq_true rfl) ⟨Nat.zero_le _, Nat.zero_le _⟩ (fun r' w1 hp => ?_)
            obtain ⟨rfl, y5, mo5, d5, s5, r5, rfl, hs5, hx5⟩ := hp
            refine And.intro (fun c38 => ?_) (fun c38 => ?_)
            · skip
              have c38 : (fD lyn (tt (rstL wd) (pk 32 (pk 44 (nmAt dayL (gp T)).2).2).2).2).isSome = false := bI_eq c38
              refine vx_gon hC hFt hini (vx_ends hC hr hlk) jc_Da_timeOf 41 2 (by decide) rfl ?_
              refine Vx.subL (lv' := [(0, .ref h), (4, .int (bI false))]) [1, 0] rfl ?_
              have hC9 : dtC lyn wd (nmAt dayL (gp T)).2 = sb (tt (rstL wd) (pk 32 (pk 44 (nmAt dayL (gp T)).2).2).2) (fD lyn) := by
                unfold dtC
                rw [if_neg (by rw [c18]; exact fun z => by cases z)]
                have e1 := pk_f c18
                have e2 := pk_f c26
                rw [e1] at c26 e2
                rw [e1, e2, if_neg (by rw [c26]; exact fun z => by cases z)]
              rw [sb_t c35] at hC9
              exact hJ43 (false, r5, y5, mo5, d5, s5) ⟨by rw [hC9]; exact c38.symm, hs5, by rw [hC9]; exact hx5⟩
            · skip
              have c38 : (fD lyn (tt (rstL wd) (pk 32 (pk 44 (nmAt dayL (gp T)).2).2).2).2).isSome = true := bI_ne c38
              refine vx_gon hC hFt hini (vx_ends hC hr hlk) jc_Da_timeOf 42 1 (by decide) rfl ?_
              refine Vx.subL (lv' := [(0, .ref h), (4, .int (bI true))]) [1, 0] rfl ?_
              have hC9 : dtC lyn wd (nmAt dayL (gp T)).2 = sb (tt (rstL wd) (pk 32 (pk 44 (nmAt dayL (gp T)).2).2).2) (fD lyn) := by
                unfold dtC
                rw [if_neg (by rw [c18]; exact fun z => by cases z)]
                have e1 := pk_f c18
                have e2 := pk_f c26
                rw [e1] at c26 e2
                rw [e1, e2, if_neg (by rw [c26]; exact fun z => by cases z)]
              rw [sb_t c35] at hC9
              exact hJ43 (true, r5, y5, mo5, d5, s5) ⟨by rw [hC9]; exact c38.symm, hs5, by rw [hC9]; exact hx5⟩
        · skip
          have c26 : (pk 32 (pk 44 (nmAt dayL (gp T)).2).2).1 = true := bI_ne c26
          refine ox_call hC (c_Da_takeSpaceForm l D tys tc hty h ra2 sa T (pk 32 (pk 44 (nmAt dayL (gp T)).2).2).2 sd ss hT (pk_sf.trans (pk_sf.trans hsn)) K (nI lyn) y0 mo0 d0 s0) ⟨hrd, hg⟩ (cw_V wm_Da_takeSpaceForm wl_Da_42 wi_Da_takeSpaceForm ws_Da_Da_takeSpaceForm hC.2.2.2.2.1 ⟨by decide, by decide⟩) rfl rfl rfl rfl (Nat.le_of_ble_eq_true rfl) ⟨Nat.zero_le _, Nat.zero_le _⟩ (fun r' w1 hp => ?_)
          obtain ⟨rfl, y5, mo5, d5, s5, r5, rfl, hs5, hx5⟩ := hp
          refine Vx.subL (lv' := [(0, .ref h), (4, .int (bI (fS (pk 32 (pk 44 (nmAt dayL (gp T)).2).2).2).isSome))]) [1, 0] rfl ?_
          have hC9 : dtC lyn wd (nmAt dayL (gp T)).2 = fS (pk 32 (pk 44 (nmAt dayL (gp T)).2).2).2 := by
            unfold dtC
            rw [if_neg (by rw [c18]; exact fun z => by cases z)]
            rw [pk_f c18] at c26 ⊢
            rw [if_pos c26]
          exact hJ43 ((fS (pk 32 (pk 44 (nmAt dayL (gp T)).2).2).2).isSome, r5, y5, mo5, d5, s5) ⟨by rw [hC9], hs5, by rw [hC9]; exact hx5⟩
      · skip
        have c18 : (pk 44 (nmAt dayL (gp T)).2).1 = true := bI_ne c18
        refine ox_call hC (c_Da_takeCommaForm l D tys tc hty h ra2 sa T (pk 44 (nmAt dayL (gp T)).2).2 sd ss hT (pk_sf.trans hsn) K (nI lyn) y0 mo0 d0 s0) ⟨hrd, hg⟩ (cw_V wm_Da_takeCommaForm wl_Da_38 wi_Da_takeCommaForm ws_Da_Da_takeCommaForm hC.2.2.2.2.1 ⟨by decide, by decide⟩) rfl rfl rfl rfl (Nat.le_of_ble_eq_true rfl) ⟨Nat.zero_le _, Nat.zero_le _⟩ (fun r' w1 hp => ?_)
        obtain ⟨rfl, y5, mo5, d5, s5, r5, rfl, hs5, hx5⟩ := hp
        refine Vx.subL (lv' := [(0, .ref h), (4, .int (bI (fC (pk 44 (nmAt dayL (gp T)).2).2).isSome))]) [1, 0] rfl ?_
        have hC9 : dtC lyn wd (nmAt dayL (gp T)).2 = fC (pk 44 (nmAt dayL (gp T)).2).2 := by unfold dtC; rw [if_pos c18]
        exact hJ43 ((fC (pk 44 (nmAt dayL (gp T)).2).2).isSome, r5, y5, mo5, d5, s5) ⟨by rw [hC9], hs5, by rw [hC9]; exact hx5⟩
    · rintro ⟨g5, r5, y5, mo5, d5, s5⟩ ⟨hb5, hs5, hx5⟩
      replace hb5 : g5 = (dtC lyn wd (nmAt dayL (gp T)).2).isSome := hb5
      replace hs5 : r5 <:+ T := hs5
      replace hx5 : ∀ v, dtC lyn wd (nmAt dayL (gp T)).2 = some v → y5 = nI v.1.1 ∧ mo5 = nI v.1.2.1 ∧ d5 = nI v.1.2.2.1 ∧ s5 = nI v.1.2.2.2 ∧ r5 = v.2 := hx5
      refine vx_go hC hFt hini (vx_ends hC hr hlk) jc_Da_timeOf 43 (by decide) rfl ?_
      refine ux_call hC (c_Rd_skipGap l D tys tc hty 3 (by decide) h ra2 sa [.int (nI lyn), .int (y5), .int (mo5), .int (d5), .int (s5)] T r5 sd ss hT hs5) hrd (cw_U wm_Rd_skipGap wl_Da_23 wsm_Da_skipGap wi_Rd_skipGap ws_Da_Da_skipGap rfl hC.2.2.2.2.1 ⟨by decide, by decide⟩) rfl rfl rfl rfl (Nat.le_of_ble_eq_true rfl) ⟨Nat.zero_le _, Nat.zero_le _⟩ (fun r' w1 hp => ?_)
      obtain ⟨rfl, rfl⟩ := hp
      refine And.intro (fun c46 => ?_) (fun c46 => ?_)
      · skip
        have c46 : g5 = false := bI_eq c46
        refine vx_go hC hFt hini (vx_ends hC hr hlk) jc_Da_timeOf 56 (by decide) rfl ?_
        refine And.intro (Or.inr (Or.inl ⟨_, rfl, hC.2.2.2.2.1 _ (List.mem_cons_of_mem _ wc_Da_32)⟩)) ?_
        refine And.intro (trivial) (And.intro ?_ (And.intro (Nat.le_refl _) (Nat.le_refl _)))
        have hd9 : dtO lyn T = (match fin (dtC lyn wd (nmAt dayL (gp T)).2) with
            | none => none
            | some v => if gp v.2 = [] then some v.1 else none) := by
          rw [dtO, show nmO dayL (gp T) = some (wd, (nmAt dayL (gp T)).2) from nmO_s hwd1, ← dtB_C]
          rfl
        have hn : dtC lyn wd (nmAt dayL (gp T)).2 = none := by
          cases h9 : dtC lyn wd (nmAt dayL (gp T)).2 with
          | none => rfl
          | some v => rw [h9] at hb5; rw [hb5] at c46; cases c46
        rw [hd9, hn]
        exact ⟨rfl, ra2, _, _, _, _, _, _, _, _, rfl, hra⟩
      · skip
        have c46 : g5 = true := bI_ne c46
        refine ux_call hC (c_Rd_isEnded l D tys tc hty 3 (by decide) h ra2 sa [.int (nI lyn), .int (y5), .int (mo5), .int (d5), .int (s5)] T (gp r5) sd ss hT (gp_sf.trans hs5)) hrd (cw_U wm_Rd_isEnded wl_Da_56 wsm_Da_isEnded wi_Rd_isEnded ws_Da_Da_isEnded rfl hC.2.2.2.2.1 ⟨by decide, by decide⟩) rfl rfl rfl rfl (Nat.le_of_ble_eq_true rfl) ⟨Nat.zero_le _, Nat.zero_le _⟩ (fun r' w1 hp => ?_)
        obtain ⟨rfl, rfl⟩ := hp
        refine And.intro (fun c49 => ?_) (fun c49 => ?_)
        · skip
          have c49 : (gp r5).isEmpty = false := bI_eq c49
          refine vx_go hC hFt hini (vx_ends hC hr hlk) jc_Da_timeOf 56 (by decide) rfl ?_
          refine And.intro (Or.inr (Or.inl ⟨_, rfl, hC.2.2.2.2.1 _ (List.mem_cons_of_mem _ wc_Da_32)⟩)) ?_
          refine And.intro (trivial) (And.intro ?_ (And.intro (Nat.le_refl _) (Nat.le_refl _)))
          have hd9 : dtO lyn T = (match fin (dtC lyn wd (nmAt dayL (gp T)).2) with
              | none => none
              | some v => if gp v.2 = [] then some v.1 else none) := by
            rw [dtO, show nmO dayL (gp T) = some (wd, (nmAt dayL (gp T)).2) from nmO_s hwd1, ← dtB_C]
            rfl
          obtain ⟨v9, hv9⟩ : ∃ v9, dtC lyn wd (nmAt dayL (gp T)).2 = some v9 := by
            cases h9 : dtC lyn wd (nmAt dayL (gp T)).2 with
            | none => rw [h9] at hb5; rw [hb5] at c46; cases c46
            | some v => exact ⟨v, rfl⟩
          have e5 := (hx5 v9 hv9).2.2.2.2
          have hne : ¬ gp v9.2 = [] := fun z => by rw [e5, z] at c49; cases c49
          have hz : dtO lyn T = none := by
            rw [hd9, hv9]
            show (match (cal v9.1.1 v9.1.2.1 v9.1.2.2.1 v9.1.2.2.2).map (fun t => (t, v9.2)) with
              | none => none
              | some v => if gp v.2 = [] then some v.1 else none) = _
            cases cal v9.1.1 v9.1.2.1 v9.1.2.2.1 v9.1.2.2.2 with
            | none => rfl
            | some t => exact if_neg hne
          rw [hz]
          exact ⟨rfl, ra2, _, _, _, _, _, _, _, _, rfl, hra⟩
        · skip
          have c49 : (gp r5).isEmpty = true := bI_ne c49
          obtain ⟨v9, hv9⟩ : ∃ v9, dtC lyn wd (nmAt dayL (gp T)).2 = some v9 := by
            cases h9 : dtC lyn wd (nmAt dayL (gp T)).2 with
            | none => rw [h9] at hb5; rw [hb5] at c46; cases c46
            | some v => exact ⟨v, rfl⟩
          have hb9 := cal_b hly hv9
          obtain ⟨rfl, rfl, rfl, rfl, rfl⟩ := hx5 v9 hv9
          have c49 : gp v9.2 = [] := by
            cases h9 : gp v9.2 with
            | nil => rfl
            | cons a b => rw [h9] at c49; cases c49
          refine ox_call hC (c_Da_isInCalendar l D tys tc hty h ra2 sa T (gp v9.2) sd ss hT (gp_sf.trans hs5) K (nI lyn) v9.1.1 v9.1.2.1 v9.1.2.2.1 v9.1.2.2.2 hb9.1 hb9.2.1 hb9.2.2.1 hb9.2.2.2) ⟨hrd, hg⟩ (cw_V wm_Da_isInCalendar wl_Da_59 wi_Da_isInCalendar ws_Da_Da_isInCalendar hC.2.2.2.2.1 ⟨by decide, by decide⟩) rfl rfl rfl rfl (Nat.le_of_ble_eq_true rfl) ⟨Nat.zero_le _, Nat.zero_le _⟩ (fun r' w1 hp => ?_)
          obtain ⟨rfl, rfl⟩ := hp
          refine And.intro (fun c52 => ?_) (fun c52 => ?_)
          · skip
            have c52 : ¬ (1970 ≤ v9.1.1 ∧ v9.1.1 ≤ 2099 ∧ 1 ≤ v9.1.2.2.1 ∧ v9.1.2.2.1 ≤ dys v9.1.2.1 v9.1.1) := of_decide_eq_false (bI_eq c52)
            refine vx_go hC hFt hini (vx_ends hC hr hlk) jc_Da_timeOf 56 (by decide) rfl ?_
            refine And.intro (Or.inr (Or.inl ⟨_, rfl, hC.2.2.2.2.1 _ (List.mem_cons_of_mem _ wc_Da_32)⟩)) ?_
            refine And.intro (trivial) (And.intro ?_ (And.intro (Nat.le_refl _) (Nat.le_refl _)))
            have hd9 : dtO lyn T = (match fin (dtC lyn wd (nmAt dayL (gp T)).2) with
                | none => none
                | some v => if gp v.2 = [] then some v.1 else none) := by
              rw [dtO, show nmO dayL (gp T) = some (wd, (nmAt dayL (gp T)).2) from nmO_s hwd1, ← dtB_C]
              rfl
            have hz : dtO lyn T = none := by
              rw [hd9, hv9]
              show (match (cal v9.1.1 v9.1.2.1 v9.1.2.2.1 v9.1.2.2.2).map (fun t => (t, v9.2)) with
                | none => none
                | some v => if gp v.2 = [] then some v.1 else none) = _
              rw [show cal v9.1.1 v9.1.2.1 v9.1.2.2.1 v9.1.2.2.2 = none from if_neg c52]
              rfl
            rw [hz]
            exact ⟨rfl, ra2, _, _, _, _, _, _, _, _, rfl, hra⟩
          · skip
            have c52 : (1970 ≤ v9.1.1 ∧ v9.1.1 ≤ 2099 ∧ 1 ≤ v9.1.2.2.1 ∧ v9.1.2.2.1 ≤ dys v9.1.2.1 v9.1.1) := of_decide_eq_true (bI_ne c52)
            refine ox_call hC (c_Da_time l D tys tc hty h ra2 sa T (gp v9.2) sd ss hT (gp_sf.trans hs5) K (nI lyn) v9.1.1 v9.1.2.1 v9.1.2.2.1 v9.1.2.2.2 hb9.1 hb9.2.1 hb9.2.2.1 hb9.2.2.2 c52) ⟨hrd, hg⟩ (cw_V wm_Da_time wl_Da_62 wi_Da_time ws_Da_Da_time hC.2.2.2.2.1 ⟨by decide, by decide⟩) rfl rfl rfl rfl (Nat.le_of_ble_eq_true rfl) ⟨Nat.zero_le _, Nat.zero_le _⟩ (fun r' w1 hp => ?_)
            obtain ⟨rfl, rfl⟩ := hp
            refine vx_go hC hFt hini (vx_ends hC hr hlk) jc_Da_timeOf 57 (by decide) rfl ?_
            refine And.intro (trivial) (And.intro ?_ (And.intro (Nat.le_refl _) (Nat.le_refl _)))
            have hd9 : dtO lyn T = (match fin (dtC lyn wd (nmAt dayL (gp T)).2) with
                | none => none
                | some v => if gp v.2 = [] then some v.1 else none) := by
              rw [dtO, show nmO dayL (gp T) = some (wd, (nmAt dayL (gp T)).2) from nmO_s hwd1, ← dtB_C]
              rfl
            have hz : dtO lyn T = some (86400 * (dbf v9.1.1 + (v9.1.2.2.1 - 1) + mdb v9.1.1 v9.1.2.1) + v9.1.2.2.2) := by
              rw [hd9, hv9]
              show (match (cal v9.1.1 v9.1.2.1 v9.1.2.2.1 v9.1.2.2.2).map (fun t => (t, v9.2)) with
                | none => none
                | some v => if gp v.2 = [] then some v.1 else none) = _
              rw [show cal v9.1.1 v9.1.2.1 v9.1.2.2.1 v9.1.2.2.2 = some (86400 * (dbf v9.1.1 + (v9.1.2.2.1 - 1) + mdb v9.1.1 v9.1.2.1) + v9.1.2.2.2) from if_pos c52]
              exact if_pos c49
            rw [hz]
            exact ⟨rfl, ra2, _, _, _, _, _, _, _, _, rfl, hra⟩
  · skip
    have c12 : (nmAt dayL (gp T)).1 = none := (iI_m1 (nm_l (by decide))).mp c12
    refine And.intro (Or.inr (Or.inl ⟨_, rfl, hC.2.2.2.2.1 _ (List.mem_cons_of_mem _ wc_Da_32)⟩)) ?_
    refine And.intro (trivial) (And.intro ?_ (And.intro (Nat.le_refl _) (Nat.le_refl _)))
    rw [show dtO lyn T = none by rw [dtO, show nmO dayL (gp T) = none from nmO_n c12]]
    exact ⟨rfl, ra2, _, _, _, _, _, _, _, _, rfl, hra⟩
