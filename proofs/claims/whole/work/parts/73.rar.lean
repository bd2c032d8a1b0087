/-! THE CLASS: Ranges, its field, by program (wip/whole/gen/p73.py) -/
theorem maxA {n : Nat} {ob : Option Nat} (hn : n ≤ 100000) (ho : ∀ v, ob = some v → v ≤ 999999999) : (if (0 : Int32) < nI n - iI ob then nI n - iI ob else 0) = nI (rsA n (none, ob)) := by
  cases ob with
  | none =>
    have e : nI n - iI none = nI (n + 1) := by
      show nI n - (-1) = nI (n + 1)
      rw [← nI_1, Int32.sub_neg]
    rw [e, if_pos (show (0 : Int32) < nI (n + 1) from (nI_ltI (a := 0) (by omega) (by omega)).mpr (by omega))]; rfl
  | some q =>
    have hq := ho q rfl
    show (if (0 : Int32) < nI n - nI q then nI n - nI q else 0) = nI (n - q)
    by_cases e : q < n
    · rw [pk_sub (by omega), if_pos (show (0 : Int32) < nI (n - q) from (nI_ltI (a := 0) (by omega) (by omega)).mpr (by omega))]
    · rw [show n - q = 0 by omega, if_neg]
      · rfl
      · intro z
        have h1 := Int32.lt_iff_toInt_lt.mp z
        rw [pk_sub_toInt (by omega) (by omega), Int32.toInt_zero] at h1
        omega
theorem minB {n a q : Nat} (hn : n ≤ 100000) (hq : q ≤ 999999999) : (if nI n - 1 < nI q then nI n - 1 else nI q) = iI (rsB n (some a, some q)) := by
  rw [n_1 (by omega)]
  unfold rsB
  by_cases e : n = 0
  · rw [if_pos e, if_pos e, if_pos (show iI none < nI q from Int32.lt_of_lt_of_le (by decide) (nI_ge0 (by omega)))]
  · rw [if_neg e, if_neg e]
    show (if nI (n - 1) < nI q then nI (n - 1) else nI q) = nI (if q < n - 1 then q else n - 1)
    by_cases e2 : n - 1 < q
    · rw [if_pos ((nI_ltI (by omega) (by omega)).mpr e2), if_neg (by omega)]
    · rw [if_neg (fun z => e2 ((nI_ltI (by omega) (by omega)).mp z))]
      by_cases e3 : q < n - 1
      · rw [if_pos e3]
      · rw [if_neg e3, show q = n - 1 by omega]
section
variable {p : Program} {l : Launch} {e : Env} {R : Room} {s : State} {m : MethodId} {args : Array Value} {below : List Frame} {meth : Method} {c : Code} {cc : ByteArray} {nL : Nat} {D : va_G} {tys : List (ClassId × FieldType)} {A : Nat → Prop} {tc : Nat → ClassId} {Q : State → Prop} {st rest : List Value} {k n : Nat} {post : Option Value → va_W → Prop} {F : (Nat → Prop) → State → Heap → Prop} {ret : Option FieldType} {K : List Value → va_W → Nat → Nat → Prop} {y y0 : MethodName} {bytes b0 : ByteArray} {maxL n0 index nA fr lo : Nat} {r0 : Option FieldType} {b : Nat} {As : List Value} {own C : String}
theorem ox_call4 {ci h : Nat} {fs : List Value} {q1 q2 q3 : Nat × va_E} {rc : vw_C} (hC : Cx p s m args c cc nL own (yw y0 b0 n0 r0) D cls tys A tc) (hk : Kt l y (yw y bytes maxL ret) fr lo 0 0 D cls tys F (.ref h :: As) [(h, .inr (ci, fs)), q1, q2, q3] post) (hF : F A s s.heap) (cw : CallW R s args own C index y bytes maxL ret (yw y bytes maxL ret) { frames := fr, cells := 0, slots := 0, locals := lo } 0 0 nA) (h1 : cls[ci]? = some rc) (h2 : rc.1 = C) (hlen : As.length = nA) (hst : st = As.reverse ++ .ref h :: rest) (hW : (rest.map fun v => v.category).sum ≤ 8) (hkn : k ≤ R.cells ∧ n ≤ R.slots)
    (kk : ∀ (r : Option Value) (w1 : va_W), post r w1 → K (r.toList ++ rest) w1 k n) : vx_SX cc (Vx p l e R s m args below meth c nL D cls A Q) (.invokevirtual index) 3 st [(h, .inr (ci, fs)), q1, q2, q3] k n K :=
  sx_callV (wr := []) hC hk cw [0, 1, 2, 3] [] rfl rfl rfl rfl (by simp) (q0 := 0) rfl h1 h2 (vx_ro hk.1 hC.2.2.2.2.2.2.1 hF [0, 1, 2, 3] rfl) hlen hst hW hkn kk
end
set_option maxRecDepth 100000 in
set_option maxHeartbeats 4000000 in
theorem c_Ra_readSpec (l : Launch) (D : va_G) (tys : List (ClassId × FieldType)) (tc : Nat → ClassId) (hty : ∀ i : Nat, i < 4 → tys[i]? = some (tc i, vx_ty i)) (h ra sa fa la : Nat) (T rs : List Nat) (sd : Nat → Int32) (ss : Nat) (hT : isT T) (hs : rs <:+ T) (K : Nat → Nat) (sp : Int32) (kp : List (Nat × Nat)) (f1 f2 : Nat → Int32) (hkp : kpA f1 f2 kp) (sz : Nat) (hsz : sz ≤ 100000) : Kt l y_Ra_readSpec (yw y_Ra_readSpec b_Ra_readSpec 4 (some .boolean)) 2 42 0 0 D cls tys (fun A U H => rdF ra T A U H ∧ gF K A U H) [.ref h, .int (nI sz)] (raW tc h ra sa fa la T rs sd ss (sp) (nI kp.length) f1 f2) (fun r w => r = some (.int (bI (spc rs).isSome)) ∧ ∃ rs2 kp2 g1 g2, w = (raW tc h ra sa fa la T rs2 sd ss (sp) (nI kp2.length) g1 g2) ∧ rs2 <:+ T ∧ kpA g1 g2 kp2 ∧ ∀ u, spc rs = some u → rs2 = u.2 ∧ kp2 = keepL kp (rsv sz u.1)) := by
  refine Kt.of (ro_and (rdF_ro ra T) (gF_ro K)) (by decide) rfl hty (Nat.le_of_ble_eq_true rfl) ?_
  intro p e s m args below meth c0 A hC hr hlk hnm hF
  have hFt : vx_Ft y_Ra_readSpec.cls (yw y_Ra_readSpec b_Ra_readSpec 4 (some .boolean)) cls cty ft_Ra := ft_of (fun w h => List.mem_cons_of_mem _ h) fl_Ra_in ft_Ra_b
  have hini : false = true → meth.name = "<init>" := fun h => by cases h
  obtain ⟨hrd, hg⟩ := hF
  have hTl := hT.1
  have hk4 := hkp.1
  obtain ⟨oa, hoa⟩ : ∃ oa, nmv (rs.takeWhile isDg) = oa := ⟨_, rfl⟩
  obtain ⟨ob, hob⟩ : ∃ ob, nmv ((pk 45 (rs.dropWhile isDg)).2.takeWhile isDg) = ob := ⟨_, rfl⟩
  have hoal : ∀ v, oa = some v → v ≤ 999999999 := fun v hv => nmv_le (hoa.trans hv)
  have hobl : ∀ v, ob = some v → v ≤ 999999999 := fun v hv => nmv_le (hob.trans hv)
  have hsp : spc rs = if (pk 45 (rs.dropWhile isDg)).1 = true then (if spOk oa ob = true then some ((oa, ob), ((pk 45 (rs.dropWhile isDg)).2.dropWhile isDg)) else none) else none := by rw [spc, hoa, hob]
  have hAB := rsv_AB (u := (oa, ob)) hsz (rsA_lt hsz hoal)
  have hvb : ∀ v, rsv sz (oa, ob) = some v → v.1 < 2 ^ 31 := fun v hv => by have := rsv_ok hv; omega
  have hvv : ∀ v, rsv sz (oa, ob) = some v → nI (rsA sz (oa, ob)) = nI v.1 ∧ iI (rsB sz (oa, ob)) = nI v.2 ∧ nI (rsA sz (oa, ob)) ≤ iI (rsB sz (oa, ob)) ∧ v.2 < 100000 := fun v hv => ⟨(hAB.2 v hv).1, (hAB.2 v hv).2.1, (hAB.2 v hv).2.2, by have := rsv_ok hv; omega⟩
  refine vx_go hC hFt hini (vx_ends hC hr hlk) jc_Ra_readSpec 0 (by decide) rfl ?_
  refine ux_callN hC (c_Rd_takeNumber l D tys tc hty 4 (by decide) h ra sa [.ref fa, .ref la, .int (sp), .int (nI kp.length)] T rs sd ss hT (hs)) hrd (cw_U wm_Rd_takeNumber wl_Ra_53 wsm_Ra_takeNumber wi_Rd_takeNumber ws_Ra_Ra_takeNumber rfl hC.2.2.2.2.1 ⟨by decide, by decide⟩) rfl rfl [2, 3] rfl rfl (by decide) rfl rfl (Nat.le_of_ble_eq_true rfl) ⟨Nat.zero_le _, Nat.zero_le _⟩ (fun r' w1 hp => ?_)
  obtain ⟨rfl, rfl⟩ := hp
  rw [hoa]
  refine ux_callN hC (c_Rd_take l D tys tc hty 4 (by decide) h ra sa [.ref fa, .ref la, .int sp, .int (nI kp.length)] T (rs.dropWhile isDg) sd ss 45 hT (dw_sfx hs) (by decide)) hrd (cw_U wm_Rd_take wl_Ra_38 wsm_Ra_take wi_Rd_take ws_Ra_Ra_take rfl hC.2.2.2.2.1 ⟨by decide, by decide⟩) rfl rfl [2, 3] rfl rfl (by decide) rfl rfl (Nat.le_of_ble_eq_true rfl) ⟨Nat.zero_le _, Nat.zero_le _⟩ (fun r' w1 hp => ?_)
  obtain ⟨rfl, rfl⟩ := hp
  refine And.intro (fun c6 => ?_) (fun c6 => ?_)
  · skip
    have c6 : (pk 45 (rs.dropWhile isDg)).1 = true := bI_ne c6
    refine vx_go hC hFt hini (vx_ends hC hr hlk) jc_Ra_readSpec 9 (by decide) rfl ?_
    refine ux_callN hC (c_Rd_takeNumber l D tys tc hty 4 (by decide) h ra sa [.ref fa, .ref la, .int (sp), .int (nI kp.length)] T (pk 45 (rs.dropWhile isDg)).2 sd ss hT (pk_sf.trans (dw_sfx hs))) hrd (cw_U wm_Rd_takeNumber wl_Ra_53 wsm_Ra_takeNumber wi_Rd_takeNumber ws_Ra_Ra_takeNumber rfl hC.2.2.2.2.1 ⟨by decide, by decide⟩) rfl rfl [2, 3] rfl rfl (by decide) rfl rfl (Nat.le_of_ble_eq_true rfl) ⟨Nat.zero_le _, Nat.zero_le _⟩ (fun r' w1 hp => ?_)
    obtain ⟨rfl, rfl⟩ := hp
    rw [hob]
    refine And.intro (fun c14 => ?_) (fun c14 => ?_)
    · skip
      have c14 : ∃ z, oa = some z := by
        cases h9 : oa with
        | none => rw [h9] at c14; exact absurd rfl c14
        | some z => exact ⟨z, rfl⟩
      refine vx_go hC hFt hini (vx_ends hC hr hlk) jc_Ra_readSpec 32 (by decide) rfl ?_
      refine And.intro (fun c36 => ?_) (fun c36 => ?_)
      · skip
        have c36 : ∃ z, ob = some z := by
          cases h9 : ob with
          | none => rw [h9] at c36; exact absurd rfl c36
          | some z => exact ⟨z, rfl⟩
        refine vx_go hC hFt hini (vx_ends hC hr hlk) jc_Ra_readSpec 41 (by decide) rfl ?_
        refine sx_mmin hC (gw_i 1028 (by decide +kernel) (by decide +kernel)) (by decide) (Nat.le_of_ble_eq_true rfl) ⟨Nat.zero_le _, Nat.zero_le _⟩ ?_
        refine ox_call4 hC (c_Ra_keep l D tys tc hty h ra sa fa la T ((pk 45 (rs.dropWhile isDg)).2.dropWhile isDg) sd ss hT (dw_sfx (pk_sf.trans (dw_sfx hs))) K sp kp f1 f2 hkp (nI (rsA sz (oa, ob))) (iI (rsB sz (oa, ob))) (rsv sz (oa, ob)) hvb ⟨hAB.1, hvv⟩) ⟨hrd, hg⟩ (cw_V wm_Ra_keep wl_Ra_63 wi_Ra_keep ws_Ra_Ra_keep hC.2.2.2.2.1 ⟨by decide, by decide⟩) rfl rfl rfl (show [Value.int (if nI sz - nI 1 < iI ob then nI sz - nI 1 else iI ob), Value.int (iI oa), Value.ref h] = [Value.int (iI (rsB sz (oa, ob))), Value.int (nI (rsA sz (oa, ob))), Value.ref h] by obtain ⟨z, hz⟩ := c14; obtain ⟨y, hy⟩ := c36; rw [hz, hy, ← minB hsz (hobl y hy)]; rfl) (Nat.le_of_ble_eq_true rfl) ⟨Nat.zero_le _, Nat.zero_le _⟩ (fun r' w1 hp => ?_)
        obtain ⟨rfl, g1, g2, rfl, hkp2⟩ := hp
        refine And.intro (fun c49 => ?_) (fun c49 => ?_)
        · skip
          have c49 : ob = none := (iI_m1 (fun a ha => by have := hobl a ha; omega)).mp c49
          refine vx_go hC hFt hini (vx_ends hC hr hlk) jc_Ra_readSpec 53 (by decide) rfl ?_
          refine vx_go hC hFt hini (vx_ends hC hr hlk) jc_Ra_readSpec 56 (by decide) rfl ?_
          refine And.intro (rfl) (And.intro ?_ (And.intro (Nat.le_refl _) (Nat.le_refl _)))
          have hyes : spOk oa ob = true := by obtain ⟨z, hz⟩ := c14; rw [c49, hz]; rfl
          rw [show spc rs = some ((oa, ob), ((pk 45 (rs.dropWhile isDg)).2.dropWhile isDg)) by rw [hsp, if_pos c6, if_pos hyes]]
          exact ⟨rfl, ((pk 45 (rs.dropWhile isDg)).2.dropWhile isDg), _, g1, g2, rfl, dw_sfx (pk_sf.trans (dw_sfx hs)), hkp2, (fun u hu => by obtain rfl := Option.some.inj hu; exact ⟨rfl, rfl⟩)⟩
        · skip
          have c49 : ∃ z, ob = some z := by
            cases h9 : ob with
            | none => rw [h9] at c49; exact absurd rfl c49
            | some z => exact ⟨z, rfl⟩
          refine And.intro (fun c52 => ?_) (fun c52 => ?_)
          · skip
            refine vx_go hC hFt hini (vx_ends hC hr hlk) jc_Ra_readSpec 55 (by decide) rfl ?_
            refine And.intro (rfl) (And.intro ?_ (And.intro (Nat.le_refl _) (Nat.le_refl _)))
            have hno : spOk oa ob = false := by
              obtain ⟨z, hz⟩ := c14
              obtain ⟨y, hy⟩ := c49
              have h1 := hoal z hz
              have h2 := hobl y hy
              rw [hz, hy] at c52 ⊢
              exact decide_eq_false (Nat.not_le.mpr ((nI_ltI (a := y) (b := z) (by omega) (by omega)).mp c52))
            rw [show spc rs = none by rw [hsp, if_pos c6, if_neg (by rw [hno]; exact fun z => by cases z)]]
            exact ⟨rfl, ((pk 45 (rs.dropWhile isDg)).2.dropWhile isDg), _, g1, g2, rfl, dw_sfx (pk_sf.trans (dw_sfx hs)), hkp2, (fun u hu => by cases hu)⟩
          · skip
            refine vx_go hC hFt hini (vx_ends hC hr hlk) jc_Ra_readSpec 56 (by decide) rfl ?_
            refine And.intro (rfl) (And.intro ?_ (And.intro (Nat.le_refl _) (Nat.le_refl _)))
            have hyes : spOk oa ob = true := by
              obtain ⟨z, hz⟩ := c14
              obtain ⟨y, hy⟩ := c49
              have h1 := hoal z hz
              have h2 := hobl y hy
              rw [hz, hy] at c52 ⊢
              exact decide_eq_true (Nat.le_of_not_lt (fun x9 => c52 ((nI_ltI (a := y) (b := z) (by omega) (by omega)).mpr x9)))
            rw [show spc rs = some ((oa, ob), ((pk 45 (rs.dropWhile isDg)).2.dropWhile isDg)) by rw [hsp, if_pos c6, if_pos hyes]]
            exact ⟨rfl, ((pk 45 (rs.dropWhile isDg)).2.dropWhile isDg), _, g1, g2, rfl, dw_sfx (pk_sf.trans (dw_sfx hs)), hkp2, (fun u hu => by obtain rfl := Option.some.inj hu; exact ⟨rfl, rfl⟩)⟩
      · skip
        have c36 : ob = none := (iI_m1 (fun a ha => by have := hobl a ha; omega)).mp c36
        refine vx_go hC hFt hini (vx_ends hC hr hlk) jc_Ra_readSpec 46 (by decide) rfl ?_
        refine ox_call4 hC (c_Ra_keep l D tys tc hty h ra sa fa la T ((pk 45 (rs.dropWhile isDg)).2.dropWhile isDg) sd ss hT (dw_sfx (pk_sf.trans (dw_sfx hs))) K sp kp f1 f2 hkp (nI (rsA sz (oa, ob))) (iI (rsB sz (oa, ob))) (rsv sz (oa, ob)) hvb ⟨hAB.1, hvv⟩) ⟨hrd, hg⟩ (cw_V wm_Ra_keep wl_Ra_63 wi_Ra_keep ws_Ra_Ra_keep hC.2.2.2.2.1 ⟨by decide, by decide⟩) rfl rfl rfl (show [Value.int (nI sz - nI 1), Value.int (iI oa), Value.ref h] = [Value.int (iI (rsB sz (oa, ob))), Value.int (nI (rsA sz (oa, ob))), Value.ref h] by obtain ⟨z, hz⟩ := c14; rw [hz, c36, show nI sz - nI 1 = iI (rsB sz (some z, none)) from n_1 (by omega)]; rfl) (Nat.le_of_ble_eq_true rfl) ⟨Nat.zero_le _, Nat.zero_le _⟩ (fun r' w1 hp => ?_)
        obtain ⟨rfl, g1, g2, rfl, hkp2⟩ := hp
        refine And.intro (fun c49 => ?_) (fun c49 => ?_)
        · skip
          have c49 : ob = none := (iI_m1 (fun a ha => by have := hobl a ha; omega)).mp c49
          refine vx_go hC hFt hini (vx_ends hC hr hlk) jc_Ra_readSpec 53 (by decide) rfl ?_
          refine vx_go hC hFt hini (vx_ends hC hr hlk) jc_Ra_readSpec 56 (by decide) rfl ?_
          refine And.intro (rfl) (And.intro ?_ (And.intro (Nat.le_refl _) (Nat.le_refl _)))
          have hyes : spOk oa ob = true := by obtain ⟨z, hz⟩ := c14; rw [c49, hz]; rfl
          rw [show spc rs = some ((oa, ob), ((pk 45 (rs.dropWhile isDg)).2.dropWhile isDg)) by rw [hsp, if_pos c6, if_pos hyes]]
          exact ⟨rfl, ((pk 45 (rs.dropWhile isDg)).2.dropWhile isDg), _, g1, g2, rfl, dw_sfx (pk_sf.trans (dw_sfx hs)), hkp2, (fun u hu => by obtain rfl := Option.some.inj hu; exact ⟨rfl, rfl⟩)⟩
        · skip
          have c49 : ∃ z, ob = some z := by
            cases h9 : ob with
            | none => rw [h9] at c49; exact absurd rfl c49
            | some z => exact ⟨z, rfl⟩
          refine And.intro (fun c52 => ?_) (fun c52 => ?_)
          · skip
            refine vx_go hC hFt hini (vx_ends hC hr hlk) jc_Ra_readSpec 55 (by decide) rfl ?_
            refine And.intro (rfl) (And.intro ?_ (And.intro (Nat.le_refl _) (Nat.le_refl _)))
            have hno : spOk oa ob = false := by
              obtain ⟨z, hz⟩ := c14
              obtain ⟨y, hy⟩ := c49
              have h1 := hoal z hz
              have h2 := hobl y hy
              rw [hz, hy] at c52 ⊢
              exact decide_eq_false (Nat.not_le.mpr ((nI_ltI (a := y) (b := z) (by omega) (by omega)).mp c52))
            rw [show spc rs = none by rw [hsp, if_pos c6, if_neg (by rw [hno]; exact fun z => by cases z)]]
            exact ⟨rfl, ((pk 45 (rs.dropWhile isDg)).2.dropWhile isDg), _, g1, g2, rfl, dw_sfx (pk_sf.trans (dw_sfx hs)), hkp2, (fun u hu => by cases hu)⟩
          · skip
            refine vx_go hC hFt hini (vx_ends hC hr hlk) jc_Ra_readSpec 56 (by decide) rfl ?_
            refine And.intro (rfl) (And.intro ?_ (And.intro (Nat.le_refl _) (Nat.le_refl _)))
            have hyes : spOk oa ob = true := by
              obtain ⟨z, hz⟩ := c14
              obtain ⟨y, hy⟩ := c49
              have h1 := hoal z hz
              have h2 := hobl y hy
              rw [hz, hy] at c52 ⊢
              exact decide_eq_true (Nat.le_of_not_lt (fun x9 => c52 ((nI_ltI (a := y) (b := z) (by omega) (by omega)).mpr x9)))
            rw [show spc rs = some ((oa, ob), ((pk 45 (rs.dropWhile isDg)).2.dropWhile isDg)) by rw [hsp, if_pos c6, if_pos hyes]]
            exact ⟨rfl, ((pk 45 (rs.dropWhile isDg)).2.dropWhile isDg), _, g1, g2, rfl, dw_sfx (pk_sf.trans (dw_sfx hs)), hkp2, (fun u hu => by obtain rfl := Option.some.inj hu; exact ⟨rfl, rfl⟩)⟩
    · skip
      have c14 : oa = none := (iI_m1 (fun a ha => by have := hoal a ha; omega)).mp c14
      refine sx_mmax hC (gw_i 1023 (by decide +kernel) (by decide +kernel)) (by decide) (Nat.le_of_ble_eq_true rfl) ⟨Nat.zero_le _, Nat.zero_le _⟩ ?_
      refine ox_call4 hC (c_Ra_keep l D tys tc hty h ra sa fa la T ((pk 45 (rs.dropWhile isDg)).2.dropWhile isDg) sd ss hT (dw_sfx (pk_sf.trans (dw_sfx hs))) K sp kp f1 f2 hkp (nI (rsA sz (oa, ob))) (iI (rsB sz (oa, ob))) (rsv sz (oa, ob)) hvb ⟨hAB.1, hvv⟩) ⟨hrd, hg⟩ (cw_V wm_Ra_keep wl_Ra_63 wi_Ra_keep ws_Ra_Ra_keep hC.2.2.2.2.1 ⟨by decide, by decide⟩) rfl rfl rfl (show [Value.int (nI sz - nI 1), Value.int (if (0 : Int32) < nI sz - iI ob then nI sz - iI ob else 0), Value.ref h] = [Value.int (iI (rsB sz (oa, ob))), Value.int (nI (rsA sz (oa, ob))), Value.ref h] by rw [maxA hsz hobl, c14, show nI sz - nI 1 = iI (rsB sz (none, ob)) from n_1 (by omega)]) (Nat.le_of_ble_eq_true rfl) ⟨Nat.zero_le _, Nat.zero_le _⟩ (fun r' w1 hp => ?_)
      obtain ⟨rfl, g1, g2, rfl, hkp2⟩ := hp
      refine And.intro (fun c27 => ?_) (fun c27 => ?_)
      · skip
        have c27 : ob = none := (iI_m1 (fun a ha => by have := hobl a ha; omega)).mp c27
        refine vx_go hC hFt hini (vx_ends hC hr hlk) jc_Ra_readSpec 30 (by decide) rfl ?_
        refine And.intro (rfl) (And.intro ?_ (And.intro (Nat.le_refl _) (Nat.le_refl _)))
        have hno : spOk oa ob = false := by rw [c14, c27]; rfl
        rw [show spc rs = none by rw [hsp, if_pos c6, if_neg (by rw [hno]; exact fun z => by cases z)]]
        exact ⟨rfl, ((pk 45 (rs.dropWhile isDg)).2.dropWhile isDg), _, g1, g2, rfl, dw_sfx (pk_sf.trans (dw_sfx hs)), hkp2, (fun u hu => by cases hu)⟩
      · skip
        have c27 : ∃ z, ob = some z := by
          cases h9 : ob with
          | none => rw [h9] at c27; exact absurd rfl c27
          | some z => exact ⟨z, rfl⟩
        refine vx_go hC hFt hini (vx_ends hC hr hlk) jc_Ra_readSpec 31 (by decide) rfl ?_
        refine And.intro (rfl) (And.intro ?_ (And.intro (Nat.le_refl _) (Nat.le_refl _)))
        have hyes : spOk oa ob = true := by obtain ⟨z, hz⟩ := c27; rw [c14, hz]; rfl
        rw [show spc rs = some ((oa, ob), ((pk 45 (rs.dropWhile isDg)).2.dropWhile isDg)) by rw [hsp, if_pos c6, if_pos hyes]]
        exact ⟨rfl, ((pk 45 (rs.dropWhile isDg)).2.dropWhile isDg), _, g1, g2, rfl, dw_sfx (pk_sf.trans (dw_sfx hs)), hkp2, (fun u hu => by obtain rfl := Option.some.inj hu; exact ⟨rfl, rfl⟩)⟩
  · skip
    have c6 : (pk 45 (rs.dropWhile isDg)).1 = false := bI_eq c6
    refine And.intro (rfl) (And.intro ?_ (And.intro (Nat.le_refl _) (Nat.le_refl _)))
    rw [show spc rs = none by rw [hsp, if_neg (by rw [c6]; exact fun z => by cases z)]]
    exact ⟨rfl, (pk 45 (rs.dropWhile isDg)).2, kp, f1, f2, rfl, pk_sf.trans (dw_sfx hs), hkp, (fun u hu => by cases hu)⟩
set_option maxRecDepth 100000 in
set_option maxHeartbeats 4000000 in
theorem c_Ra_read (l : Launch) (D : va_G) (tys : List (ClassId × FieldType)) (tc : Nat → ClassId) (hty : ∀ i : Nat, i < 4 → tys[i]? = some (tc i, vx_ty i)) (h ra sa fa la : Nat) (z1 z2 : Int32) (sd : Nat → Int32) (ss : Nat) (q : Nat) (ro : Nat → Nat) (tx : Nat → List Nat) (hx : ∀ G, G < 8 → isT (tx G)) (K : Nat → Nat) (s0 k0 : Int32) (f1 f2 : Nat → Int32) (sz : Nat) (hsz : sz ≤ 100000) : Kt l y_Ra_read (yw y_Ra_read b_Ra_read 3 (some .boolean)) 5 107 0 0 D cls tys (fun A U H => rqF q ro tx A U H ∧ rdF ra [] A U H ∧ gF K A U H) [.ref h, .ref q, .int (nI sz)] [(h, .inr (4, [.ref ra, .int z1, .int z2, .ref sa, .int (nI ss), .ref fa, .ref la, .int s0, .int k0])), (sa, .inl (tc 0, 96, .inl sd)), (fa, .inl (tc 0, 4, .inl f1)), (la, .inl (tc 0, 4, .inl f2))] (fun r w => r = some (.int (bI (rngL (tx 7)).isSome)) ∧ ∃ ra2 y1 y2 ss2 sd2 sp2 kp2 g1 g2, w = [(h, .inr (4, [.ref ra2, .int y1, .int y2, .ref sa, .int (nI ss2), .ref fa, .ref la, .int sp2, .int (nI kp2.length)])), (sa, .inl (tc 0, 96, .inl sd2)), (fa, .inl (tc 0, 4, .inl g1)), (la, .inl (tc 0, 4, .inl g2))] ∧ (ra2 = ra ∨ ra2 = ro 7) ∧ kpA g1 g2 kp2 ∧ ∀ L, (rngL (tx 7)) = some L → sp2 = nI L.length ∧ L.length ≤ 96 ∧ kp2 = (L.filterMap (rsv sz)).take 4) := by
  refine Kt.of (ro_and (rqF_ro q ro tx) (ro_and (rdF_ro ra []) (gF_ro K))) (by decide) rfl hty (Nat.le_of_ble_eq_true rfl) ?_
  intro p e s m args below meth c0 A hC hr hlk hnm hF
  have hFt : vx_Ft y_Ra_read.cls (yw y_Ra_read b_Ra_read 3 (some .boolean)) cls cty ft_Ra := ft_of (fun w h => List.mem_cons_of_mem _ h) fl_Ra_in ft_Ra_b
  have hini : false = true → meth.name = "<init>" := fun h => by cases h
  obtain ⟨hrq, hold, hg⟩ := hF
  refine vx_gon hC hFt hini (vx_ends hC hr hlk) jc_Ra_read 0 22 (by decide) rfl ?_
  refine ux_callN hC (c_Rd_open l D tys tc hty 4 (by decide) h ra sa [.ref fa, .ref la, .int s0, .int k0] z1 z2 sd ss q ro tx 7 (by decide) (hx 7 (by decide)).1) hrq (cw_U wm_Rd_open wl_Ra_18 wsm_Ra_open wi_Rd_open ws_Ra_Ra_open rfl hC.2.2.2.2.1 ⟨by decide, by decide⟩) rfl rfl [2, 3] rfl rfl (by decide) rfl rfl (Nat.le_of_ble_eq_true rfl) ⟨Nat.zero_le _, Nat.zero_le _⟩ (fun r' w1 hp => ?_)
  obtain ⟨rfl, rfl⟩ := hp
  obtain ⟨ra2, hra2⟩ : ∃ ra2, (if 0 < (tx 7).length then ro 7 else ra) = ra2 := ⟨_, rfl⟩
  rw [hra2]
  have hra : ra2 = ra ∨ ra2 = ro 7 := by rw [← hra2]; split <;> simp
  have hrd : rdF ra2 (tx 7) A s s.heap := by
    rw [← hra2]
    split
    · exact hrq.2.choose_spec.choose_spec.2.2.2.2 7 (by decide)
    · rename_i hz
      rw [show tx 7 = [] from List.eq_nil_of_length_eq_zero (by omega)]; exact hold
  obtain ⟨T, hTe⟩ : ∃ T, tx 7 = T := ⟨_, rfl⟩
  have hT : isT T := by rw [← hTe]; exact hx 7 (by decide)
  rw [hTe] at hrd ⊢
  have hsg : gp T <:+ T := gp_sf
  refine And.intro rfl (And.intro (And.intro rfl rfl) ?_)
  refine And.intro rfl (And.intro (And.intro rfl rfl) ?_)
  refine ux_callN hC (c_Rd_skipGap l D tys tc hty 4 (by decide) h ra2 sa [.ref fa, .ref la, .int 0, .int 0] T T sd ss hT (List.suffix_refl _)) hrd (cw_U wm_Rd_skipGap wl_Ra_29 wsm_Ra_skipGap wi_Rd_skipGap ws_Ra_Ra_skipGap rfl hC.2.2.2.2.1 ⟨by decide, by decide⟩) rfl rfl [2, 3] rfl rfl (by decide) rfl rfl (Nat.le_of_ble_eq_true rfl) ⟨Nat.zero_le _, Nat.zero_le _⟩ (fun r' w1 hp => ?_)
  obtain ⟨rfl, rfl⟩ := hp
  refine ⟨_, Or.inr (Or.inr ⟨_, _, rfl, (hg.1 14 _ rfl).1⟩), ?_⟩
  refine ux_callN hC (c_Rd_takeAlike l D tys tc hty 4 (by decide) h ra2 sa [.ref fa, .ref la, .int 0, .int 0] T (gp T) sd ss hT hsg (K 14) bytL (by exact ⟨by decide, by decide⟩)) ⟨hrd, (hg.1 14 _ rfl).2⟩ (cw_U wm_Rd_takeAlike wl_Ra_34 wsm_Ra_takeAlike wi_Rd_takeAlike ws_Ra_Ra_takeAlike rfl hC.2.2.2.2.1 ⟨by decide, by decide⟩) rfl rfl [2, 3] rfl rfl (by decide) rfl rfl (Nat.le_of_ble_eq_true rfl) ⟨Nat.zero_le _, Nat.zero_le _⟩ (fun r' w1 hp => ?_)
  obtain ⟨rfl, rfl⟩ := hp
  refine And.intro (fun c15 => ?_) (fun c15 => ?_)
  · skip
    have c15 : (ta bytL (gp T)).1 = false := bI_eq c15
    refine vx_gon hC hFt hini (vx_ends hC hr hlk) jc_Ra_read 20 2 (by decide) rfl ?_
    refine And.intro (rfl) (And.intro ?_ (And.intro (Nat.le_refl _) (Nat.le_refl _)))
    rw [show rngL T = none by rw [rngL, if_neg (by rw [c15]; exact fun z => by cases z)]]
    exact ⟨rfl, ra2, _, _, _, _, _, [], f1, f2, rfl, hra, ⟨Nat.zero_le _, fun i hi => by simp at hi⟩, (fun L hL => by cases hL)⟩
  · skip
    have c15 : (ta bytL (gp T)).1 = true := bI_ne c15
    refine ux_callN hC (c_Rd_take l D tys tc hty 4 (by decide) h ra2 sa [.ref fa, .ref la, .int 0, .int 0] T (ta bytL (gp T)).2 sd ss 61 hT (ta_sf.trans hsg) (by decide)) hrd (cw_U wm_Rd_take wl_Ra_38 wsm_Ra_take wi_Rd_take ws_Ra_Ra_take rfl hC.2.2.2.2.1 ⟨by decide, by decide⟩) rfl rfl [2, 3] rfl rfl (by decide) rfl rfl (Nat.le_of_ble_eq_true rfl) ⟨Nat.zero_le _, Nat.zero_le _⟩ (fun r' w1 hp => ?_)
    obtain ⟨rfl, rfl⟩ := hp
    refine And.intro (fun c19 => ?_) (fun c19 => ?_)
    · skip
      have c19 : (pk 61 (ta bytL (gp T)).2).1 = true := bI_ne c19
      refine Vx.subL (lv' := [(0, .ref h), (2, .int (nI sz))]) [0, 2] rfl ?_
      obtain ⟨A4, hA0⟩ : ∃ A4 : List (Option Nat × Option Nat), A4 = [] := ⟨_, rfl⟩
      obtain ⟨kp4, hk0⟩ : ∃ kp4 : List (Nat × Nat), kp4 = [] := ⟨_, rfl⟩
      obtain ⟨g1, hg10⟩ : ∃ g1, g1 = f1 := ⟨_, rfl⟩
      obtain ⟨g2, hg20⟩ : ∃ g2, g2 = f2 := ⟨_, rfl⟩
      obtain ⟨r4, hr0⟩ : ∃ r4 : List Nat, r4 = (pk 61 (ta bytL (gp T)).2).2 := ⟨_, rfl⟩
      obtain ⟨n4, hn0⟩ : ∃ n4 : Nat, n4 = 97 := ⟨_, rfl⟩
      obtain ⟨RES, hRES⟩ : ∃ RES, rgG 97 [] (pk 61 (ta bytL (gp T)).2).2 = RES := ⟨_, rfl⟩
      rw [show rngL T = RES by rw [rngL, if_pos c15, if_pos c19, hRES]]
      refine Vx.eqs rfl rfl rfl (w2 := (raW tc h ra2 sa fa la T r4 sd ss (nI A4.length) (nI kp4.length) g1 g2)) (by rw [hA0, hk0, hg10, hg20, hr0]; rfl) ?_
      have hs4 : r4 <:+ T := by rw [hr0]; exact pk_sf.trans (ta_sf.trans hsg)
      have hres : rgG n4 A4 r4 = RES := by rw [hn0, hA0, hr0]; exact hRES
      have hln : r4.length + A4.length ≤ 96 := by have h1 := hs4.length_le; have := hT.1; rw [hA0, List.length_nil]; omega
      have hnt : n4 + A4.length = 97 := by rw [hA0, hn0]; rfl
      have hkp4 : kpA g1 g2 kp4 := by rw [hk0]; exact ⟨Nat.zero_le _, fun i hi => by simp at hi⟩
      have hkq : kp4 = (A4.filterMap (rsv sz)).take 4 := by rw [hk0, hA0]; rfl
      clear hA0 hk0 hg10 hg20 hr0 hn0 hRES
      induction n4 generalizing A4 kp4 g1 g2 r4 with
      | zero => omega
      | succ n4 ih =>
        refine vx_go hC hFt hini (vx_ends hC hr hlk) jc_Ra_read 22 (by decide) rfl ?_
        refine And.intro rfl ?_
        refine And.intro (fun c25 => ?_) (fun c25 => ?_)
        · skip
          have c25 : 96 ≤ A4.length := (nI_leI (a := 96) (by omega) (by omega)).mp c25
          refine vx_go hC hFt hini (vx_ends hC hr hlk) jc_Ra_read 45 (by decide) rfl ?_
          refine And.intro rfl ?_
          refine And.intro (fun c47 => ?_) (fun c47 => ?_)
          · skip
            have c47 : A4 = [] := List.eq_nil_of_length_eq_zero (Nat.eq_zero_of_not_pos (fun z => absurd c47 (nI_nle z (by omega))))
            refine vx_go hC hFt hini (vx_ends hC hr hlk) jc_Ra_read 50 (by decide) rfl ?_
            refine And.intro (rfl) (And.intro ?_ (And.intro (Nat.le_refl _) (Nat.le_refl _)))
            have hg0 : gc r4 = [] := by rw [show r4 = [] from List.eq_nil_of_length_eq_zero (by omega)]; rfl
            rw [rgG, if_pos hg0, if_pos c47] at hres
            subst hres
            exact ⟨rfl, ra2, _, _, _, _, _, _, g1, g2, rfl, hra, hkp4, (fun L hL => by cases hL)⟩
          · skip
            have c47 : ¬ A4 = [] := fun z => c47 (by rw [z]; exact nI_le (Nat.le_refl 0) (by decide))
            refine vx_go hC hFt hini (vx_ends hC hr hlk) jc_Ra_read 51 (by decide) rfl ?_
            refine And.intro (rfl) (And.intro ?_ (And.intro (Nat.le_refl _) (Nat.le_refl _)))
            have hg0 : gc r4 = [] := by rw [show r4 = [] from List.eq_nil_of_length_eq_zero (by omega)]; rfl
            rw [rgG, if_pos hg0, if_neg c47] at hres
            subst hres
            exact ⟨rfl, ra2, _, _, _, _, _, _, g1, g2, rfl, hra, hkp4, (fun L hL => by obtain rfl := Option.some.inj hL; exact ⟨rfl, by omega, hkq⟩)⟩
        · skip
          have c25 : ¬ 96 ≤ A4.length := fun z => c25 ((nI_leI (a := 96) (by omega) (by omega)).mpr z)
          refine ux_callN hC (c_Rd_findElement l D tys tc hty 4 (by decide) h ra2 sa [.ref fa, .ref la, .int (nI A4.length), .int (nI kp4.length)] T r4 sd ss hT (hs4)) hrd (cw_U wm_Rd_findElement wl_Ra_42 wsm_Ra_findElement wi_Rd_findElement ws_Ra_Ra_findElement rfl hC.2.2.2.2.1 ⟨by decide, by decide⟩) rfl rfl [2, 3] rfl rfl (by decide) rfl rfl (Nat.le_of_ble_eq_true rfl) ⟨Nat.zero_le _, Nat.zero_le _⟩ (fun r' w1 hp => ?_)
          obtain ⟨rfl, rfl⟩ := hp
          refine And.intro (fun c28 => ?_) (fun c28 => ?_)
          · skip
            have c28 : gc r4 = [] := by
              cases h9 : gc r4 with
              | nil => rfl
              | cons a b => rw [h9] at c28; exact absurd c28 (show ¬ bI true = 0 by decide)
            refine vx_go hC hFt hini (vx_ends hC hr hlk) jc_Ra_read 45 (by decide) rfl ?_
            refine And.intro rfl ?_
            refine And.intro (fun c47 => ?_) (fun c47 => ?_)
            · skip
              have c47 : A4 = [] := List.eq_nil_of_length_eq_zero (Nat.eq_zero_of_not_pos (fun z => absurd c47 (nI_nle z (by omega))))
              refine vx_go hC hFt hini (vx_ends hC hr hlk) jc_Ra_read 50 (by decide) rfl ?_
              refine And.intro (rfl) (And.intro ?_ (And.intro (Nat.le_refl _) (Nat.le_refl _)))
              have hg0 := c28
              rw [rgG, if_pos hg0, if_pos c47] at hres
              subst hres
              exact ⟨rfl, ra2, _, _, _, _, _, _, g1, g2, rfl, hra, hkp4, (fun L hL => by cases hL)⟩
            · skip
              have c47 : ¬ A4 = [] := fun z => c47 (by rw [z]; exact nI_le (Nat.le_refl 0) (by decide))
              refine vx_go hC hFt hini (vx_ends hC hr hlk) jc_Ra_read 51 (by decide) rfl ?_
              refine And.intro (rfl) (And.intro ?_ (And.intro (Nat.le_refl _) (Nat.le_refl _)))
              have hg0 := c28
              rw [rgG, if_pos hg0, if_neg c47] at hres
              subst hres
              exact ⟨rfl, ra2, _, _, _, _, _, _, g1, g2, rfl, hra, hkp4, (fun L hL => by obtain rfl := Option.some.inj hL; exact ⟨rfl, by omega, hkq⟩)⟩
          · skip
            have c28 : ¬ gc r4 = [] := fun z => c28 (by rw [z]; rfl)
            have hsgc : gc r4 <:+ T := gc_sf.trans hs4
            refine ox_call4 hC (c_Ra_readSpec l D tys tc hty h ra2 sa fa la T (gc r4) sd ss hT hsgc K (nI A4.length) kp4 g1 g2 hkp4 sz hsz) ⟨hrd, hg⟩ (cw_V wm_Ra_readSpec wl_Ra_46 wi_Ra_readSpec ws_Ra_Ra_readSpec hC.2.2.2.2.1 ⟨by decide, by decide⟩) rfl rfl rfl rfl (Nat.le_of_ble_eq_true rfl) ⟨Nat.zero_le _, Nat.zero_le _⟩ (fun r' w1 hp => ?_)
            obtain ⟨rfl, r5, kp5, g5, g6, rfl, hs5, hkp5, hx5⟩ := hp
            refine And.intro (fun c32 => ?_) (fun c32 => ?_)
            · skip
              have c32 : spc (gc r4) = none := by
                cases h9 : spc (gc r4) with
                | none => rfl
                | some u => rw [h9] at c32; exact absurd c32 (show ¬ bI true = 0 by decide)
              refine vx_go hC hFt hini (vx_ends hC hr hlk) jc_Ra_read 36 (by decide) rfl ?_
              refine And.intro (rfl) (And.intro ?_ (And.intro (Nat.le_refl _) (Nat.le_refl _)))
              rw [rgG, if_neg c28, c32] at hres
              subst hres
              exact ⟨rfl, ra2, _, _, _, _, _, kp5, g5, g6, rfl, hra, hkp5, (fun L hL => by cases hL)⟩
            · skip
              obtain ⟨u, hu⟩ : ∃ u, spc (gc r4) = some u := by
                cases h9 : spc (gc r4) with
                | none => rw [h9] at c32; exact absurd rfl c32
                | some u => exact ⟨u, rfl⟩
              obtain ⟨rfl, rfl⟩ := hx5 u hu
              have hml := spc_len hu
              refine ux_callN hC (c_Rd_endsElement l D tys tc hty 4 (by decide) h ra2 sa [.ref fa, .ref la, .int (nI A4.length), .int (nI (keepL kp4 (rsv sz u.1)).length)] T u.2 sd ss hT (hs5)) hrd (cw_U wm_Rd_endsElement wl_Ra_50 wsm_Ra_endsElement wi_Rd_endsElement ws_Ra_Ra_endsElement rfl hC.2.2.2.2.1 ⟨by decide, by decide⟩) rfl rfl [2, 3] rfl rfl (by decide) rfl rfl (Nat.le_of_ble_eq_true rfl) ⟨Nat.zero_le _, Nat.zero_le _⟩ (fun r' w1 hp => ?_)
              obtain ⟨rfl, rfl⟩ := hp
              refine And.intro (fun c35 => ?_) (fun c35 => ?_)
              · skip
                have c35 : ee (gp u.2) = true := bI_ne c35
                refine vx_go hC hFt hini (vx_ends hC hr hlk) jc_Ra_read 38 (by decide) rfl ?_
                refine And.intro rfl ?_
                refine And.intro rfl ?_
                refine And.intro rfl (And.intro (And.intro rfl rfl) ?_)
                refine Vx.subL (lv' := [(0, .ref h), (2, .int (nI sz))]) [0, 1] rfl ?_
                refine Vx.eqs rfl rfl rfl (w2 := (raW tc h ra2 sa fa la T (gp u.2) sd ss (nI (A4 ++ [u.1]).length) (nI (keepL kp4 (rsv sz u.1)).length) g5 g6)) (by rw [List.length_append, ← nI_add]; rfl) ?_
                have hgl := (gc_sf (rs := r4)).length_le
                have hgl2 := (gp_sf (rs := u.2)).length_le
                exact ih (A4 ++ [u.1]) (keepL kp4 (rsv sz u.1)) g5 g6 (gp u.2) (gp_sf.trans hs5) (by rw [← hres, rgG, if_neg c28, hu]; show _ = (if ee (gp u.2) = true then rgG n4 (A4 ++ [u.1]) (gp u.2) else none); rw [if_pos c35]) (by rw [List.length_append, List.length_singleton]; omega) (by rw [List.length_append, List.length_singleton]; omega) hkp5 (by rw [hkq, keepL_take, List.filterMap_append]; congr 1; congr 1; cases hv : rsv sz u.1 <;> simp [hv])
              · skip
                have c35 : ee (gp u.2) = false := bI_eq c35
                refine And.intro (rfl) (And.intro ?_ (And.intro (Nat.le_refl _) (Nat.le_refl _)))
                rw [rgG, if_neg c28, hu] at hres
                replace hres : (if ee (gp u.2) = true then rgG n4 (A4 ++ [u.1]) (gp u.2) else none) = RES := hres
                rw [if_neg (by rw [c35]; exact fun z => by cases z)] at hres
                subst hres
                exact ⟨rfl, ra2, _, _, _, _, _, _, g5, g6, rfl, hra, hkp5, (fun L hL => by cases hL)⟩
    · skip
      have c19 : (pk 61 (ta bytL (gp T)).2).1 = false := bI_eq c19
      refine And.intro (rfl) (And.intro ?_ (And.intro (Nat.le_refl _) (Nat.le_refl _)))
      rw [show rngL T = none by rw [rngL, if_pos c15, if_neg (by rw [c19]; exact fun z => by cases z)]]
      exact ⟨rfl, ra2, _, _, _, _, _, [], f1, f2, rfl, hra, ⟨Nat.zero_le _, fun i hi => by simp at hi⟩, (fun L hL => by cases hL)⟩
