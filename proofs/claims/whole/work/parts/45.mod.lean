/-! THE REFERENCE: the pieces of a date, by program (wip/whole/gen/p45.py) -/
def dayL : List Nat := [83, 117, 110, 77, 111, 110, 84, 117, 101, 87, 101, 100, 84, 104, 117, 70, 114, 105, 83, 97, 116]
def monL : List Nat := [74, 97, 110, 70, 101, 98, 77, 97, 114, 65, 112, 114, 77, 97, 121, 74, 117, 110, 74, 117, 108, 65, 117, 103, 83, 101, 112, 79, 99, 116, 78, 111, 118, 68, 101, 99]
section
variable {p : Program} {l : Launch} {e : Env} {R : Room} {s : State} {m : MethodId} {args : Array Value} {below : List Frame} {meth : Method} {c : Code} {cc : ByteArray} {nL : Nat} {D : va_G} {tys : List (ClassId × FieldType)} {A : Nat → Prop} {tc : Nat → ClassId} {Q : State → Prop} {st : List Value} {k n : Nat} {ws : va_W} {own : String} {Ts : List Cond} {cl : List vw_C}
theorem vx_lookup (hC : Cx p s m args c cc nL own Ts D cl tys A tc) {pc : Nat} {dflt : Int} {qs : Array (Int × Int)} {len : Nat} (hd : decode cc pc = .ok (.lookupswitch dflt qs, len)) (hp : (qs.toList.zip (qs.toList.drop 1)).all (fun (a, next) => a.1 < next.1) = true) {x : Int32} {off : Int} (tgt : Nat) (ho : Op.lookupswitch.offset qs.toList dflt x.toInt = off) (ht : (pc : Int) + off = (tgt : Int)) {lv : wq_L} (h : Vx p l e R s m args below meth c nL D cl A Q tgt lv st ws k n) : Vx p l e R s m args below meth c nL D cl A Q pc lv (.int x :: st) ws k n :=
  fun H locs ls hP hD hS hl => lv_lookup hC.1 hC.2.1 hd hp ho ht (h H locs ls hP hD hS hl)
end
theorem vx_dec {cc : ByteArray} {nL : Nat} {j : wq_J} {ins : Jvm.ClassFile.Instr} {an : wq_A} (hj : wq_c cc nL j 0 = true) (i : Nat) (r : wq_J) (hi : i ≤ j.length) (e : j.drop i = (ins, an) :: r) : decode cc (wq_pc j i) = .ok (ins, wq_il an ins) := by
  have h := wq_c_drop i j 0 hi hj
  rw [e, Nat.zero_add, wq_c, Bool.and_eq_true, Bool.and_eq_true] at h
  exact of_decide_eq_true h.1.1
theorem dgq_dgs {T : List Nat} {k a ps : Nat} : dgs k a (T.drop ps) = ((dgq T k a ps).1, T.drop (dgq T k a ps).2) := by
  induction k generalizing a ps with
  | zero => rfl
  | succ k ih =>
    rcases Nat.lt_or_ge ps T.length with h | h
    · rw [drop_get h, dgs, dgq]
      by_cases hd : isDg (T.getD ps 0) = true
      · rw [if_pos hd, if_pos hd, ih]
      · rw [if_neg hd, if_neg hd, ← drop_get h]
    · rw [drop_end h, dgq, T_out h, if_neg (by decide), dgs, drop_end h]
theorem dgq_le {T : List Nat} {k a ps : Nat} : (dgq T k a ps).2 ≤ ps + k ∧ ps ≤ (dgq T k a ps).2 ∧ (ps ≤ T.length → (dgq T k a ps).2 ≤ T.length) := by
  induction k generalizing a ps with
  | zero => exact ⟨Nat.le_refl _, Nat.le_refl _, id⟩
  | succ k ih =>
    rw [dgq]
    by_cases hd : isDg (T.getD ps 0) = true
    · rw [if_pos hd]
      have h := ih (a := 10 * a + T.getD ps 0 - 48) (ps := ps + 1)
      have h2 := T_in (T := T) (k := ps) (by have := dg_in hd; omega)
      exact ⟨by omega, by omega, fun _ => h.2.2 h2⟩
    · rw [if_neg hd]; exact ⟨by show ps ≤ _; omega, Nat.le_refl _, id⟩
theorem dgq_v {T : List Nat} {k a ps v : Nat} (h : (dgq T k a ps).1 = some v) : v < (a + 1) * 10 ^ k ∧ (0 < k → (dgq T k a ps).2 ≤ T.length) := by
  induction k generalizing a ps with
  | zero =>
    obtain rfl := Option.some.inj h
    exact ⟨by simp, fun z => by omega⟩
  | succ k ih =>
    rw [dgq] at h ⊢
    by_cases hd : isDg (T.getD ps 0) = true
    · rw [if_pos hd] at h ⊢
      have h1 := dg_in hd
      have h2 := T_in (T := T) (k := ps) (by omega)
      have h3 := ih h
      refine ⟨Nat.lt_of_lt_of_le h3.1 ?_, fun _ => (dgq_le (T := T)).2.2 h2⟩
      rw [Nat.pow_succ, Nat.mul_comm (10 ^ k) 10, ← Nat.mul_assoc]
      exact Nat.mul_le_mul_right _ (by omega)
    · rw [if_neg hd] at h; cases h
def nmO (W rs : List Nat) : Option (Nat × List Nat) := (nmAt W rs).1.map (fun k => (k, (nmAt W rs).2))
theorem nms_0 {x y : Nat} : nms dayL x y 0 0 = none ∧ nms monL x y 0 0 = none := by simp [nms, dayL, monL]
theorem nmO_at {W T : List Nat} {ps : Nat} (h0 : ∀ x y, nms W x y 0 0 = none) : nmO W (T.drop ps) = (nms W (T.getD ps 0) (T.getD (ps + 1) 0) (T.getD (ps + 2) 0) 0).map (fun k => (k, T.drop (ps + 3))) := by
  rcases Nat.lt_or_ge (ps + 2) T.length with h | h
  · unfold nmO
    rw [drop_get (by omega), drop_get (i := ps + 1) (by omega), drop_get (i := ps + 1 + 1) h]
    show Option.map (fun k => (k, (nmAt W (T.getD ps 0 :: T.getD (ps + 1) 0 :: T.getD (ps + 2) 0 :: T.drop (ps + 3))).2)) (nmAt W (T.getD ps 0 :: T.getD (ps + 1) 0 :: T.getD (ps + 2) 0 :: T.drop (ps + 3))).1 = _
    cases hn : nms W (T.getD ps 0) (T.getD (ps + 1) 0) (T.getD (ps + 2) 0) 0 with
    | none => simp only [nmAt, hn, Option.map]
    | some k => simp only [nmAt, hn, Option.map]
  · rw [T_out h, h0]
    unfold nmO
    rw [nmAt_short (by rw [List.length_drop]; omega)]; rfl
/-- reads a number: -1 where there is none -/
def nP (tc : Nat → ClassId) (h : Nat) (ar : Nat → Nat) (now : Int64) (sc : Nat → Int32) (ai : Nat → Nat → Int32) (al : Nat → Nat → Int64) (T : List Nat) (bnd : Nat) (f : Nat → Nat) (v : Option (Nat × List Nat)) (r : Option Value) (w : va_W) : Prop := r = some (.int (iI (v.map fun u => f u.1))) ∧ ∃ s2 p2, w = mdW tc h ar now s2 ai al ∧ gq sc s2 ∧ s2 11 = sc 11 ∧ s2 12 = nI p2 ∧ p2 ≤ bnd ∧ ∀ u, v = some u → T.drop p2 = u.2 ∧ p2 ≤ T.length
/-- reads a text -/
def bP (tc : Nat → ClassId) (h : Nat) (ar : Nat → Nat) (now : Int64) (sc : Nat → Int32) (ai : Nat → Nat → Int32) (al : Nat → Nat → Int64) (T : List Nat) (bnd : Nat) (v : Bool × List Nat) (r : Option Value) (w : va_W) : Prop := r = some (.int (bI v.1)) ∧ ∃ s2 p2, w = mdW tc h ar now s2 ai al ∧ gq sc s2 ∧ s2 11 = sc 11 ∧ s2 12 = nI p2 ∧ p2 ≤ bnd ∧ (v.1 = true → T.drop p2 = v.2 ∧ p2 ≤ T.length)
theorem or8 {a b : Nat} {i : Nat} (hi : i = 8 ∨ i = 16) (ha : a < 2 ^ i) (hb : b < 256) : nI a ||| (nI b <<< nI i) = nI (a + 2 ^ i * b) := by
  apply Int32.toBitVec_inj.mp
  apply BitVec.eq_of_toNat_eq
  have e : ∀ n : Nat, (nI n).toBitVec = BitVec.ofNat 32 n := fun n => rfl
  rw [Int32.toBitVec_or, Int32.toBitVec_shiftLeft, e, e, e, BitVec.toNat_or]
  have hsm : ((BitVec.ofNat 32 i).smod 32).toNat = i := by rcases hi with rfl | rfl <;> rfl
  rw [BitVec.shiftLeft_eq', hsm, BitVec.toNat_shiftLeft, e, BitVec.toNat_ofNat, BitVec.toNat_ofNat, BitVec.toNat_ofNat]
  have h1 : b <<< i = 2 ^ i * b := by rw [Nat.shiftLeft_eq, Nat.mul_comm]
  have h2 : 2 ^ i * b < 2 ^ 32 := by rcases hi with rfl | rfl <;> omega
  have h3 : a + 2 ^ i * b < 2 ^ 32 := by rcases hi with rfl | rfl <;> omega
  have h4 : a < 2 ^ 32 := by omega
  rw [Nat.mod_eq_of_lt (show b < 2 ^ 32 by omega), h1, Nat.mod_eq_of_lt h2, Nat.mod_eq_of_lt h3, Nat.mod_eq_of_lt h4, Nat.or_comm, ← h1, ← Nat.shiftLeft_add_eq_or_of_lt ha, Nat.add_comm]
set_option maxRecDepth 100000 in
set_option maxHeartbeats 4000000 in
theorem c_Mo_three (l : Launch) (D : va_G) (tys : List (ClassId × FieldType)) (tc : Nat → ClassId) (hty : ∀ i : Nat, i < 4 → tys[i]? = some (tc i, vx_ty i)) (h : Nat) (ar : Nat → Nat) (now : Int64) (sc : Nat → Int32) (ai : Nat → Nat → Int32) (al : Nat → Nat → Int64) (F : Nat) (T : List Nat) (ps : Nat) (hM : mdS sc ai F T ps) : Kt l y_Mo_three (yw y_Mo_three b_Mo_three 2 (some .int)) 1 21 0 0 D cls tys (fun _ _ _ => True) [.ref h] (mdW tc h ar now sc ai al) (fun r w => r = some (.int (nI (T.getD ps 0 + 256 * T.getD (ps + 1) 0 + 65536 * T.getD (ps + 2) 0))) ∧ w = mdW tc h ar now (upd sc 12 (nI (ps + 3))) ai al) := by
  refine Kt.of ro_true (by decide) rfl hty (Nat.le_of_ble_eq_true rfl) ?_
  intro p e s m args below meth c0 A hC hr hlk hnm hF
  have hFt : vx_Ft y_Mo_three.cls (yw y_Mo_three b_Mo_three 2 (some .int)) cls cty ft_Mo := ft_of (fun w h => List.mem_cons_of_mem _ h) fl_Mo_in ft_Mo_b
  have hini : false = true → meth.name = "<init>" := fun h => by cases h
  obtain ⟨hF8, h11, hlenT, htx, hT, h12, hps⟩ := id hM
  have hTl := hT.1
  refine vx_go hC hFt hini (vx_ends hC hr hlk) jc_Mo_three 0 (by decide) rfl ?_
  refine And.intro rfl ?_
  refine mo_call hC (c_Mo_charAt l D tys tc hty h ar now sc ai al F T ps hM ps (by omega)) wm_Mo_charAt wl_Mo_111 wi_Mo_charAt ws_Mo_Mo_charAt ⟨by decide, by decide⟩ rfl (by rw [h12]; rfl) (Nat.le_of_ble_eq_true rfl) ⟨Nat.zero_le _, Nat.zero_le _⟩ (fun r' w1 hp => ?_)
  obtain ⟨rfl, rfl⟩ := hp
  refine And.intro rfl ?_
  refine mo_call hC (c_Mo_charAt l D tys tc hty h ar now sc ai al F T ps hM (ps + 1) (by omega)) wm_Mo_charAt wl_Mo_111 wi_Mo_charAt ws_Mo_Mo_charAt ⟨by decide, by decide⟩ rfl (by rw [h12, ← nI_1]; rfl) (Nat.le_of_ble_eq_true rfl) ⟨Nat.zero_le _, Nat.zero_le _⟩ (fun r' w1 hp => ?_)
  obtain ⟨rfl, rfl⟩ := hp
  refine And.intro rfl ?_
  refine mo_call hC (c_Mo_charAt l D tys tc hty h ar now sc ai al F T ps hM (ps + 2) (by omega)) wm_Mo_charAt wl_Mo_111 wi_Mo_charAt ws_Mo_Mo_charAt ⟨by decide, by decide⟩ rfl (by rw [h12, ← nI_add]; rfl) (Nat.le_of_ble_eq_true rfl) ⟨Nat.zero_le _, Nat.zero_le _⟩ (fun r' w1 hp => ?_)
  obtain ⟨rfl, rfl⟩ := hp
  refine And.intro rfl ?_
  refine And.intro rfl ?_
  refine And.intro rfl (And.intro (And.intro rfl rfl) ?_)
  refine And.intro (trivial) (And.intro ?_ (And.intro (Nat.le_refl _) (Nat.le_refl _)))
  refine And.intro (congrArg (fun z => some (Value.int z)) ?_) (by rw [← nI_add, ← h12]; rfl)
  have b1 := T_lt hT ps
  have b2 := T_lt hT (ps + 1)
  have b3 := T_lt hT (ps + 2)
  show (nI (T.getD ps 0) ||| (nI (T.getD (ps + 1) 0) <<< ((8 : Int32) &&& 31))) ||| (nI (T.getD (ps + 2) 0) <<< ((16 : Int32) &&& 31)) = _
  rw [show (8 : Int32) &&& 31 = nI 8 from rfl, show (16 : Int32) &&& 31 = nI 16 from rfl, or8 (Or.inl rfl) (by omega) b2, or8 (Or.inr rfl) (by omega) b3]
set_option maxRecDepth 100000 in
set_option maxHeartbeats 4000000 in
theorem c_Mo_dayName (l : Launch) (D : va_G) (tys : List (ClassId × FieldType)) (tc : Nat → ClassId) (hty : ∀ i : Nat, i < 4 → tys[i]? = some (tc i, vx_ty i)) (h : Nat) (ar : Nat → Nat) (now : Int64) (sc : Nat → Int32) (ai : Nat → Nat → Int32) (al : Nat → Nat → Int64) (F : Nat) (T : List Nat) (ps : Nat) (hM : mdS sc ai F T ps) : Kt l y_Mo_dayName (yw y_Mo_dayName b_Mo_dayName 1 (some .int)) 2 42 0 0 D cls tys (fun _ _ _ => True) [.ref h] (mdW tc h ar now sc ai al) (fun r w => nP tc h ar now sc ai al T (ps + 3) (fun k => k) (nmO dayL (T.drop ps)) r w) := by
  refine Kt.of ro_true (by decide) rfl hty (Nat.le_of_ble_eq_true rfl) ?_
  intro p e s m args below meth c0 A hC hr hlk hnm hF
  have hFt : vx_Ft y_Mo_dayName.cls (yw y_Mo_dayName b_Mo_dayName 1 (some .int)) cls cty ft_Mo := ft_of (fun w h => List.mem_cons_of_mem _ h) fl_Mo_in ft_Mo_b
  have hini : false = true → meth.name = "<init>" := fun h => by cases h
  obtain ⟨hF8, h11, hlenT, htx, hT, h12, hps⟩ := id hM
  have hTl := hT.1
  refine vx_gon hC hFt hini (vx_ends hC hr hlk) jc_Mo_dayName 0 2 (by decide) rfl ?_
  refine mo_call hC (c_Mo_three l D tys tc hty h ar now sc ai al F T ps hM) wm_Mo_three wl_Mo_241 wi_Mo_three ws_Mo_Mo_three ⟨by decide, by decide⟩ rfl rfl (Nat.le_of_ble_eq_true rfl) ⟨Nat.zero_le _, Nat.zero_le _⟩ (fun r' w1 hp => ?_)
  obtain ⟨rfl, rfl⟩ := hp
  have hdec := vx_dec jc_Mo_dayName 2 _ (by decide) rfl
  have b1 := T_lt hT ps
  have b2 := T_lt hT (ps + 1)
  have b3 := T_lt hT (ps + 2)
  rw [nmO_at (fun x y => (nms_0 (x := x) (y := y)).1)]
  by_cases n0 : T.getD ps 0 = 83 ∧ T.getD (ps + 1) 0 = 117 ∧ T.getD (ps + 2) 0 = 110
  · refine vx_lookup hC hdec (by decide) 72 (off := 68) (by rw [n0.1, n0.2.1, n0.2.2]; rfl) rfl ?_
    rw [n0.1, n0.2.1, n0.2.2]
    refine vx_go hC hFt hini (vx_ends hC hr hlk) jc_Mo_dayName 3 (by decide) rfl ?_
    refine And.intro (trivial) (And.intro ?_ (And.intro (Nat.le_refl _) (Nat.le_refl _)))
    refine And.intro rfl ⟨_, ps + 3, rfl, gq.refl.upd (by decide), rfl, rfl, Nat.le_refl _, fun u hu => ?_⟩
    obtain rfl := Option.some.inj hu
    exact ⟨rfl, T_in (T := T) (k := ps + 2) (by omega)⟩
  · skip
    by_cases n1 : T.getD ps 0 = 77 ∧ T.getD (ps + 1) 0 = 111 ∧ T.getD (ps + 2) 0 = 110
    · refine vx_lookup hC hdec (by decide) 74 (off := 70) (by rw [n1.1, n1.2.1, n1.2.2]; rfl) rfl ?_
      rw [n1.1, n1.2.1, n1.2.2]
      refine vx_go hC hFt hini (vx_ends hC hr hlk) jc_Mo_dayName 5 (by decide) rfl ?_
      refine And.intro (trivial) (And.intro ?_ (And.intro (Nat.le_refl _) (Nat.le_refl _)))
      refine And.intro rfl ⟨_, ps + 3, rfl, gq.refl.upd (by decide), rfl, rfl, Nat.le_refl _, fun u hu => ?_⟩
      obtain rfl := Option.some.inj hu
      exact ⟨rfl, T_in (T := T) (k := ps + 2) (by omega)⟩
    · skip
      by_cases n2 : T.getD ps 0 = 84 ∧ T.getD (ps + 1) 0 = 117 ∧ T.getD (ps + 2) 0 = 101
      · refine vx_lookup hC hdec (by decide) 76 (off := 72) (by rw [n2.1, n2.2.1, n2.2.2]; rfl) rfl ?_
        rw [n2.1, n2.2.1, n2.2.2]
        refine vx_go hC hFt hini (vx_ends hC hr hlk) jc_Mo_dayName 7 (by decide) rfl ?_
        refine And.intro (trivial) (And.intro ?_ (And.intro (Nat.le_refl _) (Nat.le_refl _)))
        refine And.intro rfl ⟨_, ps + 3, rfl, gq.refl.upd (by decide), rfl, rfl, Nat.le_refl _, fun u hu => ?_⟩
        obtain rfl := Option.some.inj hu
        exact ⟨rfl, T_in (T := T) (k := ps + 2) (by omega)⟩
      · skip
        by_cases n3 : T.getD ps 0 = 87 ∧ T.getD (ps + 1) 0 = 101 ∧ T.getD (ps + 2) 0 = 100
        · refine vx_lookup hC hdec (by decide) 78 (off := 74) (by rw [n3.1, n3.2.1, n3.2.2]; rfl) rfl ?_
          rw [n3.1, n3.2.1, n3.2.2]
          refine vx_go hC hFt hini (vx_ends hC hr hlk) jc_Mo_dayName 9 (by decide) rfl ?_
          refine And.intro (trivial) (And.intro ?_ (And.intro (Nat.le_refl _) (Nat.le_refl _)))
          refine And.intro rfl ⟨_, ps + 3, rfl, gq.refl.upd (by decide), rfl, rfl, Nat.le_refl _, fun u hu => ?_⟩
          obtain rfl := Option.some.inj hu
          exact ⟨rfl, T_in (T := T) (k := ps + 2) (by omega)⟩
        · skip
          by_cases n4 : T.getD ps 0 = 84 ∧ T.getD (ps + 1) 0 = 104 ∧ T.getD (ps + 2) 0 = 117
          · refine vx_lookup hC hdec (by decide) 80 (off := 76) (by rw [n4.1, n4.2.1, n4.2.2]; rfl) rfl ?_
            rw [n4.1, n4.2.1, n4.2.2]
            refine vx_go hC hFt hini (vx_ends hC hr hlk) jc_Mo_dayName 11 (by decide) rfl ?_
            refine And.intro (trivial) (And.intro ?_ (And.intro (Nat.le_refl _) (Nat.le_refl _)))
            refine And.intro rfl ⟨_, ps + 3, rfl, gq.refl.upd (by decide), rfl, rfl, Nat.le_refl _, fun u hu => ?_⟩
            obtain rfl := Option.some.inj hu
            exact ⟨rfl, T_in (T := T) (k := ps + 2) (by omega)⟩
          · skip
            by_cases n5 : T.getD ps 0 = 70 ∧ T.getD (ps + 1) 0 = 114 ∧ T.getD (ps + 2) 0 = 105
            · refine vx_lookup hC hdec (by decide) 82 (off := 78) (by rw [n5.1, n5.2.1, n5.2.2]; rfl) rfl ?_
              rw [n5.1, n5.2.1, n5.2.2]
              refine vx_go hC hFt hini (vx_ends hC hr hlk) jc_Mo_dayName 13 (by decide) rfl ?_
              refine And.intro (trivial) (And.intro ?_ (And.intro (Nat.le_refl _) (Nat.le_refl _)))
              refine And.intro rfl ⟨_, ps + 3, rfl, gq.refl.upd (by decide), rfl, rfl, Nat.le_refl _, fun u hu => ?_⟩
              obtain rfl := Option.some.inj hu
              exact ⟨rfl, T_in (T := T) (k := ps + 2) (by omega)⟩
            · skip
              by_cases n6 : T.getD ps 0 = 83 ∧ T.getD (ps + 1) 0 = 97 ∧ T.getD (ps + 2) 0 = 116
              · refine vx_lookup hC hdec (by decide) 84 (off := 80) (by rw [n6.1, n6.2.1, n6.2.2]; rfl) rfl ?_
                rw [n6.1, n6.2.1, n6.2.2]
                refine vx_go hC hFt hini (vx_ends hC hr hlk) jc_Mo_dayName 15 (by decide) rfl ?_
                refine And.intro (trivial) (And.intro ?_ (And.intro (Nat.le_refl _) (Nat.le_refl _)))
                refine And.intro rfl ⟨_, ps + 3, rfl, gq.refl.upd (by decide), rfl, rfl, Nat.le_refl _, fun u hu => ?_⟩
                obtain rfl := Option.some.inj hu
                exact ⟨rfl, T_in (T := T) (k := ps + 2) (by omega)⟩
              · skip
                refine vx_lookup hC hdec (by decide) 87 (off := 83) (by
                  show Op.lookupswitch.offset [(6579543, 74), (6649172, 72), (6910534, 78), (7237453, 70), (7238995, 68), (7627091, 80), (7694420, 76)] 83 (nI (T.getD ps 0 + 256 * T.getD (ps + 1) 0 + 65536 * T.getD (ps + 2) 0)).toInt = _
                  rw [lv_osw (k := nI 6579543) (fun z => n3 (by have := (nI_eq (by omega) (by omega)).mp z; omega)) (by decide), lv_osw (k := nI 6649172) (fun z => n2 (by have := (nI_eq (by omega) (by omega)).mp z; omega)) (by decide), lv_osw (k := nI 6910534) (fun z => n5 (by have := (nI_eq (by omega) (by omega)).mp z; omega)) (by decide), lv_osw (k := nI 7237453) (fun z => n1 (by have := (nI_eq (by omega) (by omega)).mp z; omega)) (by decide), lv_osw (k := nI 7238995) (fun z => n0 (by have := (nI_eq (by omega) (by omega)).mp z; omega)) (by decide), lv_osw (k := nI 7627091) (fun z => n6 (by have := (nI_eq (by omega) (by omega)).mp z; omega)) (by decide), lv_osw (k := nI 7694420) (fun z => n4 (by have := (nI_eq (by omega) (by omega)).mp z; omega)) (by decide)]; rfl) rfl ?_
                have hnone : nms dayL (T.getD ps 0) (T.getD (ps + 1) 0) (T.getD (ps + 2) 0) 0 = none := by unfold dayL; simp only [nms]; rw [if_neg n0, if_neg n1, if_neg n2, if_neg n3, if_neg n4, if_neg n5, if_neg n6]
                rw [hnone]
                refine vx_go hC hFt hini (vx_ends hC hr hlk) jc_Mo_dayName 17 (by decide) rfl ?_
                refine And.intro (trivial) (And.intro ?_ (And.intro (Nat.le_refl _) (Nat.le_refl _)))
                exact And.intro rfl ⟨_, ps + 3, rfl, gq.refl.upd (by decide), rfl, rfl, Nat.le_refl _, fun u hu => by cases hu⟩
set_option maxRecDepth 100000 in
set_option maxHeartbeats 4000000 in
theorem c_Mo_monthName (l : Launch) (D : va_G) (tys : List (ClassId × FieldType)) (tc : Nat → ClassId) (hty : ∀ i : Nat, i < 4 → tys[i]? = some (tc i, vx_ty i)) (h : Nat) (ar : Nat → Nat) (now : Int64) (sc : Nat → Int32) (ai : Nat → Nat → Int32) (al : Nat → Nat → Int64) (F : Nat) (T : List Nat) (ps : Nat) (hM : mdS sc ai F T ps) : Kt l y_Mo_monthName (yw y_Mo_monthName b_Mo_monthName 1 (some .int)) 2 42 0 0 D cls tys (fun _ _ _ => True) [.ref h] (mdW tc h ar now sc ai al) (fun r w => nP tc h ar now sc ai al T (ps + 3) (fun k => k + 1) (nmO monL (T.drop ps)) r w) := by
  refine Kt.of ro_true (by decide) rfl hty (Nat.le_of_ble_eq_true rfl) ?_
  intro p e s m args below meth c0 A hC hr hlk hnm hF
  have hFt : vx_Ft y_Mo_monthName.cls (yw y_Mo_monthName b_Mo_monthName 1 (some .int)) cls cty ft_Mo := ft_of (fun w h => List.mem_cons_of_mem _ h) fl_Mo_in ft_Mo_b
  have hini : false = true → meth.name = "<init>" := fun h => by cases h
  obtain ⟨hF8, h11, hlenT, htx, hT, h12, hps⟩ := id hM
  have hTl := hT.1
  refine vx_gon hC hFt hini (vx_ends hC hr hlk) jc_Mo_monthName 0 2 (by decide) rfl ?_
  refine mo_call hC (c_Mo_three l D tys tc hty h ar now sc ai al F T ps hM) wm_Mo_three wl_Mo_241 wi_Mo_three ws_Mo_Mo_three ⟨by decide, by decide⟩ rfl rfl (Nat.le_of_ble_eq_true rfl) ⟨Nat.zero_le _, Nat.zero_le _⟩ (fun r' w1 hp => ?_)
  obtain ⟨rfl, rfl⟩ := hp
  have hdec := vx_dec jc_Mo_monthName 2 _ (by decide) rfl
  have b1 := T_lt hT ps
  have b2 := T_lt hT (ps + 1)
  have b3 := T_lt hT (ps + 2)
  rw [nmO_at (fun x y => (nms_0 (x := x) (y := y)).2)]
  by_cases n0 : T.getD ps 0 = 74 ∧ T.getD (ps + 1) 0 = 97 ∧ T.getD (ps + 2) 0 = 110
  · refine vx_lookup hC hdec (by decide) 112 (off := 108) (by rw [n0.1, n0.2.1, n0.2.2]; rfl) rfl ?_
    rw [n0.1, n0.2.1, n0.2.2]
    refine vx_go hC hFt hini (vx_ends hC hr hlk) jc_Mo_monthName 3 (by decide) rfl ?_
    refine And.intro (trivial) (And.intro ?_ (And.intro (Nat.le_refl _) (Nat.le_refl _)))
    refine And.intro rfl ⟨_, ps + 3, rfl, gq.refl.upd (by decide), rfl, rfl, Nat.le_refl _, fun u hu => ?_⟩
    obtain rfl := Option.some.inj hu
    exact ⟨rfl, T_in (T := T) (k := ps + 2) (by omega)⟩
  · skip
    by_cases n1 : T.getD ps 0 = 70 ∧ T.getD (ps + 1) 0 = 101 ∧ T.getD (ps + 2) 0 = 98
    · refine vx_lookup hC hdec (by decide) 114 (off := 110) (by rw [n1.1, n1.2.1, n1.2.2]; rfl) rfl ?_
      rw [n1.1, n1.2.1, n1.2.2]
      refine vx_go hC hFt hini (vx_ends hC hr hlk) jc_Mo_monthName 5 (by decide) rfl ?_
      refine And.intro (trivial) (And.intro ?_ (And.intro (Nat.le_refl _) (Nat.le_refl _)))
      refine And.intro rfl ⟨_, ps + 3, rfl, gq.refl.upd (by decide), rfl, rfl, Nat.le_refl _, fun u hu => ?_⟩
      obtain rfl := Option.some.inj hu
      exact ⟨rfl, T_in (T := T) (k := ps + 2) (by omega)⟩
    · skip
      by_cases n2 : T.getD ps 0 = 77 ∧ T.getD (ps + 1) 0 = 97 ∧ T.getD (ps + 2) 0 = 114
      · refine vx_lookup hC hdec (by decide) 116 (off := 112) (by rw [n2.1, n2.2.1, n2.2.2]; rfl) rfl ?_
        rw [n2.1, n2.2.1, n2.2.2]
        refine vx_go hC hFt hini (vx_ends hC hr hlk) jc_Mo_monthName 7 (by decide) rfl ?_
        refine And.intro (trivial) (And.intro ?_ (And.intro (Nat.le_refl _) (Nat.le_refl _)))
        refine And.intro rfl ⟨_, ps + 3, rfl, gq.refl.upd (by decide), rfl, rfl, Nat.le_refl _, fun u hu => ?_⟩
        obtain rfl := Option.some.inj hu
        exact ⟨rfl, T_in (T := T) (k := ps + 2) (by omega)⟩
      · skip
        by_cases n3 : T.getD ps 0 = 65 ∧ T.getD (ps + 1) 0 = 112 ∧ T.getD (ps + 2) 0 = 114
        · refine vx_lookup hC hdec (by decide) 118 (off := 114) (by rw [n3.1, n3.2.1, n3.2.2]; rfl) rfl ?_
          rw [n3.1, n3.2.1, n3.2.2]
          refine vx_go hC hFt hini (vx_ends hC hr hlk) jc_Mo_monthName 9 (by decide) rfl ?_
          refine And.intro (trivial) (And.intro ?_ (And.intro (Nat.le_refl _) (Nat.le_refl _)))
          refine And.intro rfl ⟨_, ps + 3, rfl, gq.refl.upd (by decide), rfl, rfl, Nat.le_refl _, fun u hu => ?_⟩
          obtain rfl := Option.some.inj hu
          exact ⟨rfl, T_in (T := T) (k := ps + 2) (by omega)⟩
        · skip
          by_cases n4 : T.getD ps 0 = 77 ∧ T.getD (ps + 1) 0 = 97 ∧ T.getD (ps + 2) 0 = 121
          · refine vx_lookup hC hdec (by decide) 120 (off := 116) (by rw [n4.1, n4.2.1, n4.2.2]; rfl) rfl ?_
            rw [n4.1, n4.2.1, n4.2.2]
            refine vx_go hC hFt hini (vx_ends hC hr hlk) jc_Mo_monthName 11 (by decide) rfl ?_
            refine And.intro (trivial) (And.intro ?_ (And.intro (Nat.le_refl _) (Nat.le_refl _)))
            refine And.intro rfl ⟨_, ps + 3, rfl, gq.refl.upd (by decide), rfl, rfl, Nat.le_refl _, fun u hu => ?_⟩
            obtain rfl := Option.some.inj hu
            exact ⟨rfl, T_in (T := T) (k := ps + 2) (by omega)⟩
          · skip
            by_cases n5 : T.getD ps 0 = 74 ∧ T.getD (ps + 1) 0 = 117 ∧ T.getD (ps + 2) 0 = 110
            · refine vx_lookup hC hdec (by decide) 122 (off := 118) (by rw [n5.1, n5.2.1, n5.2.2]; rfl) rfl ?_
              rw [n5.1, n5.2.1, n5.2.2]
              refine vx_go hC hFt hini (vx_ends hC hr hlk) jc_Mo_monthName 13 (by decide) rfl ?_
              refine And.intro (trivial) (And.intro ?_ (And.intro (Nat.le_refl _) (Nat.le_refl _)))
              refine And.intro rfl ⟨_, ps + 3, rfl, gq.refl.upd (by decide), rfl, rfl, Nat.le_refl _, fun u hu => ?_⟩
              obtain rfl := Option.some.inj hu
              exact ⟨rfl, T_in (T := T) (k := ps + 2) (by omega)⟩
            · skip
              by_cases n6 : T.getD ps 0 = 74 ∧ T.getD (ps + 1) 0 = 117 ∧ T.getD (ps + 2) 0 = 108
              · refine vx_lookup hC hdec (by decide) 125 (off := 121) (by rw [n6.1, n6.2.1, n6.2.2]; rfl) rfl ?_
                rw [n6.1, n6.2.1, n6.2.2]
                refine vx_go hC hFt hini (vx_ends hC hr hlk) jc_Mo_monthName 15 (by decide) rfl ?_
                refine And.intro (trivial) (And.intro ?_ (And.intro (Nat.le_refl _) (Nat.le_refl _)))
                refine And.intro rfl ⟨_, ps + 3, rfl, gq.refl.upd (by decide), rfl, rfl, Nat.le_refl _, fun u hu => ?_⟩
                obtain rfl := Option.some.inj hu
                exact ⟨rfl, T_in (T := T) (k := ps + 2) (by omega)⟩
              · skip
                by_cases n7 : T.getD ps 0 = 65 ∧ T.getD (ps + 1) 0 = 117 ∧ T.getD (ps + 2) 0 = 103
                · refine vx_lookup hC hdec (by decide) 128 (off := 124) (by rw [n7.1, n7.2.1, n7.2.2]; rfl) rfl ?_
                  rw [n7.1, n7.2.1, n7.2.2]
                  refine vx_go hC hFt hini (vx_ends hC hr hlk) jc_Mo_monthName 17 (by decide) rfl ?_
                  refine And.intro (trivial) (And.intro ?_ (And.intro (Nat.le_refl _) (Nat.le_refl _)))
                  refine And.intro rfl ⟨_, ps + 3, rfl, gq.refl.upd (by decide), rfl, rfl, Nat.le_refl _, fun u hu => ?_⟩
                  obtain rfl := Option.some.inj hu
                  exact ⟨rfl, T_in (T := T) (k := ps + 2) (by omega)⟩
                · skip
                  by_cases n8 : T.getD ps 0 = 83 ∧ T.getD (ps + 1) 0 = 101 ∧ T.getD (ps + 2) 0 = 112
                  · refine vx_lookup hC hdec (by decide) 131 (off := 127) (by rw [n8.1, n8.2.1, n8.2.2]; rfl) rfl ?_
                    rw [n8.1, n8.2.1, n8.2.2]
                    refine vx_go hC hFt hini (vx_ends hC hr hlk) jc_Mo_monthName 19 (by decide) rfl ?_
                    refine And.intro (trivial) (And.intro ?_ (And.intro (Nat.le_refl _) (Nat.le_refl _)))
                    refine And.intro rfl ⟨_, ps + 3, rfl, gq.refl.upd (by decide), rfl, rfl, Nat.le_refl _, fun u hu => ?_⟩
                    obtain rfl := Option.some.inj hu
                    exact ⟨rfl, T_in (T := T) (k := ps + 2) (by omega)⟩
                  · skip
                    by_cases n9 : T.getD ps 0 = 79 ∧ T.getD (ps + 1) 0 = 99 ∧ T.getD (ps + 2) 0 = 116
                    · refine vx_lookup hC hdec (by decide) 134 (off := 130) (by rw [n9.1, n9.2.1, n9.2.2]; rfl) rfl ?_
                      rw [n9.1, n9.2.1, n9.2.2]
                      refine vx_go hC hFt hini (vx_ends hC hr hlk) jc_Mo_monthName 21 (by decide) rfl ?_
                      refine And.intro (trivial) (And.intro ?_ (And.intro (Nat.le_refl _) (Nat.le_refl _)))
                      refine And.intro rfl ⟨_, ps + 3, rfl, gq.refl.upd (by decide), rfl, rfl, Nat.le_refl _, fun u hu => ?_⟩
                      obtain rfl := Option.some.inj hu
                      exact ⟨rfl, T_in (T := T) (k := ps + 2) (by omega)⟩
                    · skip
                      by_cases n10 : T.getD ps 0 = 78 ∧ T.getD (ps + 1) 0 = 111 ∧ T.getD (ps + 2) 0 = 118
                      · refine vx_lookup hC hdec (by decide) 137 (off := 133) (by rw [n10.1, n10.2.1, n10.2.2]; rfl) rfl ?_
                        rw [n10.1, n10.2.1, n10.2.2]
                        refine vx_go hC hFt hini (vx_ends hC hr hlk) jc_Mo_monthName 23 (by decide) rfl ?_
                        refine And.intro (trivial) (And.intro ?_ (And.intro (Nat.le_refl _) (Nat.le_refl _)))
                        refine And.intro rfl ⟨_, ps + 3, rfl, gq.refl.upd (by decide), rfl, rfl, Nat.le_refl _, fun u hu => ?_⟩
                        obtain rfl := Option.some.inj hu
                        exact ⟨rfl, T_in (T := T) (k := ps + 2) (by omega)⟩
                      · skip
                        by_cases n11 : T.getD ps 0 = 68 ∧ T.getD (ps + 1) 0 = 101 ∧ T.getD (ps + 2) 0 = 99
                        · refine vx_lookup hC hdec (by decide) 140 (off := 136) (by rw [n11.1, n11.2.1, n11.2.2]; rfl) rfl ?_
                          rw [n11.1, n11.2.1, n11.2.2]
                          refine vx_go hC hFt hini (vx_ends hC hr hlk) jc_Mo_monthName 25 (by decide) rfl ?_
                          refine And.intro (trivial) (And.intro ?_ (And.intro (Nat.le_refl _) (Nat.le_refl _)))
                          refine And.intro rfl ⟨_, ps + 3, rfl, gq.refl.upd (by decide), rfl, rfl, Nat.le_refl _, fun u hu => ?_⟩
                          obtain rfl := Option.some.inj hu
                          exact ⟨rfl, T_in (T := T) (k := ps + 2) (by omega)⟩
                        · skip
                          refine vx_lookup hC hdec (by decide) 143 (off := 139) (by
                            show Op.lookupswitch.offset [(6448454, 110), (6513988, 136), (6780225, 124), (7107914, 121), (7233866, 108), (7238986, 118), (7365971, 127), (7496013, 112), (7499841, 114), (7627599, 130), (7761742, 133), (7954765, 116)] 139 (nI (T.getD ps 0 + 256 * T.getD (ps + 1) 0 + 65536 * T.getD (ps + 2) 0)).toInt = _
                            rw [lv_osw (k := nI 6448454) (fun z => n1 (by have := (nI_eq (by omega) (by omega)).mp z; omega)) (by decide), lv_osw (k := nI 6513988) (fun z => n11 (by have := (nI_eq (by omega) (by omega)).mp z; omega)) (by decide), lv_osw (k := nI 6780225) (fun z => n7 (by have := (nI_eq (by omega) (by omega)).mp z; omega)) (by decide), lv_osw (k := nI 7107914) (fun z => n6 (by have := (nI_eq (by omega) (by omega)).mp z; omega)) (by decide), lv_osw (k := nI 7233866) (fun z => n0 (by have := (nI_eq (by omega) (by omega)).mp z; omega)) (by decide), lv_osw (k := nI 7238986) (fun z => n5 (by have := (nI_eq (by omega) (by omega)).mp z; omega)) (by decide), lv_osw (k := nI 7365971) (fun z => n8 (by have := (nI_eq (by omega) (by omega)).mp z; omega)) (by decide), lv_osw (k := nI 7496013) (fun z => n2 (by have := (nI_eq (by omega) (by omega)).mp z; omega)) (by decide), lv_osw (k := nI 7499841) (fun z => n3 (by have := (nI_eq (by omega) (by omega)).mp z; omega)) (by decide), lv_osw (k := nI 7627599) (fun z => n9 (by have := (nI_eq (by omega) (by omega)).mp z; omega)) (by decide), lv_osw (k := nI 7761742) (fun z => n10 (by have := (nI_eq (by omega) (by omega)).mp z; omega)) (by decide), lv_osw (k := nI 7954765) (fun z => n4 (by have := (nI_eq (by omega) (by omega)).mp z; omega)) (by decide)]; rfl) rfl ?_
                          have hnone : nms monL (T.getD ps 0) (T.getD (ps + 1) 0) (T.getD (ps + 2) 0) 0 = none := by unfold monL; simp only [nms]; rw [if_neg n0, if_neg n1, if_neg n2, if_neg n3, if_neg n4, if_neg n5, if_neg n6, if_neg n7, if_neg n8, if_neg n9, if_neg n10, if_neg n11]
                          rw [hnone]
                          refine vx_go hC hFt hini (vx_ends hC hr hlk) jc_Mo_monthName 27 (by decide) rfl ?_
                          refine And.intro (trivial) (And.intro ?_ (And.intro (Nat.le_refl _) (Nat.le_refl _)))
                          exact And.intro rfl ⟨_, ps + 3, rfl, gq.refl.upd (by decide), rfl, rfl, Nat.le_refl _, fun u hu => by cases hu⟩
