/-! THE REFERENCE: ranges, by program (wip/whole/gen/p50.py) -/
def spOk : Option Nat → Option Nat → Bool
  | none, none => false
  | none, some _ => true
  | some _, none => true
  | some a, some b => decide (a ≤ b)
/-- one range: first, last -/
def spc (rs : List Nat) : Option ((Option Nat × Option Nat) × List Nat) := if (pk 45 (rs.dropWhile isDg)).1 = true then (if spOk (nmv (rs.takeWhile isDg)) (nmv ((pk 45 (rs.dropWhile isDg)).2.takeWhile isDg)) = true then some ((nmv (rs.takeWhile isDg), nmv ((pk 45 (rs.dropWhile isDg)).2.takeWhile isDg)), (pk 45 (rs.dropWhile isDg)).2.dropWhile isDg) else none) else none
def rgG : Nat → List (Option Nat × Option Nat) → List Nat → Option (List (Option Nat × Option Nat))
  | 0, _, _ => none
  | n + 1, A, rs => if gc rs = [] then (if A = [] then none else some A) else match spc (gc rs) with
    | none => none
    | some u => if ee (gp u.2) = true then rgG n (A ++ [u.1]) (gp u.2) else none
theorem rgG_gc {n : Nat} {A : List (Option Nat × Option Nat)} {r1 r2 : List Nat} (h : gc r1 = gc r2) : rgG n A r1 = rgG n A r2 := by
  cases n with
  | zero => rfl
  | succ n => rw [rgG, rgG, h]
def bytL : List Nat := [98, 121, 116, 101, 115]
/-- the field's ranges -/
def rngL (T : List Nat) : Option (List (Option Nat × Option Nat)) := if (ta bytL (gp T)).1 = true then (if (pk 61 (ta bytL (gp T)).2).1 = true then rgG 97 [] (pk 61 (ta bytL (gp T)).2).2 else none) else none
theorem spc_len {rs : List Nat} {u : (Option Nat × Option Nat) × List Nat} (h : spc rs = some u) : u.2.length < rs.length := by
  unfold spc at h
  split at h
  · rename_i h1
    split at h
    · obtain rfl := Option.some.inj h
      have h2 := pk_len1 h1
      have h3 := (List.dropWhile_suffix (l := rs) isDg).length_le
      have h4 := (List.dropWhile_suffix (l := (pk 45 (rs.dropWhile isDg)).2) isDg).length_le
      show ((pk 45 (rs.dropWhile isDg)).2.dropWhile isDg).length < _
      omega
    · cases h
  · cases h
theorem fl9 : ∀ (ds : List Nat) (a : Nat), (∀ z ∈ ds, isDg z = true) → ds.foldl (fun a z => 10 * a + z - 48) a < (a + 1) * 10 ^ ds.length
  | [], a, _ => by simp
  | d :: ds, a, h => by
    have h1 := dg_in (h d List.mem_cons_self)
    have h2 := fl9 ds (10 * a + d - 48) (fun z hz => h z (List.mem_cons_of_mem _ hz))
    rw [List.foldl_cons, List.length_cons, Nat.pow_succ, Nat.mul_comm (10 ^ ds.length) 10, ← Nat.mul_assoc]
    exact Nat.lt_of_lt_of_le h2 (Nat.mul_le_mul_right _ (by omega))
theorem nmv_le {rs : List Nat} {v : Nat} (h : nmv (rs.takeWhile isDg) = some v) : v ≤ 999999999 := by
  unfold nmv at h
  split at h
  · cases h
  · split at h
    · have := Option.some.inj h; omega
    · have h1 := Option.some.inj h
      have h2 := fl9 ((rs.takeWhile isDg).take 9) 0 (fun z hz => by
        have h3 := List.mem_of_mem_take hz
        exact List.all_eq_true.mp List.all_takeWhile z h3)
      have h4 : ((rs.takeWhile isDg).take 9).length ≤ 9 := by rw [List.length_take]; omega
      have h5 : 10 ^ ((rs.takeWhile isDg).take 9).length ≤ 10 ^ 9 := Nat.pow_le_pow_right (by decide) h4
      rw [← h1]
      unfold f9
      omega
def hq (s t : Nat → Int32) : Prop := ∀ k, k < 11 ∨ 21 ≤ k → t k = s k
theorem hq.refl {s : Nat → Int32} : hq s s := fun _ _ => rfl
theorem hq.trans {a b c : Nat → Int32} (h1 : hq a b) (h2 : hq b c) : hq a c := fun k hk => (h2 k hk).trans (h1 k hk)
theorem hq.upd {s t : Nat → Int32} {k : Nat} {v : Int32} (h : hq s t) (hk : 11 ≤ k ∧ k ≤ 20) : hq s (upd t k v) := fun j hj => (pk_un (by omega)).trans (h j hj)
theorem gq.hq {s t : Nat → Int32} (h : gq s t) : hq s t := fun k hk => h k (by omega)
def aq (a b : Nat → Nat → Int32) : Prop := ∀ k, k ≠ 9 → k ≠ 10 → b k = a k
theorem aq.refl {a : Nat → Nat → Int32} : aq a a := fun _ _ _ => rfl
theorem aq.trans {a b c : Nat → Nat → Int32} (h1 : aq a b) (h2 : aq b c) : aq a c := fun k k1 k2 => (h2 k k1 k2).trans (h1 k k1 k2)
def ap (a : Nat → Nat → Int32) (p : Nat) (f : Nat → Int32) : Nat → Nat → Int32 := fun q => if q = p then f else a q
theorem ap_s {a : Nat → Nat → Int32} {p : Nat} {f : Nat → Int32} : ap a p f p = f := if_pos rfl
theorem ap_n {a : Nat → Nat → Int32} {p q : Nat} {f : Nat → Int32} (h : q ≠ p) : ap a p f q = a q := if_neg h
theorem aq.ap {a b : Nat → Nat → Int32} {p : Nat} {f : Nat → Int32} (h : aq a b) (hp : p = 9 ∨ p = 10) : aq a (ap b p f) := fun k k1 k2 => (ap_n (by omega)).trans (h k k1 k2)
theorem mdT.aq {a b : Nat → Nat → Int32} {G : Nat} {T : List Nat} (h : mdT a G T) (hq : aq a b) : mdT b G T := ⟨h.1, by rw [hq 8 (by decide) (by decide)]; exact h.2.1, by rw [hq 7 (by decide) (by decide)]; exact h.2.2.1, h.2.2.2⟩
def spA (a : Nat → Nat → Int32) (A : List (Option Nat × Option Nat)) : Prop := ∀ i u, A[i]? = some u → a 9 i = iI u.1 ∧ a 10 i = iI u.2
theorem spA_add {a b : Nat → Nat → Int32} {A : List (Option Nat × Option Nat)} {u : Option Nat × Option Nat} (h : spA a A) (h9 : b 9 = upd (a 9) A.length (iI u.1)) (h10 : b 10 = upd (a 10) A.length (iI u.2)) : spA b (A ++ [u]) := by
  intro i v hv
  by_cases e : i = A.length
  · subst e
    rw [List.getElem?_append_right (Nat.le_refl _), Nat.sub_self] at hv
    obtain rfl := Option.some.inj hv
    rw [h9, h10, pk_us, pk_us]; exact ⟨rfl, rfl⟩
  · have hi : i < A.length := by
      have := (List.getElem?_eq_some_iff.mp hv).1
      rw [List.length_append, List.length_singleton] at this
      omega
    rw [List.getElem?_append_left hi] at hv
    rw [h9, h10, pk_un e, pk_un e]; exact h i v hv
theorem iw_bytes : isWd 495623371106 [98, 121, 116, 101, 115] := by refine ⟨by decide, ?_, ?_⟩ <;> decide
theorem syq_ta {T : List Nat} : ∀ (W : List Nat) (p : Nat), (∀ c ∈ W, 0 < c ∧ lwr c = c) → p ≤ T.length → (ta W (T.drop p)).1 = syq T p W ∧ (syq T p W = true → (ta W (T.drop p)).2 = T.drop (p + W.length) ∧ p + W.length ≤ T.length)
  | [], p, _, hp => ⟨rfl, fun _ => ⟨rfl, hp⟩⟩
  | c :: W, p, hW, hp => by
    have hc := hW c (List.mem_cons_self)
    rcases Nat.lt_or_ge p T.length with h | h
    · rw [drop_get h, ta, syq]
      by_cases e : lwr (T.getD p 0) = c
      · have ih := syq_ta W (p + 1) (fun c hc => hW c (List.mem_cons_of_mem _ hc)) h
        rw [if_pos (by rw [hc.2]; exact e), decide_eq_true e, Bool.true_and, List.length_cons, show p + (W.length + 1) = p + 1 + W.length by omega]
        exact ih
      · rw [if_neg (by rw [hc.2]; exact e), decide_eq_false e, Bool.false_and]
        exact ⟨rfl, fun z => by cases z⟩
    · rw [drop_end h, syq, T_out h, decide_eq_false (by intro z; have : lwr 0 = 0 := by decide
                                                        omega), Bool.false_and]
      exact ⟨rfl, fun z => by cases z⟩
set_option maxRecDepth 100000 in
set_option maxHeartbeats 4000000 in
theorem c_Mo_spec (l : Launch) (D : va_G) (tys : List (ClassId × FieldType)) (tc : Nat → ClassId) (hty : ∀ i : Nat, i < 4 → tys[i]? = some (tc i, vx_ty i)) (h : Nat) (ar : Nat → Nat) (now : Int64) (sc : Nat → Int32) (ai : Nat → Nat → Int32) (al : Nat → Nat → Int64) (F : Nat) (T : List Nat) (ps : Nat) (hM : mdS sc ai F T ps) (K : Nat) (hK : K < 96) (h20 : sc 20 = nI K) (hpl : ps ≤ T.length) : Kt l y_Mo_spec (yw y_Mo_spec b_Mo_spec 3 (some .boolean)) 3 63 0 0 D cls tys (fun _ _ _ => True) [.ref h] (mdW tc h ar now sc ai al) (fun r w => r = some (.int (bI (spc (T.drop ps)).isSome)) ∧ ∃ s2 a2 p2, w = mdW tc h ar now s2 a2 al ∧ hq sc s2 ∧ aq ai a2 ∧ s2 11 = sc 11 ∧ s2 12 = nI p2 ∧ p2 ≤ T.length ∧ ∀ u, spc (T.drop ps) = some u → T.drop p2 = u.2 ∧ s2 20 = nI (K + 1) ∧ a2 9 = upd (ai 9) K (iI u.1.1) ∧ a2 10 = upd (ai 10) K (iI u.1.2)) := by
  refine Kt.of ro_true (by decide) rfl hty (Nat.le_of_ble_eq_true rfl) ?_
  intro p e s m args below meth c0 A hC hr hlk hnm hF
  have hFt : vx_Ft y_Mo_spec.cls (yw y_Mo_spec b_Mo_spec 3 (some .boolean)) cls cty ft_Mo := ft_of (fun w h => List.mem_cons_of_mem _ h) fl_Mo_in ft_Mo_b
  have hini : false = true → meth.name = "<init>" := fun h => by cases h
  obtain ⟨hF8, h11, hlenT, htx, hT, h12, hps⟩ := id hM
  have hTl := hT.1
  obtain ⟨P1, hP1d⟩ : ∃ P1, pz T ps isDg = P1 := ⟨_, rfl⟩
  have hP1 : P1 ≤ T.length := by rw [← hP1d]; exact pz_lt hpl
  obtain ⟨oa, hoa⟩ : ∃ oa, nmv ((T.drop ps).takeWhile isDg) = oa := ⟨_, rfl⟩
  obtain ⟨b1, hb1⟩ : ∃ b1, decide (T.getD P1 0 = 45) = b1 := ⟨_, rfl⟩
  obtain ⟨Q1, hQ1d⟩ : ∃ Q1, (if T.getD P1 0 = 45 then P1 + 1 else P1) = Q1 := ⟨_, rfl⟩
  have hQ1 : Q1 ≤ T.length := by
    rw [← hQ1d]
    split
    · exact T_in (T := T) (k := P1) (by omega)
    · exact hP1
  obtain ⟨P2, hP2d⟩ : ∃ P2, pz T Q1 isDg = P2 := ⟨_, rfl⟩
  have hP2 : P2 ≤ T.length := by rw [← hP2d]; exact pz_lt hQ1
  obtain ⟨ob, hob⟩ : ∃ ob, nmv ((T.drop Q1).takeWhile isDg) = ob := ⟨_, rfl⟩
  have hsp : spc (T.drop ps) = if b1 = true then (if spOk oa ob = true then some ((oa, ob), T.drop P2) else none) else none := by
    have e1 : pk 45 ((T.drop ps).dropWhile isDg) = (b1, T.drop Q1) := by
      rw [← pz_dw, hP1d, pk_at (by decide), ← hb1, ← hQ1d]
      by_cases e : T.getD P1 0 = 45
      · rw [if_pos e, if_pos e, decide_eq_true e]
      · rw [if_neg e, if_neg e, decide_eq_false e]
    rw [spc, e1, hoa, show (b1, T.drop Q1).2 = T.drop Q1 from rfl, hob, ← pz_dw, hP2d]
  refine vx_go hC hFt hini (vx_ends hC hr hlk) jc_Mo_spec 0 (by decide) rfl ?_
  refine mo_call hC (c_Mo_many l D tys tc hty h ar now sc ai al F T ps hM) wm_Mo_many wl_Mo_302 wi_Mo_many ws_Mo_Mo_many ⟨by decide, by decide⟩ rfl rfl (Nat.le_of_ble_eq_true rfl) ⟨Nat.zero_le _, Nat.zero_le _⟩ (fun r' w1 hp => ?_)
  obtain ⟨rfl, rfl⟩ := hp
  rw [hoa, hP1d]
  refine mo_call hC (c_Mo_take l D tys tc hty h ar now (upd sc 12 (nI P1)) ai al F T P1 (hM.at (by omega)) 45 (by decide)) wm_Mo_take wl_Mo_153 wi_Mo_take ws_Mo_Mo_take ⟨by decide, by decide⟩ rfl rfl (Nat.le_of_ble_eq_true rfl) ⟨Nat.zero_le _, Nat.zero_le _⟩ (fun r' w1 hp => ?_)
  obtain ⟨rfl, rfl⟩ := hp
  rw [hb1, hQ1d]
  refine And.intro (fun c6 => ?_) (fun c6 => ?_)
  · skip
    have c6 : b1 = true := bI_ne c6
    refine vx_go hC hFt hini (vx_ends hC hr hlk) jc_Mo_spec 9 (by decide) rfl ?_
    refine mo_call hC (c_Mo_many l D tys tc hty h ar now (upd (upd sc 12 (nI P1)) 12 (nI Q1)) ai al F T Q1 ((hM.at (p2 := P1) (by omega)).at (p2 := Q1) (by omega))) wm_Mo_many wl_Mo_302 wi_Mo_many ws_Mo_Mo_many ⟨by decide, by decide⟩ rfl rfl (Nat.le_of_ble_eq_true rfl) ⟨Nat.zero_le _, Nat.zero_le _⟩ (fun r' w1 hp => ?_)
    obtain ⟨rfl, rfl⟩ := hp
    rw [hob, hP2d]
    refine And.intro (fun c13 => ?_) (fun c13 => ?_)
    · skip
      obtain ⟨x1, hx1⟩ : ∃ x1, oa = some x1 := by
        cases h9 : oa with
        | none => rw [h9] at c13; exact absurd c13 (by decide)
        | some z => exact ⟨z, rfl⟩
      have hx1b := nmv_le (hoa.trans hx1)
      refine vx_go hC hFt hini (vx_ends hC hr hlk) jc_Mo_spec 17 (by decide) rfl ?_
      refine And.intro (fun c18 => ?_) (fun c18 => ?_)
      · skip
        have hobn : ob = none := by
          cases h9 : ob with
          | none => rfl
          | some z => rw [h9] at c18; exact absurd c18 (nI_pos (by have := nmv_le (hob.trans h9); omega))
        have hyes : spOk oa ob = true := by rw [hx1, hobn]; rfl
        refine vx_go hC hFt hini (vx_ends hC hr hlk) jc_Mo_spec 24 (by decide) rfl ?_
        refine And.intro rfl ?_
        refine And.intro rfl ?_
        refine And.intro rfl (And.intro rfl (And.intro (show vp_in (sc 20) 96 by rw [h20]; exact vp_in_nI hK (by decide)) ?_))
        refine And.intro rfl ?_
        refine And.intro rfl ?_
        refine And.intro rfl (And.intro rfl (And.intro (show vp_in (sc 20) 96 by rw [h20]; exact vp_in_nI hK (by decide)) ?_))
        refine And.intro rfl ?_
        refine And.intro rfl ?_
        refine And.intro rfl (And.intro (And.intro rfl rfl) ?_)
        refine And.intro (rfl) (And.intro ?_ (And.intro (Nat.le_refl _) (Nat.le_refl _)))
        rw [show spc (T.drop ps) = some ((oa, ob), T.drop P2) by rw [hsp, if_pos c6, if_pos hyes]]
        refine ⟨rfl, upd (upd (upd (upd sc 12 (nI P1)) 12 (nI Q1)) 12 (nI P2)) 20 (sc 20 + 1), ap (ap ai 9 (upd (ai 9) (sc 20).toNatClampNeg (iI oa))) 10 (upd (ai 10) (sc 20).toNatClampNeg (iI ob)), P2, rfl, (((hq.refl.upd (k := 12) (by decide)).upd (k := 12) (by decide)).upd (k := 12) (by decide)).upd (by decide), (aq.refl.ap (Or.inl rfl)).ap (Or.inr rfl), rfl, (pk_un (by decide)).trans pk_us, hP2, fun u hu => ?_⟩
        obtain rfl := Option.some.inj hu
        refine ⟨rfl, ?_, ?_, ?_⟩
        · rw [← nI_1, ← h20]; exact pk_us
        · show upd (ai 9) (sc 20).toNatClampNeg (iI oa) = _
          rw [h20, nI_clamp (by omega)]
        · show upd (ai 10) (sc 20).toNatClampNeg (iI ob) = _
          rw [h20, nI_clamp (by omega)]
      · skip
        obtain ⟨x2, hx2⟩ : ∃ x2, ob = some x2 := by
          cases h9 : ob with
          | none => rw [h9] at c18; exact absurd (by decide) c18
          | some z => exact ⟨z, rfl⟩
        have hx2b := nmv_le (hob.trans hx2)
        refine And.intro (fun c21 => ?_) (fun c21 => ?_)
        · skip
          have hyes : spOk oa ob = true := by
            rw [hx1, hx2] at c21 ⊢
            exact decide_eq_true ((nI_leI (a := x1) (b := x2) (by omega) (by omega)).mp c21)
          refine vx_go hC hFt hini (vx_ends hC hr hlk) jc_Mo_spec 24 (by decide) rfl ?_
          refine And.intro rfl ?_
          refine And.intro rfl ?_
          refine And.intro rfl (And.intro rfl (And.intro (show vp_in (sc 20) 96 by rw [h20]; exact vp_in_nI hK (by decide)) ?_))
          refine And.intro rfl ?_
          refine And.intro rfl ?_
          refine And.intro rfl (And.intro rfl (And.intro (show vp_in (sc 20) 96 by rw [h20]; exact vp_in_nI hK (by decide)) ?_))
          refine And.intro rfl ?_
          refine And.intro rfl ?_
          refine And.intro rfl (And.intro (And.intro rfl rfl) ?_)
          refine And.intro (rfl) (And.intro ?_ (And.intro (Nat.le_refl _) (Nat.le_refl _)))
          rw [show spc (T.drop ps) = some ((oa, ob), T.drop P2) by rw [hsp, if_pos c6, if_pos hyes]]
          refine ⟨rfl, upd (upd (upd (upd sc 12 (nI P1)) 12 (nI Q1)) 12 (nI P2)) 20 (sc 20 + 1), ap (ap ai 9 (upd (ai 9) (sc 20).toNatClampNeg (iI oa))) 10 (upd (ai 10) (sc 20).toNatClampNeg (iI ob)), P2, rfl, (((hq.refl.upd (k := 12) (by decide)).upd (k := 12) (by decide)).upd (k := 12) (by decide)).upd (by decide), (aq.refl.ap (Or.inl rfl)).ap (Or.inr rfl), rfl, (pk_un (by decide)).trans pk_us, hP2, fun u hu => ?_⟩
          obtain rfl := Option.some.inj hu
          refine ⟨rfl, ?_, ?_, ?_⟩
          · rw [← nI_1, ← h20]; exact pk_us
          · show upd (ai 9) (sc 20).toNatClampNeg (iI oa) = _
            rw [h20, nI_clamp (by omega)]
          · show upd (ai 10) (sc 20).toNatClampNeg (iI ob) = _
            rw [h20, nI_clamp (by omega)]
        · skip
          have hno : spOk oa ob = false := by
            rw [hx1, hx2] at c21 ⊢
            exact decide_eq_false (fun z => c21 ((nI_leI (a := x1) (b := x2) (by omega) (by omega)).mpr z))
          refine And.intro (rfl) (And.intro ?_ (And.intro (Nat.le_refl _) (Nat.le_refl _)))
          rw [show spc (T.drop ps) = none by rw [hsp, if_pos c6, if_neg (by rw [hno]; exact fun z => by cases z)]]
          exact ⟨rfl, (upd (upd (upd sc 12 (nI P1)) 12 (nI Q1)) 12 (nI P2)), ai, P2, rfl, ((hq.refl.upd (k := 12) (by decide)).upd (k := 12) (by decide)).upd (by decide), aq.refl, rfl, pk_us, hP2, (fun u hu => by cases hu)⟩
    · skip
      have hoan : oa = none := by
        cases h9 : oa with
        | none => rfl
        | some z => rw [h9] at c13; exact absurd (nI_ge0 (by have := nmv_le (hoa.trans h9); omega)) c13
      refine And.intro (fun c15 => ?_) (fun c15 => ?_)
      · skip
        obtain ⟨x2, hx2⟩ : ∃ x2, ob = some x2 := by
          cases h9 : ob with
          | none => rw [h9] at c15; exact absurd c15 (by decide)
          | some z => exact ⟨z, rfl⟩
        have hx2b := nmv_le (hob.trans hx2)
        have hyes : spOk oa ob = true := by rw [hoan, hx2]; rfl
        refine vx_go hC hFt hini (vx_ends hC hr hlk) jc_Mo_spec 24 (by decide) rfl ?_
        refine And.intro rfl ?_
        refine And.intro rfl ?_
        refine And.intro rfl (And.intro rfl (And.intro (show vp_in (sc 20) 96 by rw [h20]; exact vp_in_nI hK (by decide)) ?_))
        refine And.intro rfl ?_
        refine And.intro rfl ?_
        refine And.intro rfl (And.intro rfl (And.intro (show vp_in (sc 20) 96 by rw [h20]; exact vp_in_nI hK (by decide)) ?_))
        refine And.intro rfl ?_
        refine And.intro rfl ?_
        refine And.intro rfl (And.intro (And.intro rfl rfl) ?_)
        refine And.intro (rfl) (And.intro ?_ (And.intro (Nat.le_refl _) (Nat.le_refl _)))
        rw [show spc (T.drop ps) = some ((oa, ob), T.drop P2) by rw [hsp, if_pos c6, if_pos hyes]]
        refine ⟨rfl, upd (upd (upd (upd sc 12 (nI P1)) 12 (nI Q1)) 12 (nI P2)) 20 (sc 20 + 1), ap (ap ai 9 (upd (ai 9) (sc 20).toNatClampNeg (iI oa))) 10 (upd (ai 10) (sc 20).toNatClampNeg (iI ob)), P2, rfl, (((hq.refl.upd (k := 12) (by decide)).upd (k := 12) (by decide)).upd (k := 12) (by decide)).upd (by decide), (aq.refl.ap (Or.inl rfl)).ap (Or.inr rfl), rfl, (pk_un (by decide)).trans pk_us, hP2, fun u hu => ?_⟩
        obtain rfl := Option.some.inj hu
        refine ⟨rfl, ?_, ?_, ?_⟩
        · rw [← nI_1, ← h20]; exact pk_us
        · show upd (ai 9) (sc 20).toNatClampNeg (iI oa) = _
          rw [h20, nI_clamp (by omega)]
        · show upd (ai 10) (sc 20).toNatClampNeg (iI ob) = _
          rw [h20, nI_clamp (by omega)]
      · skip
        have hobn : ob = none := by
          cases h9 : ob with
          | none => rfl
          | some z => rw [h9] at c15; exact absurd (nI_ge0 (by have := nmv_le (hob.trans h9); omega)) c15
        have hno : spOk oa ob = false := by rw [hoan, hobn]; rfl
        refine vx_go hC hFt hini (vx_ends hC hr hlk) jc_Mo_spec 22 (by decide) rfl ?_
        refine And.intro (rfl) (And.intro ?_ (And.intro (Nat.le_refl _) (Nat.le_refl _)))
        rw [show spc (T.drop ps) = none by rw [hsp, if_pos c6, if_neg (by rw [hno]; exact fun z => by cases z)]]
        exact ⟨rfl, (upd (upd (upd sc 12 (nI P1)) 12 (nI Q1)) 12 (nI P2)), ai, P2, rfl, ((hq.refl.upd (k := 12) (by decide)).upd (k := 12) (by decide)).upd (by decide), aq.refl, rfl, pk_us, hP2, (fun u hu => by cases hu)⟩
  · skip
    have c6 : b1 = false := bI_eq c6
    refine And.intro (rfl) (And.intro ?_ (And.intro (Nat.le_refl _) (Nat.le_refl _)))
    rw [show spc (T.drop ps) = none by rw [hsp, if_neg (fun z => by cases (c6.symm.trans z))]]
    exact ⟨rfl, upd (upd sc 12 (nI P1)) 12 (nI Q1), ai, Q1, rfl, (hq.refl.upd (k := 12) (by decide)).upd (by decide), aq.refl, rfl, pk_us, hQ1, (fun u hu => by cases hu)⟩
set_option maxRecDepth 100000 in
set_option maxHeartbeats 4000000 in
theorem c_Mo_ranges (l : Launch) (D : va_G) (tys : List (ClassId × FieldType)) (tc : Nat → ClassId) (hty : ∀ i : Nat, i < 4 → tys[i]? = some (tc i, vx_ty i)) (h : Nat) (ar : Nat → Nat) (now : Int64) (sc : Nat → Int32) (ai : Nat → Nat → Int32) (al : Nat → Nat → Int64) (T : List Nat) (hT : mdT ai 7 T) : Kt l y_Mo_ranges (yw y_Mo_ranges b_Mo_ranges 2 (some .boolean)) 4 85 0 0 D cls tys (fun _ _ _ => True) [.ref h] (mdW tc h ar now sc ai al) (fun r w => r = some (.int (bI (rngL T).isSome)) ∧ ∃ s2 a2, w = mdW tc h ar now s2 a2 al ∧ hq sc s2 ∧ aq ai a2 ∧ ∀ L, rngL T = some L → s2 20 = nI L.length ∧ L.length ≤ 96 ∧ spA a2 L) := by
  refine Kt.of ro_true (by decide) rfl hty (Nat.le_of_ble_eq_true rfl) ?_
  intro p e s m args below meth c0 A hC hr hlk hnm hF
  have hFt : vx_Ft y_Mo_ranges.cls (yw y_Mo_ranges b_Mo_ranges 2 (some .boolean)) cls cty ft_Mo := ft_of (fun w h => List.mem_cons_of_mem _ h) fl_Mo_in ft_Mo_b
  have hini : false = true → meth.name = "<init>" := fun h => by cases h
  have hTl := hT.2.2.2.1
  obtain ⟨P0, hP0⟩ : ∃ P0, pz T 0 isGp = P0 := ⟨_, rfl⟩
  have hP0l : P0 ≤ T.length := by rw [← hP0]; exact pz_lt (Nat.zero_le _)
  have hgpT : gp T = T.drop P0 := by rw [← hP0]; exact gp_at (ps := 0)
  refine vx_cut (α := (Nat × (Nat → Int32))) 54 (fun u => hq sc u.2 ∧ u.2 11 = nI 7 ∧ u.2 12 = nI (P0 + 5 + 1) ∧ u.2 20 = 0 ∧ rngL T = rgG 97 [] (T.drop (P0 + 5 + 1)) ∧ P0 + 5 < T.length) (fun u => [(0, .ref h), (1, .int (bI true))]) (fun u => []) (fun u => mdW tc h ar now u.2 ai al) (fun hJ30 => ?_) ?_
  · skip
    refine vx_gon hC hFt hini (vx_ends hC hr hlk) jc_Mo_ranges 0 22 (by decide) rfl ?_
    refine mo_call hC (c_Mo_open l D tys tc hty h ar now sc ai al 7) wm_Mo_open wl_Mo_199 wi_Mo_open ws_Mo_Mo_open ⟨by decide, by decide⟩ rfl rfl (Nat.le_of_ble_eq_true rfl) ⟨Nat.zero_le _, Nat.zero_le _⟩ (fun r' w1 hp => ?_)
    obtain ⟨rfl, rfl⟩ := hp
    refine And.intro rfl (And.intro (And.intro rfl rfl) ?_)
    refine mo_call hC (c_Mo_gap l D tys tc hty h ar now (upd (upd (upd sc 11 (nI 7)) 12 (nI 0)) 20 0) ai al 7 T 0 (hT.opn.ot (k := 20) (by decide) (by decide))) wm_Mo_gap wl_Mo_156 wi_Mo_gap ws_Mo_Mo_gap ⟨by decide, by decide⟩ rfl rfl (Nat.le_of_ble_eq_true rfl) ⟨Nat.zero_le _, Nat.zero_le _⟩ (fun r' w1 hp => ?_)
    obtain ⟨rfl, rfl⟩ := hp
    rw [hP0]
    refine And.intro rfl ?_
    refine And.intro (Or.inr (Or.inl ⟨_, rfl, hC.2.2.2.2.1 _ (List.mem_cons_of_mem _ wc_Mo_308)⟩)) ?_
    refine mo_call hC (c_Mo_says l D tys tc hty h ar now (upd (upd (upd (upd sc 11 (nI 7)) 12 (nI 0)) 20 0) 12 (nI P0)) ai al 7 T P0 ((hT.opn.ot (k := 20) (by decide) (by decide)).at (by omega)) _ bytL iw_bytes P0 (by omega)) wm_Mo_says wl_Mo_142 wi_Mo_says ws_Mo_Mo_says ⟨by decide, by decide⟩ rfl rfl (Nat.le_of_ble_eq_true rfl) ⟨Nat.zero_le _, Nat.zero_le _⟩ (fun r' w1 hp => ?_)
    obtain ⟨rfl, rfl⟩ := hp
    refine And.intro (fun c13 => ?_) (fun c13 => ?_)
    · skip
      have c13 : syq T P0 bytL = true := bI_ne c13
      obtain ⟨ht1, ht2⟩ := syq_ta (T := T) bytL P0 (by decide) hP0l
      have ht2 := ht2 c13
      rw [c13] at ht1
      have hta : (ta bytL (T.drop P0)).1 = true ∧ (ta bytL (T.drop P0)).2 = T.drop (P0 + 5) := ⟨ht1, ht2.1⟩
      have hl5 : P0 + 5 ≤ T.length := ht2.2
      refine vx_gon hC hFt hini (vx_ends hC hr hlk) jc_Mo_ranges 16 6 (by decide) rfl ?_
      refine And.intro rfl ?_
      refine And.intro rfl ?_
      refine And.intro rfl (And.intro (And.intro rfl rfl) ?_)
      refine Vx.eqs rfl rfl rfl (show _ = mdW tc h ar now (upd (upd (upd (upd (upd sc 11 (nI 7)) 12 (nI 0)) 20 0) 12 (nI P0)) 12 (nI P0 + nI 5)) ai al from rfl) ?_
      rw [nI_add]
      refine vx_gon hC hFt hini (vx_ends hC hr hlk) jc_Mo_ranges 22 8 (by decide) rfl ?_
      refine mo_call hC (c_Mo_take l D tys tc hty h ar now (upd (upd (upd (upd (upd sc 11 (nI 7)) 12 (nI 0)) 20 0) 12 (nI P0)) 12 (nI (P0 + 5))) ai al 7 T (P0 + 5) (((hT.opn.ot (k := 20) (by decide) (by decide)).at (p2 := P0) (by omega)).at (by omega)) 61 (by decide)) wm_Mo_take wl_Mo_153 wi_Mo_take ws_Mo_Mo_take ⟨by decide, by decide⟩ rfl rfl (Nat.le_of_ble_eq_true rfl) ⟨Nat.zero_le _, Nat.zero_le _⟩ (fun r' w1 hp => ?_)
      obtain ⟨rfl, rfl⟩ := hp
      refine And.intro (fun c25 => ?_) (fun c25 => ?_)
      · skip
        have c25 : T.getD (P0 + 5) 0 = 61 := of_decide_eq_true (bI_ne c25)
        rw [if_pos c25]
        have hin := T_in (T := T) (k := P0 + 5) (by omega)
        refine vx_gon hC hFt hini (vx_ends hC hr hlk) jc_Mo_ranges 28 2 (by decide) rfl ?_
        refine Vx.subL (lv' := [(0, .ref h), (1, .int (bI true))]) [1, 0] rfl ?_
        exact hJ30 (P0, upd (upd (upd (upd (upd (upd sc 11 (nI 7)) 12 (nI 0)) 20 0) 12 (nI P0)) 12 (nI (P0 + 5))) 12 (nI (P0 + 5 + 1))) ⟨(((((hq.refl.upd (k := 11) (by decide)).upd (k := 12) (by decide)).upd (k := 20) (by decide)).upd (k := 12) (by decide)).upd (k := 12) (by decide)).upd (k := 12) (by decide), rfl, rfl, rfl, by rw [rngL, hgpT, hta.1, if_pos rfl, hta.2, pk_at (by decide), if_pos c25, if_pos rfl], hin⟩
      · skip
        have c25 : ¬ T.getD (P0 + 5) 0 = 61 := of_decide_eq_false (bI_eq c25)
        rw [if_neg c25]
        refine And.intro (rfl) (And.intro ?_ (And.intro (Nat.le_refl _) (Nat.le_refl _)))
        rw [show rngL T = none by rw [rngL, hgpT, hta.1, if_pos rfl, hta.2, pk_at (by decide), if_neg c25, if_neg (fun z => by cases z)]]
        exact ⟨rfl, _, ai, rfl, (((((hq.refl.upd (k := 11) (by decide)).upd (k := 12) (by decide)).upd (k := 20) (by decide)).upd (k := 12) (by decide)).upd (k := 12) (by decide)).upd (k := 12) (by decide), aq.refl, (fun L hL => by cases hL)⟩
    · skip
      have c13 : syq T P0 bytL = false := bI_eq c13
      refine And.intro (rfl) (And.intro ?_ (And.intro (Nat.le_refl _) (Nat.le_refl _)))
      rw [show rngL T = none by rw [rngL, hgpT, (syq_ta bytL P0 (by decide) hP0l).1, if_neg (by rw [c13]; exact fun z => by cases z)]]
      exact ⟨rfl, _, ai, rfl, ((((hq.refl.upd (k := 11) (by decide)).upd (k := 12) (by decide)).upd (k := 20) (by decide)).upd (k := 12) (by decide)), aq.refl, (fun L hL => by cases hL)⟩
  · skip
    rintro ⟨_, s4⟩ ⟨hg4, h411, h412, h420, hr9, hl9⟩
    replace hg4 : hq sc s4 := hg4
    replace h411 : s4 11 = nI 7 := h411
    replace h412 : s4 12 = nI (P0 + 5 + 1) := h412
    replace h420 : s4 20 = 0 := h420
    obtain ⟨RES, hRES⟩ : ∃ RES, rngL T = RES := ⟨_, rfl⟩
    rw [hRES]
    obtain ⟨pp, hpp⟩ : ∃ pp, pp = P0 + 5 + 1 := ⟨_, rfl⟩
    obtain ⟨A, hA⟩ : ∃ A : List (Option Nat × Option Nat), A = [] := ⟨_, rfl⟩
    obtain ⟨a4, ha40⟩ : ∃ a4, a4 = ai := ⟨_, rfl⟩
    obtain ⟨mo, hmo0⟩ : ∃ mo : Bool, mo = true := ⟨_, rfl⟩
    obtain ⟨n, hn⟩ : ∃ n : Nat, n = 97 := ⟨_, rfl⟩
    refine Vx.eqs rfl (lv2 := [(0, .ref h), (1, .int (bI mo))]) (by rw [hmo0]) rfl (w2 := mdW tc h ar now s4 a4 al) (by rw [ha40]) ?_
    rw [← hpp] at h412
    replace h420 : s4 20 = nI A.length := by rw [h420, hA]; rfl
    have ha4 : aq ai a4 := by rw [ha40]; exact aq.refl
    have hpl : pp ≤ T.length := by omega
    have hres : rgG n A (T.drop pp) = RES := by rw [hn, hA, hpp, ← hRES, hr9]
    have hsA : spA a4 A := by rw [hA]; exact fun i u hu => by simp at hu
    have hfu : T.length - pp < n := by omega
    have hmo : mo = false → gc (T.drop pp) = [] := fun z => by rw [hmo0] at z; cases z
    have hel : A.length + (T.length - pp) ≤ 95 := by rw [hA, List.length_nil]; omega
    clear hpp hA ha40 hmo0 hn hRES hr9 hl9
    induction n generalizing s4 pp A a4 mo with
    | zero => omega
    | succ n ih =>
      have hT4 := hT.aq ha4
      have hM4 : mdS s4 a4 7 T pp := ⟨hT4.1, h411, hT4.2.1, hT4.2.2.1, hT4.2.2.2, h412, by omega⟩
      have hQ9 := pz_ge (T := T) (a := pp) (q := isGc)
      have hQ8 := pz_lt (T := T) (a := pp) (q := isGc) hpl
      refine vx_go hC hFt hini (vx_ends hC hr hlk) jc_Mo_ranges 30 (by decide) rfl ?_
      refine And.intro (fun c32 => ?_) (fun c32 => ?_)
      · skip
        have hmo9 : mo = false := by cases mo with
          | false => rfl
          | true => exact absurd rfl c32
        subst hmo9
        refine vx_go hC hFt hini (vx_ends hC hr hlk) jc_Mo_ranges 48 (by decide) rfl ?_
        refine And.intro rfl ?_
        refine And.intro (fun c50 => ?_) (fun c50 => ?_)
        · skip
          have c50 : A = [] := List.eq_nil_of_length_eq_zero (Nat.eq_zero_of_not_pos (fun z => absurd (show nI A.length ≤ 0 by rw [← h420]; exact c50) (nI_nle z (by omega))))
          refine vx_go hC hFt hini (vx_ends hC hr hlk) jc_Mo_ranges 53 (by decide) rfl ?_
          refine And.intro (rfl) (And.intro ?_ (And.intro (Nat.le_refl _) (Nat.le_refl _)))
          rw [rgG, if_pos (hmo rfl), if_pos c50] at hres
          subst hres
          exact ⟨rfl, s4, a4, rfl, hg4, ha4, (fun L hL => by cases hL)⟩
        · skip
          have c50 : ¬ A = [] := fun z => c50 (show s4 20 ≤ 0 by rw [h420, z]; exact nI_le (Nat.le_refl 0) (by decide))
          refine vx_go hC hFt hini (vx_ends hC hr hlk) jc_Mo_ranges 54 (by decide) rfl ?_
          refine And.intro (rfl) (And.intro ?_ (And.intro (Nat.le_refl _) (Nat.le_refl _)))
          rw [rgG, if_pos (hmo rfl), if_neg c50] at hres
          subst hres
          exact ⟨rfl, s4, a4, rfl, hg4, ha4, (fun L hL => by obtain rfl := Option.some.inj hL; exact ⟨h420, by omega, hsA⟩)⟩
      · skip
        have hmo9 : mo = true := by cases mo with
          | true => rfl
          | false => exact absurd c32 (by decide)
        subst hmo9
        refine mo_call hC (c_Mo_element l D tys tc hty h ar now s4 a4 al 7 T pp hM4) wm_Mo_element wl_Mo_203 wi_Mo_element ws_Mo_Mo_element ⟨by decide, by decide⟩ rfl rfl (Nat.le_of_ble_eq_true rfl) ⟨Nat.zero_le _, Nat.zero_le _⟩ (fun r' w1 hp => ?_)
        obtain ⟨rfl, rfl⟩ := hp
        refine And.intro (fun c35 => ?_) (fun c35 => ?_)
        · skip
          have c35 : gc (T.drop pp) = [] := by rw [gc_at]; exact drop_end (Nat.le_of_not_lt (of_decide_eq_false (bI_eq c35)))
          refine vx_go hC hFt hini (vx_ends hC hr hlk) jc_Mo_ranges 48 (by decide) rfl ?_
          refine And.intro rfl ?_
          refine And.intro (fun c50 => ?_) (fun c50 => ?_)
          · skip
            have c50 : A = [] := List.eq_nil_of_length_eq_zero (Nat.eq_zero_of_not_pos (fun z => absurd (show nI A.length ≤ 0 by rw [← h420]; exact c50) (nI_nle z (by omega))))
            refine vx_go hC hFt hini (vx_ends hC hr hlk) jc_Mo_ranges 53 (by decide) rfl ?_
            refine And.intro (rfl) (And.intro ?_ (And.intro (Nat.le_refl _) (Nat.le_refl _)))
            rw [rgG, if_pos (c35), if_pos c50] at hres
            subst hres
            exact ⟨rfl, (upd s4 12 (nI (pz T pp isGc))), a4, rfl, (hg4.upd (by decide)), ha4, (fun L hL => by cases hL)⟩
          · skip
            have c50 : ¬ A = [] := fun z => c50 (show s4 20 ≤ 0 by rw [h420, z]; exact nI_le (Nat.le_refl 0) (by decide))
            refine vx_go hC hFt hini (vx_ends hC hr hlk) jc_Mo_ranges 54 (by decide) rfl ?_
            refine And.intro (rfl) (And.intro ?_ (And.intro (Nat.le_refl _) (Nat.le_refl _)))
            rw [rgG, if_pos (c35), if_neg c50] at hres
            subst hres
            exact ⟨rfl, (upd s4 12 (nI (pz T pp isGc))), a4, rfl, (hg4.upd (by decide)), ha4, (fun L hL => by obtain rfl := Option.some.inj hL; exact ⟨h420, by omega, hsA⟩)⟩
        · skip
          have c35b : (pz T pp isGc) < T.length := of_decide_eq_true (bI_ne c35)
          have c35 : ¬ gc (T.drop pp) = [] := by rw [gc_at, drop_get c35b]; exact List.cons_ne_nil _ _
          refine mo_call hC (c_Mo_spec l D tys tc hty h ar now (upd s4 12 (nI (pz T pp isGc))) a4 al 7 T (pz T pp isGc) (hM4.at (by omega)) A.length (by omega) ((pk_un (by decide)).trans h420) (by omega)) wm_Mo_spec wl_Mo_310 wi_Mo_spec ws_Mo_Mo_spec ⟨by decide, by decide⟩ rfl rfl (Nat.le_of_ble_eq_true rfl) ⟨Nat.zero_le _, Nat.zero_le _⟩ (fun r' w1 hp => ?_)
          obtain ⟨rfl, s5, a5, p5, rfl, hg5, ha5, h511, h512, hp5l, hx5⟩ := hp
          replace h511 : s5 11 = nI 7 := h511.trans ((pk_un (by decide)).trans h411)
          refine And.intro (fun c38 => ?_) (fun c38 => ?_)
          · skip
            obtain ⟨u, hu⟩ : ∃ u, spc (T.drop (pz T pp isGc)) = some u := by
              cases h9 : spc (T.drop (pz T pp isGc)) with
              | none => rw [h9] at c38; exact absurd rfl c38
              | some u => exact ⟨u, rfl⟩
            have hx5 := hx5 u hu
            have hT5 := hT4.aq ha5
            have hM5 : mdS s5 a5 7 T p5 := ⟨hT5.1, h511, hT5.2.1, hT5.2.2.1, hT5.2.2.2, h512, by omega⟩
            refine vx_go hC hFt hini (vx_ends hC hr hlk) jc_Mo_ranges 41 (by decide) rfl ?_
            refine mo_call hC (c_Mo_separator l D tys tc hty h ar now s5 a5 al 7 T p5 hM5) wm_Mo_separator wl_Mo_209 wi_Mo_separator ws_Mo_Mo_separator ⟨by decide, by decide⟩ rfl rfl (Nat.le_of_ble_eq_true rfl) ⟨Nat.zero_le _, Nat.zero_le _⟩ (fun r' w1 hp => ?_)
            obtain ⟨rfl, rfl⟩ := hp
            refine And.intro (fun c45 => ?_) (fun c45 => ?_)
            · skip
              refine Vx.subL (lv' := [(0, .ref h), (1, .int (sepv T (pz T p5 isGp)))]) [1, 0] rfl ?_
              obtain ⟨hee, mo2, hm1, hm2, hm3, hm4, hm5⟩ := sep_yes c45
              refine Vx.eqs rfl (lv2 := [(0, .ref h), (1, .int (bI mo2))]) (by rw [hm1]) rfl rfl ?_
              have hln := spc_len hu
              rw [List.length_drop, ← hx5.1, List.length_drop] at hln
              have hP2 := pz_lt (T := T) (a := p5) (q := isGp) hp5l
              have hP3 := pz_ge (T := T) (a := p5) (q := isGp)
              exact ih (upd s5 12 (nI (if T.getD (pz T p5 isGp) 0 = 44 then pz T p5 isGp + 1 else pz T p5 isGp))) (((hg4.upd (by decide)).trans hg5).upd (by decide)) ((pk_un (by decide)).trans h511) (if T.getD (pz T p5 isGp) 0 = 44 then pz T p5 isGp + 1 else pz T p5 isGp) pk_us (A ++ [u.1]) a5 mo2 ((pk_un (by decide)).trans (hx5.2.1.trans (by rw [List.length_append]; rfl))) (ha4.trans ha5) (hm4 hP2) (by rw [rgG_gc hm3, ← hres, rgG, if_neg c35, gc_at, hu]; show _ = (if ee (gp u.2) = true then rgG n (A ++ [u.1]) (gp u.2) else none); rw [← hx5.1, gp_at, if_pos hee]) (spA_add hsA hx5.2.2.1 hx5.2.2.2) (by omega) (fun z => by rw [hm3]; exact hm2 z) (by rw [List.length_append, List.length_singleton]; omega)
            · skip
              refine And.intro (rfl) (And.intro ?_ (And.intro (Nat.le_refl _) (Nat.le_refl _)))
              rw [rgG, if_neg c35, gc_at, hu] at hres
              replace hres : (if ee (gp u.2) = true then rgG n (A ++ [u.1]) (gp u.2) else none) = RES := hres
              rw [← hx5.1, if_neg (by rw [gp_at, sep_no c45]; decide)] at hres
              subst hres
              exact ⟨rfl, upd s5 12 (nI (if T.getD (pz T p5 isGp) 0 = 44 then pz T p5 isGp + 1 else pz T p5 isGp)), a5, rfl, ((hg4.upd (by decide)).trans hg5).upd (by decide), ha4.trans ha5, (fun L hL => by cases hL)⟩
          · skip
            have c38 : spc (T.drop (pz T pp isGc)) = none := by
              cases h9 : spc (T.drop (pz T pp isGc)) with
              | none => rfl
              | some u => rw [h9] at c38; exact absurd c38 (show ¬ bI true = 0 by decide)
            refine And.intro (rfl) (And.intro ?_ (And.intro (Nat.le_refl _) (Nat.le_refl _)))
            rw [rgG, if_neg c35, gc_at, c38] at hres
            subst hres
            exact ⟨rfl, s5, a5, rfl, (hg4.upd (by decide)).trans hg5, ha4.trans ha5, (fun L hL => by cases hL)⟩
