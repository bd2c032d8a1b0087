/-! THE REFERENCE: what the answer shows, by program (wip/whole/gen/p54.py) -/
theorem dcl_f : ∀ (k n : Nat), n < 10 ^ (k + 1) → dcl k n = dcl (k + 1) n
  | 0, n, h => by rw [dcl, dcl, if_pos (by simpa using h), Nat.mod_eq_of_lt (by simpa using h)]
  | k + 1, n, h => by
    rw [dcl, dcl]
    by_cases e : n < 10
    · rw [if_pos e, if_pos e]
    · rw [if_neg e, if_neg e, dcl_f k (n / 10) (by rw [Nat.pow_succ] at h; omega)]
theorem dec_lo {n : Nat} (h : n < 10) : dec n = [48 + n] := by rw [dec, dcl, if_pos h]
theorem dec_hi {n : Nat} (h : 10 ≤ n) (h2 : n < 2 ^ 31) : dec n = dec (n / 10) ++ [48 + n % 10] := by
  rw [dec, dcl, if_neg (by omega), dcl_f 9 (n / 10) (by omega)]; rfl
def dgl (n : Nat) : Nat := if n = 0 then 0 else (dec n).length
theorem dgl_s {n : Nat} (h : n < 2 ^ 31) : (dec n).length = 1 + dgl (n / 10) := by
  unfold dgl
  by_cases e : n < 10
  · rw [dec_lo e, if_pos (by omega)]; rfl
  · rw [dec_hi (by omega) h, if_neg (by omega), List.length_append]; exact Nat.add_comm _ _
theorem dec_le {n : Nat} (h : n < 1000000) : 1 ≤ (dec n).length ∧ (dec n).length ≤ 6 := by
  have s1 := dgl_s (n := n) (by omega)
  refine ⟨by omega, ?_⟩
  have key : ∀ (k m : Nat), m < 10 ^ k → m < 2 ^ 31 → dgl m ≤ k := by
    intro k
    induction k with
    | zero => intro m hm _; unfold dgl; rw [if_pos (by omega)]; exact Nat.le_refl _
    | succ k ih =>
      intro m hm h31
      unfold dgl
      by_cases e : m = 0
      · rw [if_pos e]; omega
      · rw [if_neg e, dgl_s h31]
        have := ih (m / 10) (by rw [Nat.pow_succ] at hm; omega) (by omega)
        omega
  have := key 5 (n / 10) (by omega) (by omega)
  omega
theorem gd_app {A B : List Nat} {i : Nat} : (A ++ B).getD i 0 = if i < A.length then A.getD i 0 else B.getD (i - A.length) 0 := by
  rw [List.getD_eq_getElem?_getD, List.getD_eq_getElem?_getD, List.getD_eq_getElem?_getD]
  by_cases e : i < A.length
  · rw [if_pos e, List.getElem?_append_left e]
  · rw [if_neg e, List.getElem?_append_right (by omega)]
/-- the byte j of representation num -/
def bt (num j : Nat) : Nat := (7 * j + 13 * num + 1) % 251
def hd15 : List Nat := [45, 45, 80, 65, 82, 84, 13, 10, 82, 97, 110, 103, 101, 58, 32]
def fgr (sz : Nat) (u : Nat × Nat) : List Nat := dec u.1 ++ (45 :: (dec u.2 ++ (47 :: dec sz)))
def hdg (sz : Nat) (u : Nat × Nat) : List Nat := hd15 ++ (fgr sz u ++ [13, 10, 13, 10])
def hln (sz : Nat) (u : Nat × Nat) : Nat := 15 + (dec u.1).length + 1 + (dec u.2).length + 1 + (dec sz).length + 4
theorem fgr_len {sz : Nat} {u : Nat × Nat} : (fgr sz u).length + 19 = hln sz u := by
  unfold fgr hln
  simp only [List.length_append, List.length_cons]
  omega
theorem hdg_len {sz : Nat} {u : Nat × Nat} : (hdg sz u).length = hln sz u := by
  unfold hdg
  rw [List.length_append, List.length_append, ← fgr_len]
  show 15 + ((fgr sz u).length + 4) = _
  omega
def psz (sz : Nat) (u : Nat × Nat) : Nat := hln sz u + (u.2 - u.1 + 1) + 2
/-- byte i of a part -/
def pbS (sz num : Nat) (u : Nat × Nat) (i : Nat) : Nat := if i < hln sz u then (hdg sz u).getD i 0 else if i - hln sz u < u.2 - u.1 + 1 then bt num (u.1 + (i - hln sz u)) else [13, 10].getD (i - hln sz u - (u.2 - u.1 + 1)) 0
def bhp : List Nat := [45, 45, 80, 65, 82, 84, 45, 45, 13, 10]
def bwk (sz num : Nat) : List (Nat × Nat) → Nat → Nat
  | [], i => bhp.getD i 0
  | u :: pa, i => if i < psz sz u then pbS sz num u i else bwk sz num pa (i - psz sz u)
def lnS (st : Int32) (an : Option (Nat × Nat)) (pa : List (Nat × Nat)) : Nat := match an with
  | none => 0
  | some u => if st = 200 then u.2 else match pa with
    | [] => 0
    | [v] => v.2 - v.1 + 1
    | pa => 10 + (pa.map (psz u.2)).sum
def bdV (st : Int32) (u : Nat × Nat) (pa : List (Nat × Nat)) (n : Nat) : Int32 := if st = 200 then nI (bt u.1 n) else match pa with
  | [] => -1
  | [v] => nI (bt u.1 (v.1 + n))
  | pa => nI (bwk u.2 u.1 pa n)
/-- the body's byte i -/
def bdS (st : Int32) (an : Option (Nat × Nat)) (ho : Bool) (pa : List (Nat × Nat)) (i : Int32) : Int32 := if i < 0 then -1 else if lnS st an pa ≤ i.toNatClampNeg then -1 else if ho = true then -1 else match an with
  | none => -1
  | some u => bdV st u pa i.toNatClampNeg
theorem i_nat {i : Int32} (h : ¬ i < 0) : i = nI i.toNatClampNeg ∧ i.toNatClampNeg < 2 ^ 31 := by
  have h1 := Int32.not_lt.mp h
  have h2 : (0 : Int) ≤ i.toInt := by
    have := Int32.le_iff_toInt_le.mp h1
    simpa using this
  have h3 : i.toInt < 2 ^ 31 := Int32.toInt_lt i
  have h4 : i.toNatClampNeg = i.toInt.toNat := rfl
  refine ⟨?_, by omega⟩
  apply Int32.toInt_inj.mp
  rw [nI_toInt (by omega), h4]
  omega
theorem pa_get {pa : List (Nat × Nat)} {k : Nat} (h : k < pa.length) : pa[k]? = some (pa.getD k (0, 0)) := by
  rw [List.getD_eq_getElem?_getD, List.getElem?_eq_getElem h]; rfl
theorem iw_hd1 : isWd 724327827336342829 [45, 45, 80, 65, 82, 84, 13, 10] := by refine ⟨by decide, ?_, ?_⟩ <;> decide
theorem iw_hd2 : isWd 9071406456136018 [82, 97, 110, 103, 101, 58, 32] := by refine ⟨by decide, ?_, ?_⟩ <;> decide
theorem iw_bhp : isWd 3255350817918561581 [45, 45, 80, 65, 82, 84, 45, 45] := by refine ⟨by decide, ?_, ?_⟩ <;> decide
theorem crl {j : Nat} : (if j % 2 = 0 then 13 else 10) = [13, 10].getD (j % 2) 0 := by
  rcases Nat.mod_two_eq_zero_or_one j with h | h <;> rw [h] <;> rfl
theorem mod2 {a : Nat} (h : a < 2 ^ 31) : nI a - nI a / (2 : Int32) * (2 : Int32) = nI (a % 2) := pk_rem h (by decide) (by decide)
theorem mod251 {a : Nat} (h : a < 2 ^ 31) : nI a - nI a / (251 : Int32) * (251 : Int32) = nI (a % 251) := pk_rem h (by decide) (by decide)
set_option maxRecDepth 100000 in
set_option maxHeartbeats 4000000 in
theorem c_Mo_status (l : Launch) (D : va_G) (tys : List (ClassId × FieldType)) (tc : Nat → ClassId) (hty : ∀ i : Nat, i < 4 → tys[i]? = some (tc i, vx_ty i)) (h : Nat) (ar : Nat → Nat) (now : Int64) (sc : Nat → Int32) (ai : Nat → Nat → Int32) (al : Nat → Nat → Int64) (st : Int32) (an : Option (Nat × Nat)) (ho : Bool) (pa : List (Nat × Nat)) (hA : mdA sc ai st an ho pa) : Kt l y_Mo_status (yw y_Mo_status b_Mo_status 1 (some .int)) 0 0 0 0 D cls tys (fun _ _ _ => True) [.ref h] (mdW tc h ar now sc ai al) (fun r w => r = some (.int st) ∧ w = (mdW tc h ar now sc ai al)) := by
  refine Kt.of ro_true (by decide) rfl hty (Nat.le_of_ble_eq_true rfl) ?_
  intro p e s m args below meth c0 A hC hr hlk hnm hF
  have hFt : vx_Ft y_Mo_status.cls (yw y_Mo_status b_Mo_status 1 (some .int)) cls cty ft_Mo := ft_of (fun w h => List.mem_cons_of_mem _ h) fl_Mo_in ft_Mo_b
  have hini : false = true → meth.name = "<init>" := fun h => by cases h
  obtain ⟨h23, h24, h25, h26, h27, hpa⟩ := id hA
  have hp4 := hpa.1
  refine vx_go hC hFt hini (vx_ends hC hr hlk) jc_Mo_status 0 (by decide) rfl ?_
  refine And.intro rfl ?_
  refine And.intro (trivial) (And.intro ?_ (And.intro (Nat.le_refl _) (Nat.le_refl _)))
  exact And.intro (by rw [h23]) rfl
set_option maxRecDepth 100000 in
set_option maxHeartbeats 4000000 in
theorem c_Mo_chosen (l : Launch) (D : va_G) (tys : List (ClassId × FieldType)) (tc : Nat → ClassId) (hty : ∀ i : Nat, i < 4 → tys[i]? = some (tc i, vx_ty i)) (h : Nat) (ar : Nat → Nat) (now : Int64) (sc : Nat → Int32) (ai : Nat → Nat → Int32) (al : Nat → Nat → Int64) (st : Int32) (an : Option (Nat × Nat)) (ho : Bool) (pa : List (Nat × Nat)) (hA : mdA sc ai st an ho pa) : Kt l y_Mo_chosen (yw y_Mo_chosen b_Mo_chosen 1 (some .int)) 0 0 0 0 D cls tys (fun _ _ _ => True) [.ref h] (mdW tc h ar now sc ai al) (fun r w => r = some (.int (iI (an.map Prod.fst))) ∧ w = (mdW tc h ar now sc ai al)) := by
  refine Kt.of ro_true (by decide) rfl hty (Nat.le_of_ble_eq_true rfl) ?_
  intro p e s m args below meth c0 A hC hr hlk hnm hF
  have hFt : vx_Ft y_Mo_chosen.cls (yw y_Mo_chosen b_Mo_chosen 1 (some .int)) cls cty ft_Mo := ft_of (fun w h => List.mem_cons_of_mem _ h) fl_Mo_in ft_Mo_b
  have hini : false = true → meth.name = "<init>" := fun h => by cases h
  obtain ⟨h23, h24, h25, h26, h27, hpa⟩ := id hA
  have hp4 := hpa.1
  refine vx_go hC hFt hini (vx_ends hC hr hlk) jc_Mo_chosen 0 (by decide) rfl ?_
  refine And.intro rfl ?_
  refine And.intro (trivial) (And.intro ?_ (And.intro (Nat.le_refl _) (Nat.le_refl _)))
  exact And.intro (by rw [h24]) rfl
set_option maxRecDepth 100000 in
set_option maxHeartbeats 4000000 in
theorem c_Mo_digitsOf (l : Launch) (D : va_G) (tys : List (ClassId × FieldType)) (tc : Nat → ClassId) (hty : ∀ i : Nat, i < 4 → tys[i]? = some (tc i, vx_ty i)) (v : Nat) (hv : v < 2 ^ 31) : Kt l y_Mo_digitsOf (yw y_Mo_digitsOf b_Mo_digitsOf 3 (some .int)) 0 0 0 0 D cls tys (fun _ _ _ => True) [.int (nI v)] [] (fun r w => r = some (.int (nI (dec v).length)) ∧ w = []) := by
  refine Kt.of ro_true (by decide) rfl hty (Nat.le_of_ble_eq_true rfl) ?_
  intro p e s m args below meth c0 A hC hr hlk hnm hF
  have hFt : vx_Ft y_Mo_digitsOf.cls (yw y_Mo_digitsOf b_Mo_digitsOf 3 (some .int)) cls cty [] := (fun q h => by cases h)
  have hini : false = true → meth.name = "<init>" := fun h => by cases h
  refine vx_gon hC hFt hini (vx_ends hC hr hlk) jc_Mo_digitsOf 0 6 (by decide) rfl ?_
  refine And.intro (by decide) ?_
  refine Vx.subL (lv' := [(0, .int (nI v)), (1, .int (nI 1)), (2, .int (nI v / (10 : Int32)))]) [2, 1, 0] rfl ?_
  rw [div10 hv]
  obtain ⟨n, hn0⟩ : ∃ n : Nat, n = 1 := ⟨_, rfl⟩
  obtain ⟨q, hq0⟩ : ∃ q : Nat, q = v / 10 := ⟨_, rfl⟩
  refine Vx.eqs rfl (lv2 := [(0, .int (nI v)), (1, .int (nI n)), (2, .int (nI q))]) (by rw [hn0, hq0]) rfl rfl ?_
  have hinv : n + dgl q = (dec v).length := by rw [hn0, hq0]; exact (dgl_s hv).symm
  have hql : q < 2 ^ 31 := by omega
  clear hn0 hq0
  induction q using Nat.strongRecOn generalizing n with
  | _ q ih =>
    refine vx_go hC hFt hini (vx_ends hC hr hlk) jc_Mo_digitsOf 6 (by decide) rfl ?_
    refine And.intro (fun c7 => ?_) (fun c7 => ?_)
    · skip
      have c7 : q = 0 := Nat.eq_zero_of_not_pos (fun z => absurd c7 (nI_nle z (by omega)))
      refine vx_go hC hFt hini (vx_ends hC hr hlk) jc_Mo_digitsOf 14 (by decide) rfl ?_
      refine And.intro (trivial) (And.intro ?_ (And.intro (Nat.le_refl _) (Nat.le_refl _)))
      rw [show dgl q = 0 by unfold dgl; rw [if_pos c7], Nat.add_zero] at hinv
      rw [← hinv]
      exact And.intro rfl rfl
    · skip
      have c7 : 0 < q := Nat.pos_of_ne_zero (fun z => c7 (by rw [z]; exact nI_le (Nat.le_refl 0) (by decide)))
      refine And.intro (by decide) ?_
      refine Vx.subL (lv' := [(0, .int (nI v)), (1, .int (nI n + 1)), (2, .int (nI q / (10 : Int32)))]) [2, 1, 0] rfl ?_
      rw [div10 hql, nI_1]
      exact ih (q / 10) (by omega) (n + 1) (by
        have h1 := dgl_s (n := q) hql
        have h2 : dgl q = (dec q).length := by unfold dgl; rw [if_neg (by omega)]
        omega) (by omega)
set_option maxRecDepth 100000 in
set_option maxHeartbeats 4000000 in
theorem c_Mo_byteAt (l : Launch) (D : va_G) (tys : List (ClassId × FieldType)) (tc : Nat → ClassId) (hty : ∀ i : Nat, i < 4 → tys[i]? = some (tc i, vx_ty i)) (h : Nat) (ar : Nat → Nat) (now : Int64) (sc : Nat → Int32) (ai : Nat → Nat → Int32) (al : Nat → Nat → Int64) (j num : Nat) (hj : j ≤ 1000000) (hnum : num < 4) (h24n : sc 24 = nI num) : Kt l y_Mo_byteAt (yw y_Mo_byteAt b_Mo_byteAt 2 (some .int)) 0 0 0 0 D cls tys (fun _ _ _ => True) [.ref h, .int (nI j)] (mdW tc h ar now sc ai al) (fun r w => r = some (.int (nI (bt num j))) ∧ w = (mdW tc h ar now sc ai al)) := by
  refine Kt.of ro_true (by decide) rfl hty (Nat.le_of_ble_eq_true rfl) ?_
  intro p e s m args below meth c0 A hC hr hlk hnm hF
  have hFt : vx_Ft y_Mo_byteAt.cls (yw y_Mo_byteAt b_Mo_byteAt 2 (some .int)) cls cty ft_Mo := ft_of (fun w h => List.mem_cons_of_mem _ h) fl_Mo_in ft_Mo_b
  have hini : false = true → meth.name = "<init>" := fun h => by cases h
  refine vx_go hC hFt hini (vx_ends hC hr hlk) jc_Mo_byteAt 0 (by decide) rfl ?_
  refine And.intro rfl ?_
  refine And.intro (by decide) ?_
  refine And.intro (trivial) (And.intro ?_ (And.intro (Nat.le_refl _) (Nat.le_refl _)))
  refine And.intro ?_ rfl
  show some (Value.int ((nI 7 * nI j + nI 13 * sc 24 + nI 1) - (nI 7 * nI j + nI 13 * sc 24 + nI 1) / (251 : Int32) * (251 : Int32))) = _
  rw [h24n, pk_mul, pk_mul, nI_add, nI_add, mod251 (by omega)]
  rfl
set_option maxRecDepth 100000 in
set_option maxHeartbeats 4000000 in
theorem c_Mo_headOf (l : Launch) (D : va_G) (tys : List (ClassId × FieldType)) (tc : Nat → ClassId) (hty : ∀ i : Nat, i < 4 → tys[i]? = some (tc i, vx_ty i)) (h : Nat) (ar : Nat → Nat) (now : Int64) (sc : Nat → Int32) (ai : Nat → Nat → Int32) (al : Nat → Nat → Int64) (pa : List (Nat × Nat)) (hpa : paA ai pa) (k sz : Nat) (hk : k < pa.length) (hsz : sz ≤ 100000) (h25 : sc 25 = nI sz) : Kt l y_Mo_headOf (yw y_Mo_headOf b_Mo_headOf 2 (some .int)) 1 22 0 0 D cls tys (fun _ _ _ => True) [.ref h, .int (nI k)] (mdW tc h ar now sc ai al) (fun r w => r = some (.int (nI (hln sz (pa.getD k (0, 0))))) ∧ w = (mdW tc h ar now sc ai al)) := by
  refine Kt.of ro_true (by decide) rfl hty (Nat.le_of_ble_eq_true rfl) ?_
  intro p e s m args below meth c0 A hC hr hlk hnm hF
  have hFt : vx_Ft y_Mo_headOf.cls (yw y_Mo_headOf b_Mo_headOf 2 (some .int)) cls cty ft_Mo := ft_of (fun w h => List.mem_cons_of_mem _ h) fl_Mo_in ft_Mo_b
  have hini : false = true → meth.name = "<init>" := fun h => by cases h
  have hp4 := hpa.1
  obtain ⟨hk1, hk2, hk3, hk4⟩ := hpa.2 k hk
  obtain ⟨u, hu⟩ : ∃ u, u = pa.getD k (0, 0) := ⟨_, rfl⟩
  rw [← hu] at hk1 hk2 hk3 hk4 ⊢
  have hl1 := dec_le (n := u.1) (by omega)
  have hl2 := dec_le (n := u.2) (by omega)
  have hl3 := dec_le (n := sz) (by omega)
  refine vx_go hC hFt hini (vx_ends hC hr hlk) jc_Mo_headOf 0 (by decide) rfl ?_
  refine And.intro rfl ?_
  refine And.intro rfl (And.intro rfl (And.intro (vp_in_nI (show k < 4 by omega) (by decide)) ?_))
  rw [nI_clamp (by omega), hk1]
  refine mo_calls hC (c_Mo_digitsOf l D tys tc hty u.1 (by omega)) wm_Mo_digitsOf wl_Mo_357 wt_Mo_digitsOf ⟨by decide, by decide⟩ rfl rfl (Nat.le_of_ble_eq_true rfl) ⟨Nat.zero_le _, Nat.zero_le _⟩ (fun r' hp => ?_)
  subst hp
  refine And.intro rfl ?_
  refine And.intro rfl (And.intro rfl (And.intro (vp_in_nI (show k < 4 by omega) (by decide)) ?_))
  rw [nI_clamp (by omega), hk2]
  refine mo_calls hC (c_Mo_digitsOf l D tys tc hty u.2 (by omega)) wm_Mo_digitsOf wl_Mo_357 wt_Mo_digitsOf ⟨by decide, by decide⟩ rfl rfl (Nat.le_of_ble_eq_true rfl) ⟨Nat.zero_le _, Nat.zero_le _⟩ (fun r' hp => ?_)
  subst hp
  refine And.intro rfl ?_
  refine mo_calls hC (c_Mo_digitsOf l D tys tc hty sz (by omega)) wm_Mo_digitsOf wl_Mo_357 wt_Mo_digitsOf ⟨by decide, by decide⟩ rfl (by rw [h25]; rfl) (Nat.le_of_ble_eq_true rfl) ⟨Nat.zero_le _, Nat.zero_le _⟩ (fun r' hp => ?_)
  subst hp
  refine And.intro (trivial) (And.intro ?_ (And.intro (Nat.le_refl _) (Nat.le_refl _)))
  refine And.intro ?_ rfl
  show some (Value.int (nI 15 + nI (dec u.1).length + nI 1 + nI (dec u.2).length + nI 1 + nI (dec sz).length + nI 4)) = _
  rw [nI_add, nI_add, nI_add, nI_add, nI_add, nI_add]
  rfl
set_option maxRecDepth 100000 in
set_option maxHeartbeats 4000000 in
theorem c_Mo_partSize (l : Launch) (D : va_G) (tys : List (ClassId × FieldType)) (tc : Nat → ClassId) (hty : ∀ i : Nat, i < 4 → tys[i]? = some (tc i, vx_ty i)) (h : Nat) (ar : Nat → Nat) (now : Int64) (sc : Nat → Int32) (ai : Nat → Nat → Int32) (al : Nat → Nat → Int64) (pa : List (Nat × Nat)) (hpa : paA ai pa) (k sz : Nat) (hk : k < pa.length) (hsz : sz ≤ 100000) (h25 : sc 25 = nI sz) : Kt l y_Mo_partSize (yw y_Mo_partSize b_Mo_partSize 2 (some .int)) 2 43 0 0 D cls tys (fun _ _ _ => True) [.ref h, .int (nI k)] (mdW tc h ar now sc ai al) (fun r w => r = some (.int (nI (psz sz (pa.getD k (0, 0))))) ∧ w = (mdW tc h ar now sc ai al)) := by
  refine Kt.of ro_true (by decide) rfl hty (Nat.le_of_ble_eq_true rfl) ?_
  intro p e s m args below meth c0 A hC hr hlk hnm hF
  have hFt : vx_Ft y_Mo_partSize.cls (yw y_Mo_partSize b_Mo_partSize 2 (some .int)) cls cty ft_Mo := ft_of (fun w h => List.mem_cons_of_mem _ h) fl_Mo_in ft_Mo_b
  have hini : false = true → meth.name = "<init>" := fun h => by cases h
  have hp4 := hpa.1
  obtain ⟨hk1, hk2, hk3, hk4⟩ := hpa.2 k hk
  obtain ⟨u, hu⟩ : ∃ u, u = pa.getD k (0, 0) := ⟨_, rfl⟩
  rw [← hu] at hk1 hk2 hk3 hk4 ⊢
  have hl1 := dec_le (n := u.1) (by omega)
  have hl2 := dec_le (n := u.2) (by omega)
  have hl3 := dec_le (n := sz) (by omega)
  refine vx_go hC hFt hini (vx_ends hC hr hlk) jc_Mo_partSize 0 (by decide) rfl ?_
  refine mo_call hC (c_Mo_headOf l D tys tc hty h ar now sc ai al pa hpa k sz hk hsz h25) wm_Mo_headOf wl_Mo_360 wi_Mo_headOf ws_Mo_Mo_headOf ⟨by decide, by decide⟩ rfl rfl (Nat.le_of_ble_eq_true rfl) ⟨Nat.zero_le _, Nat.zero_le _⟩ (fun r' w1 hp => ?_)
  obtain ⟨rfl, rfl⟩ := hp
  rw [← hu]
  refine And.intro rfl ?_
  refine And.intro rfl (And.intro rfl (And.intro (vp_in_nI (show k < 4 by omega) (by decide)) ?_))
  rw [nI_clamp (by omega), hk2]
  refine And.intro rfl ?_
  refine And.intro rfl (And.intro rfl (And.intro (vp_in_nI (show k < 4 by omega) (by decide)) ?_))
  rw [nI_clamp (by omega), hk1]
  refine And.intro (trivial) (And.intro ?_ (And.intro (Nat.le_refl _) (Nat.le_refl _)))
  refine And.intro ?_ rfl
  show some (Value.int (nI (hln sz u) + nI u.2 - nI u.1 + nI 1 + nI 2)) = some (Value.int (nI (psz sz u)))
  rw [nI_add, pk_sub (by omega), nI_add, nI_add, show psz sz u = hln sz u + u.2 - u.1 + 1 + 2 by unfold psz; omega]
theorem dec_len {n : Nat} (h : n < 2 ^ 31) : (dec n).length ≤ 10 := by
  have key : ∀ (k m : Nat), m < 10 ^ k → m < 2 ^ 31 → dgl m ≤ k := by
    intro k
    induction k with
    | zero => intro m hm _; unfold dgl; rw [if_pos (by omega)]; exact Nat.le_refl _
    | succ k ih =>
      intro m hm h31
      unfold dgl
      by_cases e : m = 0
      · rw [if_pos e]; omega
      · rw [if_neg e, dgl_s h31]
        have := ih (m / 10) (by rw [Nat.pow_succ] at hm; omega) (by omega)
        omega
  have s1 := dgl_s (n := n) h
  have := key 9 (n / 10) (by omega) (by omega)
  omega
set_option maxRecDepth 100000 in
set_option maxHeartbeats 4000000 in
theorem c_Mo_digitOf (l : Launch) (D : va_G) (tys : List (ClassId × FieldType)) (tc : Nat → ClassId) (hty : ∀ i : Nat, i < 4 → tys[i]? = some (tc i, vx_ty i)) (v i : Nat) (hv : v < 2 ^ 31) (hi : i < (dec v).length) : Kt l y_Mo_digitOf (yw y_Mo_digitOf b_Mo_digitOf 4 (some .int)) 1 22 0 0 D cls tys (fun _ _ _ => True) [.int (nI v), .int (nI i)] [] (fun r w => r = some (.int (nI ((dec v).getD i 0))) ∧ w = []) := by
  refine Kt.of ro_true (by decide) rfl hty (Nat.le_of_ble_eq_true rfl) ?_
  intro p e s m args below meth c0 A hC hr hlk hnm hF
  have hFt : vx_Ft y_Mo_digitOf.cls (yw y_Mo_digitOf b_Mo_digitOf 4 (some .int)) cls cty [] := (fun q h => by cases h)
  have hini : false = true → meth.name = "<init>" := fun h => by cases h
  have hvl := dec_len (n := v) hv
  refine vx_gon hC hFt hini (vx_ends hC hr hlk) jc_Mo_digitOf 0 7 (by decide) rfl ?_
  refine mo_calls hC (c_Mo_digitsOf l D tys tc hty v hv) wm_Mo_digitsOf wl_Mo_357 wt_Mo_digitsOf ⟨by decide, by decide⟩ rfl rfl (Nat.le_of_ble_eq_true rfl) ⟨Nat.zero_le _, Nat.zero_le _⟩ (fun r' hp => ?_)
  subst hp
  refine Vx.subL (lv' := [(0, .int (nI v)), (1, .int (nI i)), (2, .int (nI v)), (3, .int (nI (dec v).length - nI 1))]) [2, 3, 1, 0] rfl ?_
  rw [pk_sub (by omega)]
  obtain ⟨q, hq0⟩ : ∃ q : Nat, q = v := ⟨_, rfl⟩
  obtain ⟨k, hk0⟩ : ∃ k : Nat, k = (dec v).length - 1 := ⟨_, rfl⟩
  refine Vx.eqs rfl (lv2 := [(0, .int (nI v)), (1, .int (nI i)), (2, .int (nI q)), (3, .int (nI k))]) (by rw [hq0, hk0]) rfl rfl ?_
  have hkl : k + 1 = (dec q).length := by rw [hq0]; omega
  have hd : (dec q).getD i 0 = (dec v).getD i 0 := by rw [hq0]
  have hik : i ≤ k := by omega
  have hql : q < 2 ^ 31 := by omega
  have hk100 : k < 100 := by omega
  clear hq0 hk0
  induction hn : k - i using Nat.strongRecOn generalizing q k with
  | _ n ih =>
    refine vx_go hC hFt hini (vx_ends hC hr hlk) jc_Mo_digitOf 7 (by decide) rfl ?_
    refine And.intro (fun c9 => ?_) (fun c9 => ?_)
    · skip
      have c9 := (nI_leI (a := k) (b := i) (by omega) (by omega)).mp c9
      refine vx_go hC hFt hini (vx_ends hC hr hlk) jc_Mo_digitOf 16 (by decide) rfl ?_
      refine And.intro (by decide) ?_
      refine And.intro (trivial) (And.intro ?_ (And.intro (Nat.le_refl _) (Nat.le_refl _)))
      have hki : k = i := by omega
      have hq : (dec q).getD i 0 = 48 + q % 10 := by
        subst hki
        by_cases e : q < 10
        · rw [dec_lo e] at hkl ⊢
          simp only [List.length_singleton] at hkl
          rw [show k = 0 by omega, Nat.mod_eq_of_lt e]; rfl
        · rw [dec_hi (by omega) hql] at hkl ⊢
          rw [List.length_append, List.length_singleton] at hkl
          rw [gd_app, if_neg (by omega), show k - (dec (q / 10)).length = 0 by omega]; rfl
      refine And.intro ?_ rfl
      show some (Value.int (nI 48 + (nI q - nI q / (10 : Int32) * (10 : Int32)))) = _
      rw [mod10 hql, nI_add, ← hd, hq]
    · skip
      have c9 : ¬ (k ≤ i) := fun z => c9 ((nI_leI (a := k) (b := i) (by omega) (by omega)).mpr z)
      refine And.intro (by decide) ?_
      refine Vx.subL (lv' := [(0, .int (nI v)), (1, .int (nI i)), (2, .int (nI q / (10 : Int32))), (3, .int (nI k + (-1)))]) [2, 3, 1, 0] rfl ?_
      obtain ⟨k2, rfl⟩ : ∃ k2, k = k2 + 1 := ⟨k - 1, by omega⟩
      rw [nI_dec, div10 hql]
      have e : ¬ q < 10 := fun z => by rw [dec_lo z] at hkl; simp only [List.length_singleton] at hkl; omega
      rw [dec_hi (by omega) hql, List.length_append, List.length_singleton] at hkl
      rw [dec_hi (by omega) hql, gd_app, if_pos (by omega)] at hd
      exact ih (k2 - i) (by omega) (q / 10) k2 (by omega) hd (by omega) (by omega) (by omega) rfl
theorem fgr_a {sz a b i : Nat} (h : i < (dec a).length) : (fgr sz (a, b)).getD i 0 = (dec a).getD i 0 := by rw [fgr, gd_app, if_pos h]
theorem fgr_m {sz a b i : Nat} (h : i = (dec a).length) : (fgr sz (a, b)).getD i 0 = 45 := by
  rw [fgr, gd_app, if_neg (show ¬ i < (dec (a, b).1).length by rw [h]; exact Nat.lt_irrefl _), h, Nat.sub_self]; rfl
theorem fgr_b {sz a b i : Nat} (h : ¬ i < (dec a).length) (h2 : ¬ i = (dec a).length) (h3 : i < (dec a).length + 1 + (dec b).length) : (fgr sz (a, b)).getD i 0 = (dec b).getD (i - (dec a).length - 1) 0 := by
  obtain ⟨j, rfl⟩ : ∃ j, i = (dec a).length + (j + 1) := ⟨i - (dec a).length - 1, by omega⟩
  rw [fgr, gd_app, if_neg h, show (dec a).length + (j + 1) - (dec (a, b).1).length = j + 1 from Nat.add_sub_cancel_left _ _, List.getD_cons_succ, gd_app, if_pos (show j < (dec (a, b).2).length from (by show j < (dec b).length; omega)), show (j + 1 - 1) = j from rfl]
theorem fgr_s {sz a b i : Nat} (h : i = (dec a).length + 1 + (dec b).length) : (fgr sz (a, b)).getD i 0 = 47 := by
  rw [fgr, gd_app, if_neg (show ¬ i < (dec (a, b).1).length from (by show ¬ i < (dec a).length; omega)), show i - (dec (a, b).1).length = (dec b).length + 1 from (by show i - (dec a).length = _; omega), List.getD_cons_succ, gd_app, if_neg (show ¬ (dec b).length < (dec (a, b).2).length from Nat.lt_irrefl _), show (dec b).length - (dec (a, b).2).length = 0 from Nat.sub_self _]; rfl
theorem fgr_z {sz a b i : Nat} (h : (dec a).length + 1 + (dec b).length < i) : (fgr sz (a, b)).getD i 0 = (dec sz).getD (i - (dec a).length - (dec b).length - 2) 0 := by
  obtain ⟨j, rfl⟩ : ∃ j, i = (dec a).length + ((dec b).length + (j + 1) + 1) := ⟨i - (dec a).length - (dec b).length - 2, by omega⟩
  rw [fgr, gd_app, if_neg (show ¬ (dec a).length + ((dec b).length + (j + 1) + 1) < (dec (a, b).1).length from (by show ¬ _ < (dec a).length; omega)), show (dec a).length + ((dec b).length + (j + 1) + 1) - (dec (a, b).1).length = (dec b).length + (j + 1) + 1 from Nat.add_sub_cancel_left _ _, List.getD_cons_succ, gd_app, if_neg (show ¬ (dec b).length + (j + 1) < (dec (a, b).2).length from (by show ¬ _ < (dec b).length; omega)), show (dec b).length + (j + 1) - (dec (a, b).2).length = j + 1 from Nat.add_sub_cancel_left _ _, List.getD_cons_succ, show (dec b).length + (j + 1) + 1 - (dec b).length - 2 = j by omega]
set_option maxRecDepth 100000 in
set_option maxHeartbeats 4000000 in
theorem c_Mo_figures (l : Launch) (D : va_G) (tys : List (ClassId × FieldType)) (tc : Nat → ClassId) (hty : ∀ i : Nat, i < 4 → tys[i]? = some (tc i, vx_ty i)) (h : Nat) (ar : Nat → Nat) (now : Int64) (sc : Nat → Int32) (ai : Nat → Nat → Int32) (al : Nat → Nat → Int64) (a b sz i : Nat) (ha : a < 100000) (hb : b < 100000) (hsz : sz ≤ 100000) (h25 : sc 25 = nI sz) (hi : i < (fgr sz (a, b)).length) : Kt l y_Mo_figures (yw y_Mo_figures b_Mo_figures 6 (some .int)) 2 45 0 0 D cls tys (fun _ _ _ => True) [.ref h, .int (nI a), .int (nI b), .int (nI i)] (mdW tc h ar now sc ai al) (fun r w => r = some (.int (nI ((fgr sz (a, b)).getD i 0))) ∧ w = (mdW tc h ar now sc ai al)) := by
  refine Kt.of ro_true (by decide) rfl hty (Nat.le_of_ble_eq_true rfl) ?_
  intro p e s m args below meth c0 A hC hr hlk hnm hF
  have hFt : vx_Ft y_Mo_figures.cls (yw y_Mo_figures b_Mo_figures 6 (some .int)) cls cty ft_Mo := ft_of (fun w h => List.mem_cons_of_mem _ h) fl_Mo_in ft_Mo_b
  have hini : false = true → meth.name = "<init>" := fun h => by cases h
  have hl1 := dec_le (n := a) (by omega)
  have hl2 := dec_le (n := b) (by omega)
  have hl3 := dec_le (n := sz) (by omega)
  have hfl := fgr_len (sz := sz) (u := (a, b))
  unfold hln at hfl
  simp only [] at hfl
  refine vx_go hC hFt hini (vx_ends hC hr hlk) jc_Mo_figures 0 (by decide) rfl ?_
  refine mo_calls hC (c_Mo_digitsOf l D tys tc hty a (by omega)) wm_Mo_digitsOf wl_Mo_357 wt_Mo_digitsOf ⟨by decide, by decide⟩ rfl rfl (Nat.le_of_ble_eq_true rfl) ⟨Nat.zero_le _, Nat.zero_le _⟩ (fun r' hp => ?_)
  subst hp
  refine mo_calls hC (c_Mo_digitsOf l D tys tc hty b (by omega)) wm_Mo_digitsOf wl_Mo_357 wt_Mo_digitsOf ⟨by decide, by decide⟩ rfl rfl (Nat.le_of_ble_eq_true rfl) ⟨Nat.zero_le _, Nat.zero_le _⟩ (fun r' hp => ?_)
  subst hp
  refine And.intro (fun c8 => ?_) (fun c8 => ?_)
  · skip
    have c8b := (nI_leI (a := (dec a).length) (b := i) (by omega) (by omega)).mp c8
    have c8 : ¬ i < (dec a).length := by omega
    refine vx_go hC hFt hini (vx_ends hC hr hlk) jc_Mo_figures 13 (by decide) rfl ?_
    refine And.intro (fun c15 => ?_) (fun c15 => ?_)
    · skip
      have c15 : ¬ i = (dec a).length := fun z => c15 (by rw [z])
      refine vx_go hC hFt hini (vx_ends hC hr hlk) jc_Mo_figures 18 (by decide) rfl ?_
      refine And.intro (fun c24 => ?_) (fun c24 => ?_)
      · skip
        have c24 : (dec a).length + 1 + (dec b).length ≤ i := by
          have c24 : nI (dec a).length + nI 1 + nI (dec b).length ≤ nI i := c24
          rw [nI_add, nI_add] at c24
          exact (nI_leI (by omega) (by omega)).mp c24
        refine vx_go hC hFt hini (vx_ends hC hr hlk) jc_Mo_figures 33 (by decide) rfl ?_
        refine And.intro (fun c39 => ?_) (fun c39 => ?_)
        · skip
          have c39 : ¬ i = (dec a).length + 1 + (dec b).length := fun z => c39 (show nI i = nI (dec a).length + nI 1 + nI (dec b).length by rw [nI_add, nI_add, z])
          refine vx_go hC hFt hini (vx_ends hC hr hlk) jc_Mo_figures 42 (by decide) rfl ?_
          refine And.intro rfl ?_
          refine mo_calls hC (c_Mo_digitOf l D tys tc hty sz (i - (dec a).length - (dec b).length - 2) (by omega) (by have := fgr_len (sz := sz) (u := (a, b)); unfold hln at this; simp only [] at this; omega)) wm_Mo_digitOf wl_Mo_368 wt_Mo_digitOf ⟨by decide, by decide⟩ rfl (show [Value.int (nI i - nI (dec a).length - nI (dec b).length - nI 2), Value.int (sc 25)] = [Value.int (nI (i - (dec a).length - (dec b).length - 2)), Value.int (nI sz)] by rw [pk_sub (by omega), pk_sub (by omega), pk_sub (by omega), h25]) (Nat.le_of_ble_eq_true rfl) ⟨Nat.zero_le _, Nat.zero_le _⟩ (fun r' hp => ?_)
          subst hp
          refine And.intro (trivial) (And.intro ?_ (And.intro (Nat.le_refl _) (Nat.le_refl _)))
          rw [fgr_z (by omega)]
          exact And.intro rfl rfl
        · skip
          have c39 : i = (dec a).length + 1 + (dec b).length := by
            have c39 : nI i = nI (dec a).length + nI 1 + nI (dec b).length := c39
            rw [nI_add, nI_add] at c39
            exact (nI_eq (by omega) (by omega)).mp c39
          refine vx_go hC hFt hini (vx_ends hC hr hlk) jc_Mo_figures 52 (by decide) rfl ?_
          refine And.intro (trivial) (And.intro ?_ (And.intro (Nat.le_refl _) (Nat.le_refl _)))
          rw [fgr_s c39]
          exact And.intro rfl rfl
      · skip
        have c24 : ¬ (dec a).length + 1 + (dec b).length ≤ i := fun z => c24 (show nI (dec a).length + nI 1 + nI (dec b).length ≤ nI i by rw [nI_add, nI_add]; exact (nI_leI (by omega) (by omega)).mpr z)
        refine mo_calls hC (c_Mo_digitOf l D tys tc hty b (i - (dec a).length - 1) (by omega) (by omega)) wm_Mo_digitOf wl_Mo_368 wt_Mo_digitOf ⟨by decide, by decide⟩ rfl (show [Value.int (nI i - nI (dec a).length - nI 1), Value.int (nI b)] = [Value.int (nI (i - (dec a).length - 1)), Value.int (nI b)] by rw [pk_sub (by omega), pk_sub (by omega)]) (Nat.le_of_ble_eq_true rfl) ⟨Nat.zero_le _, Nat.zero_le _⟩ (fun r' hp => ?_)
        subst hp
        refine And.intro (trivial) (And.intro ?_ (And.intro (Nat.le_refl _) (Nat.le_refl _)))
        rw [fgr_b c8 c15 (by omega)]
        exact And.intro rfl rfl
    · skip
      have c15 : i = (dec a).length := (nI_eq (a := i) (b := (dec a).length) (by omega) (by omega)).mp c15
      refine And.intro (trivial) (And.intro ?_ (And.intro (Nat.le_refl _) (Nat.le_refl _)))
      rw [fgr_m c15]
      exact And.intro rfl rfl
  · skip
    have c8b : ¬ ((dec a).length ≤ i) := fun z => c8 ((nI_leI (a := (dec a).length) (b := i) (by omega) (by omega)).mpr z)
    have c8 : i < (dec a).length := by omega
    refine mo_calls hC (c_Mo_digitOf l D tys tc hty a i (by omega) c8) wm_Mo_digitOf wl_Mo_368 wt_Mo_digitOf ⟨by decide, by decide⟩ rfl rfl (Nat.le_of_ble_eq_true rfl) ⟨Nat.zero_le _, Nat.zero_le _⟩ (fun r' hp => ?_)
    subst hp
    refine And.intro (trivial) (And.intro ?_ (And.intro (Nat.le_refl _) (Nat.le_refl _)))
    rw [fgr_a c8]
    exact And.intro rfl rfl
set_option maxRecDepth 100000 in
set_option maxHeartbeats 4000000 in
theorem c_Mo_crlf (l : Launch) (D : va_G) (tys : List (ClassId × FieldType)) (tc : Nat → ClassId) (hty : ∀ i : Nat, i < 4 → tys[i]? = some (tc i, vx_ty i)) (j : Nat) (hj : j < 2 ^ 31) : Kt l y_Mo_crlf (yw y_Mo_crlf b_Mo_crlf 1 (some .int)) 0 0 0 0 D cls tys (fun _ _ _ => True) [.int (nI j)] [] (fun r w => r = some (.int (nI ([13, 10].getD (j % 2) 0))) ∧ w = []) := by
  refine Kt.of ro_true (by decide) rfl hty (Nat.le_of_ble_eq_true rfl) ?_
  intro p e s m args below meth c0 A hC hr hlk hnm hF
  have hFt : vx_Ft y_Mo_crlf.cls (yw y_Mo_crlf b_Mo_crlf 1 (some .int)) cls cty [] := (fun q h => by cases h)
  have hini : false = true → meth.name = "<init>" := fun h => by cases h
  refine vx_go hC hFt hini (vx_ends hC hr hlk) jc_Mo_crlf 0 (by decide) rfl ?_
  refine And.intro (by decide) ?_
  refine And.intro (fun c3 => ?_) (fun c3 => ?_)
  · skip
    have c3 : ¬ j % 2 = 0 := fun z => c3 (show nI j - nI j / (2 : Int32) * (2 : Int32) = 0 by rw [mod2 hj, z]; rfl)
    refine vx_go hC hFt hini (vx_ends hC hr hlk) jc_Mo_crlf 6 (by decide) rfl ?_
    refine And.intro (trivial) (And.intro ?_ (And.intro (Nat.le_refl _) (Nat.le_refl _)))
    rw [← crl, if_neg c3]
    exact And.intro rfl rfl
  · skip
    have c3 : j % 2 = 0 := by
      have c3 : nI j - nI j / (2 : Int32) * (2 : Int32) = nI 0 := c3
      rw [mod2 hj] at c3
      exact (nI_eq (by omega) (by omega)).mp c3
    refine vx_go hC hFt hini (vx_ends hC hr hlk) jc_Mo_crlf 7 (by decide) rfl ?_
    refine And.intro (trivial) (And.intro ?_ (And.intro (Nat.le_refl _) (Nat.le_refl _)))
    rw [← crl, if_pos c3]
    exact And.intro rfl rfl
