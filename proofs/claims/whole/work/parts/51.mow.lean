/-! THE REFERENCE: what ranges become, by program (wip/whole/gen/p51.py) -/
def rsA (n : Nat) : Option Nat × Option Nat → Nat
  | (some a, _) => a
  | (none, some q) => n - q
  | (none, none) => n + 1
def rsB (n : Nat) (u : Option Nat × Option Nat) : Option Nat := if n = 0 then none else some (match u with
  | (some _, some b) => if b < n - 1 then b else n - 1
  | _ => n - 1)
/-- a range of n bytes -/
def rsv (n : Nat) (u : Option Nat × Option Nat) : Option (Nat × Nat) := match rsB n u with
  | none => none
  | some b => if rsA n u ≤ b then some (rsA n u, b) else none
theorem n_1 {n : Nat} (h : n < 2 ^ 31) : nI n - 1 = iI (if n = 0 then none else some (n - 1)) := by
  by_cases e : n = 0
  · rw [if_pos e, e]; rfl
  · rw [if_neg e]
    obtain ⟨k, rfl⟩ : ∃ k, n = k + 1 := ⟨n - 1, by omega⟩
    exact nI_pred k
theorem rsB_le {n b : Nat} {u : Option Nat × Option Nat} (h : rsB n u = some b) : b < n := by
  unfold rsB at h
  split at h
  · cases h
  · have := Option.some.inj h
    split at this
    · split at this <;> omega
    · omega
def bdP (pa : List (Nat × Nat)) (i j : Nat) : Prop := (pa.getD i (0, 0)).1 ≤ (pa.getD j (0, 0)).2 ∧ (pa.getD j (0, 0)).1 ≤ (pa.getD i (0, 0)).2
def ovP (pa : List (Nat × Nat)) (I J : Nat) : Prop := ∃ i j, j < i ∧ (i < I ∨ (i = I ∧ j < J)) ∧ bdP pa i j
/-- two of them overlap -/
def ovl (pa : List (Nat × Nat)) : Bool := (List.range pa.length).any (fun i => (List.range i).any (fun j => decide ((pa.getD i (0, 0)).1 ≤ (pa.getD j (0, 0)).2) && decide ((pa.getD j (0, 0)).1 ≤ (pa.getD i (0, 0)).2)))
theorem ovl_iff {pa : List (Nat × Nat)} : ovl pa = true ↔ ovP pa pa.length 0 := by
  unfold ovl ovP bdP
  simp only [List.any_eq_true, List.mem_range, Bool.and_eq_true, decide_eq_true_eq]
  constructor
  · rintro ⟨i, hi, j, hj, h⟩; exact ⟨i, j, hj, Or.inl hi, h⟩
  · rintro ⟨i, j, hj, h1 | h1, h⟩
    · exact ⟨i, h1, j, hj, h⟩
    · omega
theorem ovP_j {pa : List (Nat × Nat)} {I J : Nat} (h : J < I) : ovP pa I (J + 1) ↔ ovP pa I J ∨ bdP pa I J := by
  constructor
  · rintro ⟨i, j, h1, h2, h3⟩
    by_cases e : i = I ∧ j = J
    · obtain ⟨rfl, rfl⟩ := e; exact Or.inr h3
    · exact Or.inl ⟨i, j, h1, by omega, h3⟩
  · rintro (⟨i, j, h1, h2, h3⟩ | h3)
    · exact ⟨i, j, h1, by omega, h3⟩
    · exact ⟨I, J, h, by omega, h3⟩
theorem ovP_i {pa : List (Nat × Nat)} {I : Nat} : ovP pa (I + 1) 0 ↔ ovP pa I I := by
  constructor
  · rintro ⟨i, j, h1, h2, h3⟩; exact ⟨i, j, h1, by omega, h3⟩
  · rintro ⟨i, j, h1, h2, h3⟩; exact ⟨i, j, h1, by omega, h3⟩
def paA (a : Nat → Nat → Int32) (pa : List (Nat × Nat)) : Prop := pa.length ≤ 4 ∧ ∀ i, i < pa.length → a 11 i = nI (pa.getD i (0, 0)).1 ∧ a 12 i = nI (pa.getD i (0, 0)).2 ∧ (pa.getD i (0, 0)).1 ≤ (pa.getD i (0, 0)).2 ∧ (pa.getD i (0, 0)).2 < 100000
/-- one tag alone: whether it says W and is strong -/
def lonT (W T : List Nat) : Option Bool := if (tgt (gp T)).1 = true then (if gp (tgt (gp T)).2.2.1 = [] then some (sameL (tgt (gp T)).2.2.2 W && !(tgt (gp T)).2.1) else none) else none
def irS (ly : Nat) (W : List Nat) (wk : Bool) (ch : Nat) (T : List Nat) : Bool := if T = [] then true else match lonT W T with
  | some sg => sg && !wk
  | none => decide (dtO ly T = some ch)
theorem tag_nd {ly : Nat} {T : List Nat} {P0 : Nat} (hg : gp T = T.drop P0) (h : T.getD P0 0 = 34 ∨ (T.getD P0 0 = 87 ∧ T.getD (P0 + 1) 0 = 47)) : dtO ly T = none := by
  rw [dtO, hg, nmO_at (fun z q => nms_0.1)]
  rw [show nms dayL (T.getD P0 0) (T.getD (P0 + 1) 0) (T.getD (P0 + 2) 0) 0 = none by
    unfold dayL
    simp only [nms]
    rcases h with h | ⟨h, h2⟩
    · rw [h]; simp
    · rw [h, h2]; simp]
  rfl
theorem tag_nl {W T : List Nat} {P0 : Nat} (hg : gp T = T.drop P0) (h1 : ¬ T.getD P0 0 = 34) (h2 : ¬ (T.getD P0 0 = 87 ∧ T.getD (P0 + 1) 0 = 47)) : lonT W T = none := by
  unfold lonT
  rw [hg, if_neg]
  by_cases e : T.getD P0 0 = 87
  · rw [tgt_bad e (fun z => h2 ⟨e, z⟩)]; exact fun z => by cases z
  · rw [tgt_o e, opq_n h1]; exact fun z => by cases z
theorem lc_eq {a b : Int64} : lg_cmp a b = 0 ↔ a = b := by
  unfold lg_cmp
  by_cases h : a > b
  · rw [if_pos h]; exact ⟨fun z => absurd z (by decide), fun z => absurd h (by rw [z]; exact Int64.lt_irrefl)⟩
  · rw [if_neg h]
    by_cases h2 : a = b
    · rw [if_pos h2]; exact ⟨fun _ => h2, fun _ => rfl⟩
    · rw [if_neg h2]; exact ⟨fun z => absurd z (by decide), fun z => absurd z h2⟩
theorem lI_eq {v : Option Nat} {c : Nat} (hv : ∀ t, v = some t → t < 2 ^ 63) (hc : c < 2 ^ 63) : lI v = lN c ↔ v = some c := by
  cases v with
  | none =>
    refine ⟨fun z => ?_, fun z => by cases z⟩
    have := congrArg Int64.toInt z
    rw [lW_toInt hc] at this
    have h2 : (lI none).toInt = -1 := rfl
    omega
  | some t =>
    refine ⟨fun z => ?_, fun z => by rw [Option.some.inj z]; rfl⟩
    have := congrArg Int64.toInt (show lN t = lN c from z)
    rw [lW_toInt hc, lW_toInt (hv t rfl)] at this
    rw [show t = c by omega]
theorem cal_lt {oy om od ot : Option Nat} {t : Nat} (ht : ∀ v, ot = some v → v ≤ 86399) (h : calO oy om od ot = some t) : t ≤ 86400 * 100000000 := by
  unfold calO at h
  split at h
  · rename_i y mo d z
    unfold cal at h
    split at h
    · rename_i hc
      have h1 := Option.some.inj h
      have h2 := ht z rfl
      have h3 := dys_le (mo := mo - 1) (y := y)
      have h4 : dbf y ≤ 50000 := by unfold dbf; omega
      have h5 : mdb y (mo - 1) ≤ 31 * (mo - 1) := mdb_le
      have h6 : dys (mo - 1) y ≠ 0 := by omega
      have h7 : mo - 1 < 12 := by
        rcases Nat.lt_or_ge (mo - 1) 12 with z | z
        · exact z
        · exfalso
          apply h6
          rw [dys, if_neg (by omega), List.getD_eq_getElem?_getD, List.getElem?_eq_none (by simpa using z)]; rfl
      omega
    · cases h
  · cases h
theorem nI_nneg {n : Nat} (h : n < 2 ^ 31) : ¬ nI n ≤ -1 := by
  intro z
  have h1 : (0 : Int32) ≤ nI n := nI_ge0 h
  exact absurd (Int32.le_trans h1 z) (by decide)
theorem nI_m1le {n : Nat} (h : n < 2 ^ 31) : (-1 : Int32) ≤ nI n := Int32.le_trans (by decide) (nI_ge0 h)
set_option maxRecDepth 100000 in
set_option maxHeartbeats 4000000 in
theorem c_Mo_resolve (l : Launch) (D : va_G) (tys : List (ClassId × FieldType)) (tc : Nat → ClassId) (hty : ∀ i : Nat, i < 4 → tys[i]? = some (tc i, vx_ty i)) (h : Nat) (ar : Nat → Nat) (now : Int64) (sc : Nat → Int32) (ai : Nat → Nat → Int32) (al : Nat → Nat → Int64) (k n PC : Nat) (oa ob : Option Nat) (hk : k < 96) (h9 : ai 9 k = iI oa) (h10 : ai 10 k = iI ob) (hoa : ∀ v, oa = some v → v ≤ 999999999) (hob : ∀ v, ob = some v → v ≤ 999999999) (hn : n ≤ 100000) (hPC : PC < 4) (h27 : sc 27 = nI PC) : Kt l y_Mo_resolve (yw y_Mo_resolve b_Mo_resolve 7 none) 0 0 0 0 D cls tys (fun _ _ _ => True) [.ref h, .int (nI k), .int (nI n)] (mdW tc h ar now sc ai al) (fun r w => r = none ∧ ∃ s2 a2, w = mdW tc h ar now s2 a2 al ∧ (rsv n (oa, ob) = none → s2 = sc ∧ a2 = ai) ∧ ∀ v, rsv n (oa, ob) = some v → s2 = upd sc 27 (nI (PC + 1)) ∧ a2 = ap (ap ai 11 (upd (ai 11) PC (nI v.1))) 12 (upd (ai 12) PC (nI v.2))) := by
  refine Kt.of ro_true (by decide) rfl hty (Nat.le_of_ble_eq_true rfl) ?_
  intro p e s m args below meth c0 A hC hr hlk hnm hF
  have hFt : vx_Ft y_Mo_resolve.cls (yw y_Mo_resolve b_Mo_resolve 7 none) cls cty ft_Mo := ft_of (fun w h => List.mem_cons_of_mem _ h) fl_Mo_in ft_Mo_b
  have hini : false = true → meth.name = "<init>" := fun h => by cases h
  have hA : rsA n (oa, ob) < 2 ^ 31 := by
    cases oa with
    | some a => have := hoa a rfl; show a < _; omega
    | none => cases ob with
      | none => show n + 1 < _; omega
      | some q => show n - q < _; omega
  refine vx_cut (α := Unit) 39 (fun u => True) (fun u => [(0, .ref h), (2, .int (nI n)), (3, .int (iI oa)), (4, .int (iI ob)), (5, .int (nI (rsA n (oa, ob))))]) (fun u => []) (fun u => (mdW tc h ar now sc ai al)) (fun hJ23 => ?_) ?_
  · skip
    refine vx_gon hC hFt hini (vx_ends hC hr hlk) jc_Mo_resolve 0 23 (by decide) rfl ?_
    refine And.intro rfl ?_
    refine And.intro rfl (And.intro rfl (And.intro (vp_in_nI hk (by decide)) ?_))
    rw [nI_clamp (by omega), h9]
    refine And.intro rfl ?_
    refine And.intro rfl (And.intro rfl (And.intro (vp_in_nI hk (by decide)) ?_))
    rw [nI_clamp (by omega), h10]
    refine And.intro (fun c11 => ?_) (fun c11 => ?_)
    · skip
      obtain rfl : oa = none := by
        cases oa with
        | none => rfl
        | some x1 => exact absurd c11 (nI_pos (by have := hoa x1 rfl; omega))
      refine vx_gon hC hFt hini (vx_ends hC hr hlk) jc_Mo_resolve 14 9 (by decide) rfl ?_
      refine And.intro (fun c16 => ?_) (fun c16 => ?_)
      · skip
        have hz : (0 : Int32) = nI (rsA n (none, ob)) := by
          cases ob with
          | none => exact absurd c16 (nI_nneg (by omega))
          | some q =>
            have := (nI_leI (a := n) (b := q) (by omega) (by have := hob q rfl; omega)).mp c16
            show (0 : Int32) = nI (n - q)
            rw [Nat.sub_eq_zero_of_le this]; rfl
        refine vx_gon hC hFt hini (vx_ends hC hr hlk) jc_Mo_resolve 21 2 (by decide) rfl ?_
        refine Vx.subL (lv' := [(0, .ref h), (2, .int (nI n)), (3, .int (iI none)), (4, .int (iI ob)), (5, .int (0))]) [3, 5, 2, 1, 0] rfl ?_
        rw [hz]
        exact hJ23 () trivial
      · skip
        have hz : nI n - iI ob = nI (rsA n (none, ob)) := by
          cases ob with
          | none =>
            show nI n - (-1) = nI (n + 1)
            rw [← nI_1, Int32.sub_neg]
          | some q =>
            have h9 : ¬ n ≤ q := fun z => c16 ((nI_leI (a := n) (b := q) (by omega) (by have := hob q rfl; omega)).mpr z)
            exact pk_sub (by omega)
        refine vx_gon hC hFt hini (vx_ends hC hr hlk) jc_Mo_resolve 22 1 (by decide) rfl ?_
        refine Vx.subL (lv' := [(0, .ref h), (2, .int (nI n)), (3, .int (iI none)), (4, .int (iI ob)), (5, .int (nI n - iI ob))]) [3, 5, 2, 1, 0] rfl ?_
        rw [hz]
        exact hJ23 () trivial
    · skip
      obtain ⟨x1, rfl⟩ : ∃ x1, oa = some x1 := by
        cases oa with
        | none => exact absurd (show iI none < 0 by decide) c11
        | some x1 => exact ⟨x1, rfl⟩
      refine vx_gon hC hFt hini (vx_ends hC hr hlk) jc_Mo_resolve 22 1 (by decide) rfl ?_
      refine Vx.subL (lv' := [(0, .ref h), (2, .int (nI n)), (3, .int (iI (some x1))), (4, .int (iI ob)), (5, .int (iI (some x1)))]) [3, 5, 2, 1, 0] rfl ?_
      exact hJ23 () trivial
  · intro u9 _
    clear u9
    refine vx_cut (α := Unit) 66 (fun u => True) (fun u => [(0, .ref h), (5, .int (nI (rsA n (oa, ob)))), (6, .int (iI (rsB n (oa, ob))))]) (fun u => []) (fun u => (mdW tc h ar now sc ai al)) (fun hJ38 => ?_) ?_
    · skip
      refine vx_gon hC hFt hini (vx_ends hC hr hlk) jc_Mo_resolve 23 15 (by decide) rfl ?_
      refine And.intro (fun c24 => ?_) (fun c24 => ?_)
      · skip
        obtain rfl : oa = none := by
          cases oa with
          | none => rfl
          | some x1 => exact absurd c24 (nI_pos (by have := hoa x1 rfl; omega))
        have hz : nI n - 1 = iI (rsB n (none, ob)) := by rw [n_1 (by omega)]; rfl
        refine vx_gon hC hFt hini (vx_ends hC hr hlk) jc_Mo_resolve 34 4 (by decide) rfl ?_
        refine Vx.subL (lv' := [(0, .ref h), (5, .int (nI (rsA n (none, ob)))), (6, .int (nI n - 1))]) [1, 5, 0] rfl ?_
        rw [hz]
        exact hJ38 () trivial
      · skip
        obtain ⟨x1, rfl⟩ : ∃ x1, oa = some x1 := by
          cases oa with
          | none => exact absurd (show iI none < 0 by decide) c24
          | some x1 => exact ⟨x1, rfl⟩
        refine And.intro (fun c26 => ?_) (fun c26 => ?_)
        · skip
          obtain rfl : ob = none := by
            cases ob with
            | none => rfl
            | some x2 => exact absurd c26 (nI_pos (by have := hob x2 rfl; omega))
          have hz : nI n - 1 = iI (rsB n (some x1, none)) := by rw [n_1 (by omega)]; rfl
          refine vx_gon hC hFt hini (vx_ends hC hr hlk) jc_Mo_resolve 34 4 (by decide) rfl ?_
          refine Vx.subL (lv' := [(0, .ref h), (5, .int (nI (rsA n (some x1, none)))), (6, .int (nI n - 1))]) [1, 5, 0] rfl ?_
          rw [hz]
          exact hJ38 () trivial
        · skip
          obtain ⟨x2, rfl⟩ : ∃ x2, ob = some x2 := by
            cases ob with
            | none => exact absurd (show iI none < 0 by decide) c26
            | some x2 => exact ⟨x2, rfl⟩
          have hx2 := hob x2 rfl
          refine And.intro (fun c31 => ?_) (fun c31 => ?_)
          · skip
            have hz : nI n - 1 = iI (rsB n (some x1, some x2)) := by
              have c31 : nI n - 1 ≤ nI x2 := c31
              rw [n_1 (by omega)] at c31 ⊢
              unfold rsB
              by_cases e : n = 0
              · rw [if_pos e, if_pos e]
              · rw [if_neg e] at c31
                rw [if_neg e, if_neg e]
                have := (nI_leI (a := n - 1) (b := x2) (by omega) (by omega)).mp c31
                show iI (some (n - 1)) = iI (some (if x2 < n - 1 then x2 else n - 1))
                rw [if_neg (by omega)]
            refine vx_gon hC hFt hini (vx_ends hC hr hlk) jc_Mo_resolve 34 4 (by decide) rfl ?_
            refine Vx.subL (lv' := [(0, .ref h), (5, .int (nI (rsA n (some x1, some x2)))), (6, .int (nI n - 1))]) [1, 5, 0] rfl ?_
            rw [hz]
            exact hJ38 () trivial
          · skip
            have hz : iI (some x2) = iI (rsB n (some x1, some x2)) := by
              have c31 : ¬ nI n - 1 ≤ nI x2 := c31
              rw [n_1 (by omega)] at c31
              unfold rsB
              by_cases e : n = 0
              · rw [if_pos e] at c31
                exact absurd (show iI none ≤ nI x2 from nI_m1le (by omega)) c31
              · rw [if_neg e] at c31
                rw [if_neg e]
                have h9 : ¬ n - 1 ≤ x2 := fun z => c31 ((nI_leI (a := n - 1) (b := x2) (by omega) (by omega)).mpr z)
                show iI (some x2) = iI (some (if x2 < n - 1 then x2 else n - 1))
                rw [if_pos (by omega)]
            refine vx_gon hC hFt hini (vx_ends hC hr hlk) jc_Mo_resolve 37 1 (by decide) rfl ?_
            refine Vx.subL (lv' := [(0, .ref h), (5, .int (nI (rsA n (some x1, some x2)))), (6, .int (iI (some x2)))]) [1, 5, 0] rfl ?_
            rw [hz]
            exact hJ38 () trivial
    · intro u9 _
      clear u9
      refine vx_go hC hFt hini (vx_ends hC hr hlk) jc_Mo_resolve 38 (by decide) rfl ?_
      refine And.intro (fun c40 => ?_) (fun c40 => ?_)
      · skip
        refine vx_go hC hFt hini (vx_ends hC hr hlk) jc_Mo_resolve 59 (by decide) rfl ?_
        refine And.intro (trivial) (And.intro ?_ (And.intro (Nat.le_refl _) (Nat.le_refl _)))
        have hr : rsv n (oa, ob) = none := by
          unfold rsv
          cases hb : rsB n (oa, ob) with
          | none => rfl
          | some b =>
            rw [hb] at c40
            have := (nI_ltI (a := b) (b := rsA n (oa, ob)) (by have := rsB_le hb; omega) hA).mp c40
            exact if_neg (by omega)
        exact ⟨rfl, sc, ai, rfl, fun _ => ⟨rfl, rfl⟩, fun v hv => by rw [hr] at hv; cases hv⟩
      · skip
        refine And.intro rfl ?_
        refine And.intro rfl ?_
        refine And.intro rfl (And.intro rfl (And.intro (show vp_in (sc 27) 4 by rw [h27]; exact vp_in_nI hPC (by decide)) ?_))
        refine And.intro rfl ?_
        refine And.intro rfl ?_
        refine And.intro rfl (And.intro rfl (And.intro (show vp_in (sc 27) 4 by rw [h27]; exact vp_in_nI hPC (by decide)) ?_))
        refine And.intro rfl ?_
        refine And.intro rfl ?_
        refine And.intro rfl (And.intro (And.intro rfl rfl) ?_)
        refine And.intro (trivial) (And.intro ?_ (And.intro (Nat.le_refl _) (Nat.le_refl _)))
        obtain ⟨b, hb⟩ : ∃ b, rsB n (oa, ob) = some b := by
          cases hb : rsB n (oa, ob) with
          | none => rw [hb] at c40; exact absurd (show iI none < nI (rsA n (oa, ob)) from Int32.lt_of_lt_of_le (by decide) (nI_ge0 hA)) c40
          | some b => exact ⟨b, rfl⟩
        have hbn := rsB_le hb
        have hr : rsv n (oa, ob) = some (rsA n (oa, ob), b) := by
          unfold rsv
          rw [hb] at c40 ⊢
          exact if_pos (Nat.le_of_not_lt (fun z => c40 ((nI_ltI (a := b) (b := rsA n (oa, ob)) (by omega) hA).mpr z)))
        refine ⟨rfl, upd sc 27 (sc 27 + 1), ap (ap ai 11 (upd (ai 11) (sc 27).toNatClampNeg (nI (rsA n (oa, ob))))) 12 (upd (ai 12) (sc 27).toNatClampNeg (iI (rsB n (oa, ob)))), rfl, fun z => (by rw [hr] at z; cases z), fun v hv => ?_⟩
        rw [hr] at hv
        obtain rfl := Option.some.inj hv
        rw [hb, h27, nI_clamp (by omega), nI_1]
        exact ⟨rfl, rfl⟩
set_option maxRecDepth 100000 in
set_option maxHeartbeats 4000000 in
theorem c_Mo_overlap (l : Launch) (D : va_G) (tys : List (ClassId × FieldType)) (tc : Nat → ClassId) (hty : ∀ i : Nat, i < 4 → tys[i]? = some (tc i, vx_ty i)) (h : Nat) (ar : Nat → Nat) (now : Int64) (sc : Nat → Int32) (ai : Nat → Nat → Int32) (al : Nat → Nat → Int64) (pa : List (Nat × Nat)) (hpa : paA ai pa) (h27 : sc 27 = nI pa.length) : Kt l y_Mo_overlap (yw y_Mo_overlap b_Mo_overlap 4 (some .boolean)) 0 0 0 0 D cls tys (fun _ _ _ => True) [.ref h] (mdW tc h ar now sc ai al) (fun r w => r = some (.int (bI (ovl pa))) ∧ w = (mdW tc h ar now sc ai al)) := by
  refine Kt.of ro_true (by decide) rfl hty (Nat.le_of_ble_eq_true rfl) ?_
  intro p e s m args below meth c0 A hC hr hlk hnm hF
  have hFt : vx_Ft y_Mo_overlap.cls (yw y_Mo_overlap b_Mo_overlap 4 (some .boolean)) cls cty ft_Mo := ft_of (fun w h => List.mem_cons_of_mem _ h) fl_Mo_in ft_Mo_b
  have hini : false = true → meth.name = "<init>" := fun h => by cases h
  have hp4 := hpa.1
  refine vx_gon hC hFt hini (vx_ends hC hr hlk) jc_Mo_overlap 0 4 (by decide) rfl ?_
  refine Vx.subL (lv' := [(0, .ref h), (1, .int (bI false)), (2, .int (nI 0))]) [2, 1, 0] rfl ?_
  obtain ⟨is, his⟩ : ∃ is : Bool, is = false := ⟨_, rfl⟩
  obtain ⟨i, hi0⟩ : ∃ i : Nat, i = 0 := ⟨_, rfl⟩
  refine Vx.eqs rfl (lv2 := [(0, .ref h), (1, .int (bI is)), (2, .int (nI i))]) (by rw [his, hi0]) rfl rfl ?_
  have hinv : is = true ↔ ovP pa i 0 := by
    rw [his, hi0]
    exact ⟨fun z => (by cases z), fun ⟨a, b, z1, z2, _⟩ => by omega⟩
  have hil : i ≤ pa.length := by omega
  clear his hi0
  induction hn : pa.length - i using Nat.strongRecOn generalizing is i with
  | _ n ih =>
    refine vx_gon hC hFt hini (vx_ends hC hr hlk) jc_Mo_overlap 4 6 (by decide) rfl ?_
    refine And.intro rfl ?_
    refine And.intro (fun c7 => ?_) (fun c7 => ?_)
    · skip
      have c7 : pa.length ≤ i := by rw [h27] at c7; exact (nI_leI (by omega) (by omega)).mp c7
      refine vx_go hC hFt hini (vx_ends hC hr hlk) jc_Mo_overlap 41 (by decide) rfl ?_
      refine And.intro ((bI_narrow _)) (And.intro ?_ (And.intro (Nat.le_refl _) (Nat.le_refl _)))
      have he : i = pa.length := by omega
      rw [he] at hinv
      have : ovl pa = is := by
        cases hv : ovl pa with
        | true => exact (hinv.mpr (ovl_iff.mp hv)).symm
        | false =>
          cases is with
          | false => rfl
          | true => rw [ovl_iff.mpr (hinv.mp rfl)] at hv; cases hv
      rw [this]
      exact And.intro rfl rfl
    · skip
      have c7 : ¬ pa.length ≤ i := fun z => c7 (by rw [h27]; exact (nI_leI (by omega) (by omega)).mpr z)
      refine Vx.subL (lv' := [(0, .ref h), (1, .int (bI is)), (2, .int (nI i)), (3, .int (nI 0))]) [1, 2, 3, 0] rfl ?_
      obtain ⟨j, hj0⟩ : ∃ j : Nat, j = 0 := ⟨_, rfl⟩
      refine Vx.eqs rfl (lv2 := [(0, .ref h), (1, .int (bI is)), (2, .int (nI i)), (3, .int (nI j))]) (by rw [hj0]) rfl rfl ?_
      replace hinv : is = true ↔ ovP pa i j := by rw [hj0]; exact hinv
      have hjl : j ≤ i := by omega
      clear hj0
      induction hn2 : i - j using Nat.strongRecOn generalizing is j with
      | _ n2 ih2 =>
        refine vx_go hC hFt hini (vx_ends hC hr hlk) jc_Mo_overlap 10 (by decide) rfl ?_
        refine And.intro (fun c12 => ?_) (fun c12 => ?_)
        · skip
          have c12 := (nI_leI (a := i) (b := j) (by omega) (by omega)).mp c12
          refine vx_go hC hFt hini (vx_ends hC hr hlk) jc_Mo_overlap 39 (by decide) rfl ?_
          refine Vx.subL (lv' := [(0, .ref h), (1, .int (bI is)), (2, .int (nI i + 1))]) [1, 2, 0] rfl ?_
          rw [nI_1]
          exact ih (pa.length - (i + 1)) (by omega) is (i + 1) (by rw [hinv, show j = i by omega]; exact ovP_i.symm) (by omega) rfl
        · skip
          have c12 : ¬ (i ≤ j) := fun z => c12 ((nI_leI (a := i) (b := j) (by omega) (by omega)).mpr z)
          have c12 : j < i := by omega
          refine And.intro (fun c14 => ?_) (fun c14 => ?_)
          · skip
            have c14 : is = true := bI_ne c14
            refine vx_go hC hFt hini (vx_ends hC hr hlk) jc_Mo_overlap 33 (by decide) rfl ?_
            refine vx_go hC hFt hini (vx_ends hC hr hlk) jc_Mo_overlap 36 (by decide) rfl ?_
            refine Vx.subL (lv' := [(0, .ref h), (1, .int (bI true)), (2, .int (nI i)), (3, .int (nI j + 1))]) [2, 1, 3, 0] rfl ?_
            rw [nI_1]
            exact ih2 (i - (j + 1)) (by omega) true (j + 1) ⟨fun _ => (ovP_j c12).mpr (Or.inl (hinv.mp c14)), fun _ => rfl⟩ (by omega) rfl
          · skip
            have c14 : is = false := bI_eq c14
            refine And.intro rfl ?_
            refine And.intro rfl (And.intro rfl (And.intro (vp_in_nI (show i < 4 by have := hpa.1; omega) (by decide)) ?_))
            rw [nI_clamp (by have := hpa.1; omega), (hpa.2 i (by omega)).1]
            refine And.intro rfl ?_
            refine And.intro rfl (And.intro rfl (And.intro (vp_in_nI (show j < 4 by have := hpa.1; omega) (by decide)) ?_))
            rw [nI_clamp (by have := hpa.1; omega), (hpa.2 j (by omega)).2.1]
            refine And.intro (fun c23 => ?_) (fun c23 => ?_)
            · skip
              have c23 : ¬ (pa.getD i (0, 0)).1 ≤ (pa.getD j (0, 0)).2 := fun z => absurd ((nI_ltI (a := (pa.getD j (0, 0)).2) (b := (pa.getD i (0, 0)).1) (by have := (hpa.2 j (by omega)).2.2; omega) (by have := (hpa.2 i (by omega)).2.2; omega)).mp c23) (by omega)
              refine vx_go hC hFt hini (vx_ends hC hr hlk) jc_Mo_overlap 35 (by decide) rfl ?_
              refine Vx.subL (lv' := [(0, .ref h), (1, .int (bI false)), (2, .int (nI i)), (3, .int (nI j + 1))]) [2, 1, 3, 0] rfl ?_
              rw [nI_1]
              exact ih2 (i - (j + 1)) (by omega) false (j + 1) ⟨fun z => (by cases z), fun z => ((ovP_j c12).mp z).elim (fun y => by rw [hinv.mpr y] at c14; cases c14) (fun y => absurd y.1 c23)⟩ (by omega) rfl
            · skip
              have c23 : (pa.getD i (0, 0)).1 ≤ (pa.getD j (0, 0)).2 := Nat.le_of_not_lt (fun z => c23 ((nI_ltI (a := (pa.getD j (0, 0)).2) (b := (pa.getD i (0, 0)).1) (by have := (hpa.2 j (by omega)).2.2; omega) (by have := (hpa.2 i (by omega)).2.2; omega)).mpr z))
              refine And.intro rfl ?_
              refine And.intro rfl (And.intro rfl (And.intro (vp_in_nI (show j < 4 by have := hpa.1; omega) (by decide)) ?_))
              rw [nI_clamp (by have := hpa.1; omega), (hpa.2 j (by omega)).1]
              refine And.intro rfl ?_
              refine And.intro rfl (And.intro rfl (And.intro (vp_in_nI (show i < 4 by have := hpa.1; omega) (by decide)) ?_))
              rw [nI_clamp (by have := hpa.1; omega), (hpa.2 i (by omega)).2.1]
              refine And.intro (fun c32 => ?_) (fun c32 => ?_)
              · skip
                have c32 : ¬ (pa.getD j (0, 0)).1 ≤ (pa.getD i (0, 0)).2 := fun z => absurd ((nI_ltI (a := (pa.getD i (0, 0)).2) (b := (pa.getD j (0, 0)).1) (by have := (hpa.2 i (by omega)).2.2; omega) (by have := (hpa.2 j (by omega)).2.2; omega)).mp c32) (by omega)
                refine vx_go hC hFt hini (vx_ends hC hr hlk) jc_Mo_overlap 35 (by decide) rfl ?_
                refine Vx.subL (lv' := [(0, .ref h), (1, .int (bI false)), (2, .int (nI i)), (3, .int (nI j + 1))]) [2, 1, 3, 0] rfl ?_
                rw [nI_1]
                exact ih2 (i - (j + 1)) (by omega) false (j + 1) ⟨fun z => (by cases z), fun z => ((ovP_j c12).mp z).elim (fun y => by rw [hinv.mpr y] at c14; cases c14) (fun y => absurd y.2 c32)⟩ (by omega) rfl
              · skip
                have c32 : (pa.getD j (0, 0)).1 ≤ (pa.getD i (0, 0)).2 := Nat.le_of_not_lt (fun z => c32 ((nI_ltI (a := (pa.getD i (0, 0)).2) (b := (pa.getD j (0, 0)).1) (by have := (hpa.2 i (by omega)).2.2; omega) (by have := (hpa.2 j (by omega)).2.2; omega)).mpr z))
                refine vx_go hC hFt hini (vx_ends hC hr hlk) jc_Mo_overlap 36 (by decide) rfl ?_
                refine Vx.subL (lv' := [(0, .ref h), (1, .int (bI true)), (2, .int (nI i)), (3, .int (nI j + 1))]) [2, 1, 3, 0] rfl ?_
                rw [nI_1]
                exact ih2 (i - (j + 1)) (by omega) true (j + 1) ⟨fun _ => (ovP_j c12).mpr (Or.inr ⟨c23, c32⟩), fun _ => rfl⟩ (by omega) rfl
theorem dtB_lt {ly wd : Nat} {rs : List Nat} {u : Nat × List Nat} (h : dtB ly wd rs = some u) : u.1 < 2 ^ 63 := by
  have key : ∀ {oy om od ot : Option Nat} {r : List Nat} {u : Nat × List Nat}, (∀ v, ot = some v → v ≤ 86399) → zz oy om od ot r = some u → u.1 < 2 ^ 63 := by
    intro oy om od ot r u ht hz
    unfold zz at hz
    cases hc : calO oy om od ot with
    | none => rw [hc] at hz; cases hz
    | some t =>
      rw [hc] at hz
      obtain rfl := Option.some.inj hz
      have := cal_lt ht hc
      show t < _
      omega
  have kb : ∀ {b : Bool × List Nat} {f : List Nat → Option (Nat × List Nat)} {u : Nat × List Nat}, sb b f = some u → ∃ r, f r = some u := by
    intro b f u hb
    unfold sb at hb
    split at hb
    · exact ⟨_, hb⟩
    · cases hb
  have kn : ∀ {v : Option (Nat × List Nat)} {f : Nat → List Nat → Option (Nat × List Nat)} {u : Nat × List Nat}, sn v f = some u → ∃ z r, v = some (z, r) ∧ f z r = some u := by
    intro v f u hb
    cases v with
    | none => cases hb
    | some w => exact ⟨w.1, w.2, rfl, hb⟩
  have kc : ∀ {rs : List Nat} {z : Nat} {r : List Nat}, clk rs = some (z, r) → ∀ v, some z = some v → v ≤ 86399 := by
    intro rs z r hc v hv
    exact clk_ok (T := rs) (p := 0) (ov := some z) (by rw [List.drop_zero, hc]; rfl) v hv
  have kE : ∀ {oy om od : Option Nat} {r : List Nat} {u : Nat × List Nat}, dE7 om od oy r = some u → u.1 < 2 ^ 63 := by
    intro oy om od r u h7
    obtain ⟨r1, h1⟩ := kb h7
    obtain ⟨z, r2, hc, h2⟩ := kn h1
    obtain ⟨r3, h3⟩ := kb h2
    exact key (kc hc) h3
  have kE1 : ∀ {fu : Bool} {r : List Nat} {u : Nat × List Nat}, dE1 ly fu r = some u → u.1 < 2 ^ 63 := by
    intro fu r u h1
    obtain ⟨r1, h1⟩ := kb h1
    obtain ⟨r2, h2⟩ := kb h1
    obtain ⟨_, r3, _, h3⟩ := kn h2
    obtain ⟨r4, h4⟩ := kb h3
    obtain ⟨_, r5, _, h5⟩ := kn h4
    obtain ⟨r6, h6⟩ := kb h5
    unfold dE6 at h6
    split at h6
    · obtain ⟨_, r7, _, h7⟩ := kn h6
      exact kE h7
    · obtain ⟨_, r7, _, h7⟩ := kn h6
      exact kE h7
  unfold dtB at h
  split at h
  · obtain ⟨_, r1, _, h1⟩ := kn h
    obtain ⟨r2, h2⟩ := kb h1
    obtain ⟨_, r3, _, h3⟩ := kn h2
    obtain ⟨r4, h4⟩ := kb h3
    obtain ⟨z, r5, hc, h5⟩ := kn h4
    obtain ⟨r6, h6⟩ := kb h5
    obtain ⟨_, r7, _, h7⟩ := kn h6
    exact key (kc hc) h7
  · split at h
    · exact kE1 h
    · obtain ⟨r1, h1⟩ := kb h
      exact kE1 h1
theorem dtO_lt {ly : Nat} {T : List Nat} (t : Nat) (h : dtO ly T = some t) : t < 2 ^ 63 := by
  unfold dtO at h
  split at h
  · cases h
  · split at h
    · cases h
    · rename_i hv
      split at h
      · have := dtB_lt hv
        rw [← Option.some.inj h]; exact this
      · cases h
set_option maxRecDepth 100000 in
set_option maxHeartbeats 4000000 in
theorem c_Mo_ifRange (l : Launch) (D : va_G) (tys : List (ClassId × FieldType)) (tc : Nat → ClassId) (hty : ∀ i : Nat, i < 4 → tys[i]? = some (tc i, vx_ty i)) (h : Nat) (ar : Nat → Nat) (now : Int64) (sc : Nat → Int32) (ai : Nat → Nat → Int32) (al : Nat → Nat → Int64) (T : List Nat) (hT : mdT ai 6 T) (N : Nat) (hN : N ≤ 4102444799) (hnow : now = lN N) (i tg : Nat) (wk : Bool) (ch : Nat) (hi4 : i < 4) (htg : ai 4 i = nI tg) (htl : tg ≤ 9999) (hwk : ai 5 i = bI wk) (hch : al 6 i = lN ch) (hchl : ch ≤ 4102444799) : Kt l y_Mo_ifRange (yw y_Mo_ifRange b_Mo_ifRange 4 (some .boolean)) 6 139 0 0 D cls tys (fun _ _ _ => True) [.ref h, .int (nI i)] (mdW tc h ar now sc ai al) (fun r w => r = some (.int (bI (irS (yrN N + 50) (tagL tg) wk ch T))) ∧ ∃ s2, w = mdW tc h ar now s2 ai al ∧ gq sc s2) := by
  refine Kt.of ro_true (by decide) rfl hty (Nat.le_of_ble_eq_true rfl) ?_
  intro p e s m args below meth c0 A hC hr hlk hnm hF
  have hFt : vx_Ft y_Mo_ifRange.cls (yw y_Mo_ifRange b_Mo_ifRange 4 (some .boolean)) cls cty ft_Mo := ft_of (fun w h => List.mem_cons_of_mem _ h) fl_Mo_in ft_Mo_b
  have hini : false = true → meth.name = "<init>" := fun h => by cases h
  have hTl := hT.2.2.2.1
  obtain ⟨P0, hP0⟩ : ∃ P0, pz T 0 isGp = P0 := ⟨_, rfl⟩
  have hP0l : P0 ≤ T.length := by rw [← hP0]; exact pz_lt (Nat.zero_le _)
  have hgpT : gp T = T.drop P0 := by rw [← hP0]; exact gp_at (ps := 0)
  refine vx_cut (α := Unit) 54 (fun u => (T.getD P0 0 = 34 ∨ (T.getD P0 0 = 87 ∧ T.getD (P0 + 1) 0 = 47)) ∧ ¬ T = []) (fun u => [(0, .ref h), (1, .int (nI i))]) (fun u => []) (fun u => mdW tc h ar now (upd (upd (upd sc 11 (nI 6)) 12 (nI 0)) 12 (nI P0)) ai al) (fun hJ27 => ?_) ?_
  · skip
    refine vx_gon hC hFt hini (vx_ends hC hr hlk) jc_Mo_ifRange 0 27 (by decide) rfl ?_
    refine mo_call hC (c_Mo_there l D tys tc hty h ar now sc ai al 6 T (by decide) hT.2.2.2 hT.2.1) wm_Mo_there wl_Mo_223 wi_Mo_there ws_Mo_Mo_there ⟨by decide, by decide⟩ rfl rfl (Nat.le_of_ble_eq_true rfl) ⟨Nat.zero_le _, Nat.zero_le _⟩ (fun r' w1 hp => ?_)
    obtain ⟨rfl, rfl⟩ := hp
    refine And.intro (fun c3 => ?_) (fun c3 => ?_)
    · skip
      have c3 : 0 < T.length := of_decide_eq_true (bI_ne c3)
      have hTn : ¬ T = [] := fun z => by rw [z] at c3; exact absurd c3 (by decide)
      refine vx_gon hC hFt hini (vx_ends hC hr hlk) jc_Mo_ifRange 6 21 (by decide) rfl ?_
      refine mo_call hC (c_Mo_open l D tys tc hty h ar now sc ai al 6) wm_Mo_open wl_Mo_199 wi_Mo_open ws_Mo_Mo_open ⟨by decide, by decide⟩ rfl rfl (Nat.le_of_ble_eq_true rfl) ⟨Nat.zero_le _, Nat.zero_le _⟩ (fun r' w1 hp => ?_)
      obtain ⟨rfl, rfl⟩ := hp
      refine mo_call hC (c_Mo_gap l D tys tc hty h ar now (upd (upd sc 11 (nI 6)) 12 (nI 0)) ai al 6 T 0 hT.opn) wm_Mo_gap wl_Mo_156 wi_Mo_gap ws_Mo_Mo_gap ⟨by decide, by decide⟩ rfl rfl (Nat.le_of_ble_eq_true rfl) ⟨Nat.zero_le _, Nat.zero_le _⟩ (fun r' w1 hp => ?_)
      obtain ⟨rfl, rfl⟩ := hp
      rw [hP0]
      refine mo_call hC (c_Mo_next l D tys tc hty h ar now (upd (upd (upd sc 11 (nI 6)) 12 (nI 0)) 12 (nI P0)) ai al 6 T P0 (hT.opn.at (by omega))) wm_Mo_next wl_Mo_115 wi_Mo_next ws_Mo_Mo_next ⟨by decide, by decide⟩ rfl rfl (Nat.le_of_ble_eq_true rfl) ⟨Nat.zero_le _, Nat.zero_le _⟩ (fun r' w1 hp => ?_)
      obtain ⟨rfl, rfl⟩ := hp
      refine And.intro (fun c14 => ?_) (fun c14 => ?_)
      · skip
        have c14 : T.getD P0 0 = 34 := (nI_eq (by have := T_lt hT.2.2.2 (P0); omega) (by omega)).mp c14
        refine Vx.subL (lv' := [(0, .ref h), (1, .int (nI i))]) [0, 1] rfl ?_
        exact hJ27 () ⟨Or.inl c14, hTn⟩
      · skip
        have c14 : ¬ (T.getD P0 0 = 34) := fun z => c14 (by rw [z]; rfl)
        refine mo_call hC (c_Mo_next l D tys tc hty h ar now (upd (upd (upd sc 11 (nI 6)) 12 (nI 0)) 12 (nI P0)) ai al 6 T P0 (hT.opn.at (by omega))) wm_Mo_next wl_Mo_115 wi_Mo_next ws_Mo_Mo_next ⟨by decide, by decide⟩ rfl rfl (Nat.le_of_ble_eq_true rfl) ⟨Nat.zero_le _, Nat.zero_le _⟩ (fun r' w1 hp => ?_)
        obtain ⟨rfl, rfl⟩ := hp
        refine And.intro (fun c18 => ?_) (fun c18 => ?_)
        · skip
          have c18 : ¬ (T.getD P0 0 = 87) := fun z => c18 (by rw [z]; rfl)
          refine Vx.subL (lv' := [(0, .ref h), (1, .int (nI i))]) [0, 1] rfl ?_
          have hnl := tag_nl (W := tagL tg) hgpT c14 (fun z => c18 z.1)
          refine vx_go hC hFt hini (vx_ends hC hr hlk) jc_Mo_ifRange 59 (by decide) rfl ?_
          refine mo_call hC (c_Mo_dateOf l D tys tc hty h ar now (upd (upd (upd sc 11 (nI 6)) 12 (nI 0)) 12 (nI P0)) ai al 6 T hT N hN hnow) wm_Mo_dateOf wl_Mo_316 wi_Mo_dateOf ws_Mo_Mo_dateOf ⟨by decide, by decide⟩ rfl rfl (Nat.le_of_ble_eq_true rfl) ⟨Nat.zero_le _, Nat.zero_le _⟩ (fun r' w1 hp => ?_)
          obtain ⟨rfl, s2, rfl, hg2⟩ := hp
          refine And.intro rfl ?_
          refine And.intro rfl (And.intro rfl (And.intro (vp_in_nI hi4 (by decide)) ?_))
          rw [nI_clamp (by omega), hch]
          refine And.intro (fun c67 => ?_) (fun c67 => ?_)
          · skip
            have c67 : ¬ dtO (yrN N + 50) T = some ch := fun z => c67 (lc_eq.mpr ((lI_eq dtO_lt (by omega)).mpr z))
            refine vx_go hC hFt hini (vx_ends hC hr hlk) jc_Mo_ifRange 70 (by decide) rfl ?_
            refine And.intro (rfl) (And.intro ?_ (And.intro (Nat.le_refl _) (Nat.le_refl _)))
            rw [show irS (yrN N + 50) (tagL tg) wk ch T = false by rw [irS, if_neg hTn, hnl]; exact decide_eq_false c67]
            exact ⟨rfl, s2, rfl, (((gq.refl.upd (k := 11) (by decide)).upd (k := 12) (by decide)).upd (k := 12) (by decide)).trans hg2⟩
          · skip
            have c67 : dtO (yrN N + 50) T = some ch := (lI_eq dtO_lt (by omega)).mp (lc_eq.mp c67)
            refine vx_go hC hFt hini (vx_ends hC hr hlk) jc_Mo_ifRange 71 (by decide) rfl ?_
            refine And.intro (rfl) (And.intro ?_ (And.intro (Nat.le_refl _) (Nat.le_refl _)))
            rw [show irS (yrN N + 50) (tagL tg) wk ch T = true by rw [irS, if_neg hTn, hnl]; exact decide_eq_true c67]
            exact ⟨rfl, s2, rfl, (((gq.refl.upd (k := 11) (by decide)).upd (k := 12) (by decide)).upd (k := 12) (by decide)).trans hg2⟩
        · skip
          have c18 : T.getD P0 0 = 87 := (nI_eq (by have := T_lt hT.2.2.2 (P0); omega) (by omega)).mp c18
          refine And.intro rfl ?_
          refine mo_call hC (c_Mo_charAt l D tys tc hty h ar now (upd (upd (upd sc 11 (nI 6)) 12 (nI 0)) 12 (nI P0)) ai al 6 T P0 (hT.opn.at (by omega)) (P0 + 1) (by omega)) wm_Mo_charAt wl_Mo_111 wi_Mo_charAt ws_Mo_Mo_charAt ⟨by decide, by decide⟩ rfl (show [Value.int (nI P0 + 1), Value.ref h] = [Value.int (nI (P0 + 1)), Value.ref h] by rw [nI_1]) (Nat.le_of_ble_eq_true rfl) ⟨Nat.zero_le _, Nat.zero_le _⟩ (fun r' w1 hp => ?_)
          obtain ⟨rfl, rfl⟩ := hp
          refine And.intro (fun c26 => ?_) (fun c26 => ?_)
          · skip
            have c26 : ¬ (T.getD (P0 + 1) 0 = 47) := fun z => c26 (by rw [z]; rfl)
            refine Vx.subL (lv' := [(0, .ref h), (1, .int (nI i))]) [0, 1] rfl ?_
            have hnl := tag_nl (W := tagL tg) hgpT c14 (fun z => c26 z.2)
            refine vx_go hC hFt hini (vx_ends hC hr hlk) jc_Mo_ifRange 59 (by decide) rfl ?_
            refine mo_call hC (c_Mo_dateOf l D tys tc hty h ar now (upd (upd (upd sc 11 (nI 6)) 12 (nI 0)) 12 (nI P0)) ai al 6 T hT N hN hnow) wm_Mo_dateOf wl_Mo_316 wi_Mo_dateOf ws_Mo_Mo_dateOf ⟨by decide, by decide⟩ rfl rfl (Nat.le_of_ble_eq_true rfl) ⟨Nat.zero_le _, Nat.zero_le _⟩ (fun r' w1 hp => ?_)
            obtain ⟨rfl, s2, rfl, hg2⟩ := hp
            refine And.intro rfl ?_
            refine And.intro rfl (And.intro rfl (And.intro (vp_in_nI hi4 (by decide)) ?_))
            rw [nI_clamp (by omega), hch]
            refine And.intro (fun c67 => ?_) (fun c67 => ?_)
            · skip
              have c67 : ¬ dtO (yrN N + 50) T = some ch := fun z => c67 (lc_eq.mpr ((lI_eq dtO_lt (by omega)).mpr z))
              refine vx_go hC hFt hini (vx_ends hC hr hlk) jc_Mo_ifRange 70 (by decide) rfl ?_
              refine And.intro (rfl) (And.intro ?_ (And.intro (Nat.le_refl _) (Nat.le_refl _)))
              rw [show irS (yrN N + 50) (tagL tg) wk ch T = false by rw [irS, if_neg hTn, hnl]; exact decide_eq_false c67]
              exact ⟨rfl, s2, rfl, (((gq.refl.upd (k := 11) (by decide)).upd (k := 12) (by decide)).upd (k := 12) (by decide)).trans hg2⟩
            · skip
              have c67 : dtO (yrN N + 50) T = some ch := (lI_eq dtO_lt (by omega)).mp (lc_eq.mp c67)
              refine vx_go hC hFt hini (vx_ends hC hr hlk) jc_Mo_ifRange 71 (by decide) rfl ?_
              refine And.intro (rfl) (And.intro ?_ (And.intro (Nat.le_refl _) (Nat.le_refl _)))
              rw [show irS (yrN N + 50) (tagL tg) wk ch T = true by rw [irS, if_neg hTn, hnl]; exact decide_eq_true c67]
              exact ⟨rfl, s2, rfl, (((gq.refl.upd (k := 11) (by decide)).upd (k := 12) (by decide)).upd (k := 12) (by decide)).trans hg2⟩
          · skip
            have c26 : T.getD (P0 + 1) 0 = 47 := (nI_eq (by have := T_lt hT.2.2.2 ((P0 + 1)); omega) (by omega)).mp c26
            refine Vx.subL (lv' := [(0, .ref h), (1, .int (nI i))]) [0, 1] rfl ?_
            exact hJ27 () ⟨Or.inr ⟨c18, c26⟩, hTn⟩
    · skip
      have c3 : ¬ 0 < T.length := of_decide_eq_false (bI_eq c3)
      refine And.intro (rfl) (And.intro ?_ (And.intro (Nat.le_refl _) (Nat.le_refl _)))
      rw [show irS (yrN N + 50) (tagL tg) wk ch T = true by rw [irS, if_pos (List.eq_nil_of_length_eq_zero (by omega))]]
      exact ⟨rfl, sc, rfl, gq.refl⟩
  · rintro u9 ⟨htl9, hTn⟩
    clear u9
    refine vx_gon hC hFt hini (vx_ends hC hr hlk) jc_Mo_ifRange 27 3 (by decide) rfl ?_
    refine mo_call hC (c_Mo_tagText l D tys tc hty h ar now (upd (upd (upd sc 11 (nI 6)) 12 (nI 0)) 12 (nI P0)) ai al 6 T P0 (hT.opn.at (by omega)) hP0l) wm_Mo_tagText wl_Mo_235 wi_Mo_tagText ws_Mo_Mo_tagText ⟨by decide, by decide⟩ rfl rfl (Nat.le_of_ble_eq_true rfl) ⟨Nat.zero_le _, Nat.zero_le _⟩ (fun r' w1 hp => ?_)
    obtain ⟨rfl, s5, p5, rfl, hg5, h511, h512, hp5l, hx5⟩ := hp
    have hM5 : mdS s5 ai 6 T p5 := (hT.opn.at (p2 := P0) (by omega)).gq h511 h512 (by omega)
    refine Vx.subL (lv' := [(0, .ref h), (1, .int (nI i)), (2, .int (bI (tgt (T.drop P0)).1))]) [1, 2, 0] rfl ?_
    refine vx_cut (α := Bool) 93 (fun u => ((tgt (T.drop P0)).1 && (sameL (tgt (T.drop P0)).2.2.2 (tagL tg) && !(tgt (T.drop P0)).2.1 && !wk)) = u) (fun u => [(0, .ref h), (3, .int (bI u))]) (fun u => []) (fun u => mdW tc h ar now s5 ai al) (fun hJ48 => ?_) ?_
    · skip
      refine vx_gon hC hFt hini (vx_ends hC hr hlk) jc_Mo_ifRange 30 18 (by decide) rfl ?_
      refine And.intro (fun c31 => ?_) (fun c31 => ?_)
      · skip
        have c31 : (tgt (T.drop P0)).1 = false := bI_eq c31
        refine vx_gon hC hFt hini (vx_ends hC hr hlk) jc_Mo_ifRange 46 2 (by decide) rfl ?_
        refine Vx.subL (lv' := [(0, .ref h), (3, .int (bI false))]) [1, 0] rfl ?_
        exact hJ48 false (by rw [c31, Bool.false_and])
      · skip
        have c31 : (tgt (T.drop P0)).1 = true := bI_ne c31
        obtain ⟨hr5, h515, a5, b5, h513, h514, hab5, hb5, hS5⟩ := hx5 c31
        refine And.intro rfl ?_
        refine And.intro (fun c34 => ?_) (fun c34 => ?_)
        · skip
          have c34 : (tgt (T.drop P0)).2.1 = true := by rw [h515] at c34; exact bI_ne c34
          refine vx_gon hC hFt hini (vx_ends hC hr hlk) jc_Mo_ifRange 46 2 (by decide) rfl ?_
          refine Vx.subL (lv' := [(0, .ref h), (3, .int (bI false))]) [1, 0] rfl ?_
          exact hJ48 false (by rw [c34, Bool.not_true, Bool.and_false, Bool.false_and, Bool.and_false])
        · skip
          have c34 : (tgt (T.drop P0)).2.1 = false := by rw [h515] at c34; exact bI_eq c34
          refine And.intro rfl ?_
          refine And.intro rfl (And.intro rfl (And.intro (vp_in_nI hi4 (by decide)) ?_))
          rw [nI_clamp (by omega), hwk]
          refine And.intro (fun c39 => ?_) (fun c39 => ?_)
          · skip
            have c39 : wk = true := bI_ne c39
            refine vx_gon hC hFt hini (vx_ends hC hr hlk) jc_Mo_ifRange 46 2 (by decide) rfl ?_
            refine Vx.subL (lv' := [(0, .ref h), (3, .int (bI false))]) [1, 0] rfl ?_
            exact hJ48 false (by rw [c39, Bool.not_true, Bool.and_false, Bool.and_false])
          · skip
            have c39 : wk = false := bI_eq c39
            refine mo_call hC (c_Mo_isTagOf l D tys tc hty h ar now s5 ai al 6 T p5 hM5 a5 b5 hab5 hb5 h513 h514 i tg hi4 htg htl) wm_Mo_isTagOf wl_Mo_238 wi_Mo_isTagOf ws_Mo_Mo_isTagOf ⟨by decide, by decide⟩ rfl rfl (Nat.le_of_ble_eq_true rfl) ⟨Nat.zero_le _, Nat.zero_le _⟩ (fun r' w1 hp => ?_)
            obtain ⟨rfl, rfl⟩ := hp
            refine And.intro (fun c43 => ?_) (fun c43 => ?_)
            · skip
              have c43 : sameL (tgt (T.drop P0)).2.2.2 (tagL tg) = false := by rw [hS5]; exact bI_eq c43
              refine vx_gon hC hFt hini (vx_ends hC hr hlk) jc_Mo_ifRange 46 2 (by decide) rfl ?_
              refine Vx.subL (lv' := [(0, .ref h), (3, .int (bI false))]) [1, 0] rfl ?_
              exact hJ48 false (by rw [c43, Bool.false_and, Bool.false_and, Bool.and_false])
            · skip
              have c43 : sameL (tgt (T.drop P0)).2.2.2 (tagL tg) = true := by rw [hS5]; exact bI_ne c43
              refine vx_gon hC hFt hini (vx_ends hC hr hlk) jc_Mo_ifRange 47 1 (by decide) rfl ?_
              refine Vx.subL (lv' := [(0, .ref h), (3, .int (bI true))]) [1, 0] rfl ?_
              exact hJ48 true (by rw [c31, c34, c39, c43]; rfl)
    · intro sm hsm
      refine vx_go hC hFt hini (vx_ends hC hr hlk) jc_Mo_ifRange 48 (by decide) rfl ?_
      refine mo_call hC (c_Mo_gap l D tys tc hty h ar now s5 ai al 6 T p5 hM5) wm_Mo_gap wl_Mo_156 wi_Mo_gap ws_Mo_Mo_gap ⟨by decide, by decide⟩ rfl rfl (Nat.le_of_ble_eq_true rfl) ⟨Nat.zero_le _, Nat.zero_le _⟩ (fun r' w1 hp => ?_)
      obtain ⟨rfl, rfl⟩ := hp
      refine And.intro (fun c51 => ?_) (fun c51 => ?_)
      · skip
        have c51 : sm = false := bI_eq c51
        refine vx_go hC hFt hini (vx_ends hC hr hlk) jc_Mo_ifRange 57 (by decide) rfl ?_
        refine And.intro (rfl) (And.intro ?_ (And.intro (Nat.le_refl _) (Nat.le_refl _)))
        rw [show irS (yrN N + 50) (tagL tg) wk ch T = false by
          rw [irS, if_neg hTn, lonT, hgpT]
          by_cases h1 : (tgt (T.drop P0)).1 = true
          · rw [if_pos h1, ← (hx5 h1).1, gp_at]
            by_cases h2 : T.drop (pz T p5 isGp) = []
            · rw [if_pos h2]
              rw [h1] at hsm
              rw [c51] at hsm; exact hsm
            · rw [if_neg h2]; exact decide_eq_false (by rw [tag_nd hgpT htl9]; exact fun z => by cases z)
          · rw [if_neg h1]; exact decide_eq_false (by rw [tag_nd hgpT htl9]; exact fun z => by cases z)]
        exact ⟨rfl, upd s5 12 (nI (pz T p5 isGp)), rfl, ((((gq.refl.upd (k := 11) (by decide)).upd (k := 12) (by decide)).upd (k := 12) (by decide)).trans hg5).upd (by decide)⟩
      · skip
        have c51 : sm = true := bI_ne c51
        refine mo_call hC (c_Mo_ended l D tys tc hty h ar now (upd s5 12 (nI (pz T p5 isGp))) ai al 6 T (pz T p5 isGp) (hM5.at (pz_le (by omega) (by omega)))) wm_Mo_ended wl_Mo_166 wi_Mo_ended ws_Mo_Mo_ended ⟨by decide, by decide⟩ rfl rfl (Nat.le_of_ble_eq_true rfl) ⟨Nat.zero_le _, Nat.zero_le _⟩ (fun r' w1 hp => ?_)
        obtain ⟨rfl, rfl⟩ := hp
        refine And.intro (fun c54 => ?_) (fun c54 => ?_)
        · skip
          have c54 : ¬ T.length ≤ pz T p5 isGp := of_decide_eq_false (bI_eq c54)
          refine vx_go hC hFt hini (vx_ends hC hr hlk) jc_Mo_ifRange 57 (by decide) rfl ?_
          refine And.intro (rfl) (And.intro ?_ (And.intro (Nat.le_refl _) (Nat.le_refl _)))
          rw [show irS (yrN N + 50) (tagL tg) wk ch T = false by
            rw [irS, if_neg hTn, lonT, hgpT]
            by_cases h1 : (tgt (T.drop P0)).1 = true
            · rw [if_pos h1, ← (hx5 h1).1, gp_at]
              by_cases h2 : T.drop (pz T p5 isGp) = []
              · rw [if_pos h2]
                rw [h1] at hsm
                exact absurd (List.drop_eq_nil_iff.mp h2) c54
              · rw [if_neg h2]; exact decide_eq_false (by rw [tag_nd hgpT htl9]; exact fun z => by cases z)
            · rw [if_neg h1]; exact decide_eq_false (by rw [tag_nd hgpT htl9]; exact fun z => by cases z)]
          exact ⟨rfl, upd s5 12 (nI (pz T p5 isGp)), rfl, ((((gq.refl.upd (k := 11) (by decide)).upd (k := 12) (by decide)).upd (k := 12) (by decide)).trans hg5).upd (by decide)⟩
        · skip
          have c54 : T.length ≤ pz T p5 isGp := of_decide_eq_true (bI_ne c54)
          refine vx_go hC hFt hini (vx_ends hC hr hlk) jc_Mo_ifRange 58 (by decide) rfl ?_
          refine And.intro (rfl) (And.intro ?_ (And.intro (Nat.le_refl _) (Nat.le_refl _)))
          subst c51
          have h1 : (tgt (T.drop P0)).1 = true := by
            cases h : (tgt (T.drop P0)).1 with
            | true => rfl
            | false => rw [h] at hsm; cases hsm
          have hx5 := hx5 h1
          rw [show irS (yrN N + 50) (tagL tg) wk ch T = true by
            rw [irS, if_neg hTn, lonT, hgpT, if_pos h1, ← hx5.1, gp_at, if_pos (drop_end c54)]
            rw [h1] at hsm
            exact hsm]
          exact ⟨rfl, upd s5 12 (nI (pz T p5 isGp)), rfl, ((((gq.refl.upd (k := 11) (by decide)).upd (k := 12) (by decide)).upd (k := 12) (by decide)).trans hg5).upd (by decide)⟩
