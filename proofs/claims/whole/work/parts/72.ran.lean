/-! THE CLASS: Ranges, by program (wip/whole/gen/p72.py) -/
def raW (tc : Nat → ClassId) (h ra sa fa la : Nat) (T rs : List Nat) (sd : Nat → Int32) (ss : Nat) (sp kp : Int32) (f1 f2 : Nat → Int32) : va_W := [(h, .inr (4, [.ref ra, .int (nI T.length), .int (nI (T.length - rs.length)), .ref sa, .int (nI ss), .ref fa, .ref la, .int sp, .int kp])), (sa, .inl (tc 0, 96, .inl sd)), (fa, .inl (tc 0, 4, .inl f1)), (la, .inl (tc 0, 4, .inl f2))]
/-- the ranges that are kept -/
def kpA (f1 f2 : Nat → Int32) (kp : List (Nat × Nat)) : Prop := kp.length ≤ 4 ∧ ∀ i, i < kp.length → f1 i = nI (kp.getD i (0, 0)).1 ∧ f2 i = nI (kp.getD i (0, 0)).2 ∧ (kp.getD i (0, 0)).1 ≤ (kp.getD i (0, 0)).2 ∧ (kp.getD i (0, 0)).2 < 100000
def keepL (kp : List (Nat × Nat)) (v : Option (Nat × Nat)) : List (Nat × Nat) := match v with
  | none => kp
  | some v => if kp.length < 4 then kp ++ [v] else kp
theorem keepL_take {X : List (Nat × Nat)} {v : Option (Nat × Nat)} : keepL (X.take 4) v = (X ++ (match v with
    | none => []
    | some v => [v])).take 4 := by
  cases v with
  | none => rw [List.append_nil]; rfl
  | some v =>
    show (if (X.take 4).length < 4 then X.take 4 ++ [v] else X.take 4) = (X ++ [v]).take 4
    by_cases e : X.length < 4
    · rw [List.take_of_length_le (by omega : X.length ≤ 4), if_pos e, List.take_of_length_le (by rw [List.length_append, List.length_singleton]; omega)]
    · rw [if_neg (by rw [List.length_take]; omega), List.take_append_of_le_length (by omega)]
theorem kpA_add {f1 f2 : Nat → Int32} {kp : List (Nat × Nat)} {v : Nat × Nat} (h : kpA f1 f2 kp) (h4 : kp.length < 4) (h1 : v.1 ≤ v.2) (h2 : v.2 < 100000) : kpA (upd f1 kp.length (nI v.1)) (upd f2 kp.length (nI v.2)) (kp ++ [v]) := by
  refine ⟨by rw [List.length_append, List.length_singleton]; omega, fun i hi => ?_⟩
  rw [List.length_append, List.length_singleton] at hi
  by_cases e : i = kp.length
  · subst e
    rw [getD_r, pk_us, pk_us]; exact ⟨rfl, rfl, h1, h2⟩
  · rw [getD_l (by omega), pk_un e, pk_un e]; exact h.2 i (by omega)
theorem rsv_AB {n : Nat} {u : Option Nat × Option Nat} (hn : n ≤ 100000) (hA : rsA n u < 2 ^ 31) : (rsv n u = none → ¬ nI (rsA n u) ≤ iI (rsB n u)) ∧ ∀ v, rsv n u = some v → nI (rsA n u) = nI v.1 ∧ iI (rsB n u) = nI v.2 ∧ nI (rsA n u) ≤ iI (rsB n u) := by
  unfold rsv
  cases hb : rsB n u with
  | none =>
    refine ⟨fun _ z => ?_, fun v hv => by cases hv⟩
    exact absurd z (nI_nneg hA)
  | some b =>
    have h1 := rsB_le hb
    simp only []
    by_cases e : rsA n u ≤ b
    · rw [if_pos e]
      refine ⟨(fun z => by cases z), fun v hv => ?_⟩
      obtain rfl := Option.some.inj hv
      exact ⟨rfl, rfl, (nI_leI hA (by omega)).mpr e⟩
    · rw [if_neg e]
      exact ⟨fun _ z => e ((nI_leI hA (by omega)).mp z), fun v hv => by cases hv⟩
theorem rsA_lt {n : Nat} {oa ob : Option Nat} (hn : n ≤ 100000) (ho : ∀ v, oa = some v → v ≤ 999999999) : rsA n (oa, ob) < 2 ^ 31 := by
  cases oa with
  | some a => have := ho a rfl; show a < _; omega
  | none => cases ob with
    | none => show n + 1 < _; omega
    | some q => show n - q < _; omega
set_option maxRecDepth 100000 in
set_option maxHeartbeats 4000000 in
theorem c_Ra_keep (l : Launch) (D : va_G) (tys : List (ClassId × FieldType)) (tc : Nat → ClassId) (hty : ∀ i : Nat, i < 4 → tys[i]? = some (tc i, vx_ty i)) (h ra sa fa la : Nat) (T rs : List Nat) (sd : Nat → Int32) (ss : Nat) (hT : isT T) (hs : rs <:+ T) (K : Nat → Nat) (sp : Int32) (kp : List (Nat × Nat)) (f1 f2 : Nat → Int32) (hkp : kpA f1 f2 kp) (A B : Int32) (va : Option (Nat × Nat)) (hab : ∀ v, va = some v → v.1 < 2 ^ 31) (hv : (va = none → ¬ A ≤ B) ∧ ∀ v, va = some v → A = nI v.1 ∧ B = nI v.2 ∧ A ≤ B ∧ v.2 < 100000) : Kt l y_Ra_keep (yw y_Ra_keep b_Ra_keep 3 none) 0 0 0 0 D cls tys (fun A U H => rdF ra T A U H ∧ gF K A U H) [.ref h, .int A, .int B] (raW tc h ra sa fa la T rs sd ss (sp) (nI kp.length) f1 f2) (fun r w => r = none ∧ ∃ g1 g2, w = (raW tc h ra sa fa la T rs sd ss (sp) (nI (keepL kp va).length) g1 g2) ∧ kpA g1 g2 (keepL kp va)) := by
  refine Kt.of (ro_and (rdF_ro ra T) (gF_ro K)) (by decide) rfl hty (Nat.le_of_ble_eq_true rfl) ?_
  intro p e s m args below meth c0 A hC hr hlk hnm hF
  have hFt : vx_Ft y_Ra_keep.cls (yw y_Ra_keep b_Ra_keep 3 none) cls cty ft_Ra := ft_of (fun w h => List.mem_cons_of_mem _ h) fl_Ra_in ft_Ra_b
  have hini : false = true → meth.name = "<init>" := fun h => by cases h
  obtain ⟨hrd, hg⟩ := hF
  have hTl := hT.1
  have hk4 := hkp.1
  refine vx_go hC hFt hini (vx_ends hC hr hlk) jc_Ra_keep 0 (by decide) rfl ?_
  refine And.intro (fun c2 => ?_) (fun c2 => ?_)
  · skip
    refine vx_go hC hFt hini (vx_ends hC hr hlk) jc_Ra_keep 25 (by decide) rfl ?_
    refine And.intro (trivial) (And.intro ?_ (And.intro (Nat.le_refl _) (Nat.le_refl _)))
    have hv0 : va = none := by
      cases hva : va with
      | none => rfl
      | some v => exact absurd (hv.2 v hva).2.2.1 (Int32.not_le.mpr c2)
    rw [hv0]
    exact ⟨rfl, f1, f2, rfl, hkp⟩
  · skip
    refine And.intro rfl ?_
    refine And.intro (fun c6 => ?_) (fun c6 => ?_)
    · skip
      have c6 : 4 ≤ kp.length := (nI_leI (a := 4) (by omega) (by omega)).mp c6
      refine vx_go hC hFt hini (vx_ends hC hr hlk) jc_Ra_keep 25 (by decide) rfl ?_
      refine And.intro (trivial) (And.intro ?_ (And.intro (Nat.le_refl _) (Nat.le_refl _)))
      obtain ⟨v, rfl⟩ : ∃ v, va = some v := by
        cases hva : va with
        | none => exact absurd (Int32.not_lt.mp c2) (hv.1 hva)
        | some v => exact ⟨v, rfl⟩
      obtain ⟨rfl, rfl, hle, hlt⟩ := hv.2 v rfl
      rw [show keepL kp (some v) = kp from if_neg (by omega)]
      exact ⟨rfl, f1, f2, rfl, hkp⟩
    · skip
      have c6 : ¬ 4 ≤ kp.length := fun z => c6 ((nI_leI (a := 4) (by omega) (by omega)).mpr z)
      refine And.intro rfl ?_
      refine And.intro rfl ?_
      refine And.intro rfl (And.intro rfl (And.intro (vp_in_nI (show kp.length < 4 by omega) (by decide)) ?_))
      refine And.intro rfl ?_
      refine And.intro rfl ?_
      refine And.intro rfl (And.intro rfl (And.intro (vp_in_nI (show kp.length < 4 by omega) (by decide)) ?_))
      refine And.intro rfl ?_
      refine And.intro rfl ?_
      refine And.intro rfl (And.intro (And.intro rfl rfl) ?_)
      refine And.intro (trivial) (And.intro ?_ (And.intro (Nat.le_refl _) (Nat.le_refl _)))
      obtain ⟨v, rfl⟩ : ∃ v, va = some v := by
        cases hva : va with
        | none => exact absurd (Int32.not_lt.mp c2) (hv.1 hva)
        | some v => exact ⟨v, rfl⟩
      obtain ⟨rfl, rfl, hle, hlt⟩ := hv.2 v rfl
      rw [show keepL kp (some v) = kp ++ [v] from if_pos (by omega)]
      refine ⟨rfl, upd f1 kp.length (nI v.1), upd f2 kp.length (nI v.2), ?_, kpA_add hkp (by omega) ((nI_leI (by exact hab v rfl) (by omega)).mp hle) hlt⟩
      rw [nI_clamp (by omega), List.length_append, ← nI_add]
      rfl
set_option maxRecDepth 100000 in
set_option maxHeartbeats 4000000 in
theorem c_Ra_overlap (l : Launch) (D : va_G) (tys : List (ClassId × FieldType)) (tc : Nat → ClassId) (hty : ∀ i : Nat, i < 4 → tys[i]? = some (tc i, vx_ty i)) (h ra sa fa la : Nat) (T rs : List Nat) (sd : Nat → Int32) (ss : Nat) (hT : isT T) (hs : rs <:+ T) (K : Nat → Nat) (sp : Int32) (kp : List (Nat × Nat)) (f1 f2 : Nat → Int32) (hkp : kpA f1 f2 kp) : Kt l y_Ra_overlap (yw y_Ra_overlap b_Ra_overlap 3 (some .boolean)) 0 0 0 0 D cls tys (fun A U H => rdF ra T A U H ∧ gF K A U H) [.ref h] (raW tc h ra sa fa la T rs sd ss (sp) (nI kp.length) f1 f2) (fun r w => r = some (.int (bI (ovl kp))) ∧ w = (raW tc h ra sa fa la T rs sd ss (sp) (nI kp.length) f1 f2)) := by
  refine Kt.of (ro_and (rdF_ro ra T) (gF_ro K)) (by decide) rfl hty (Nat.le_of_ble_eq_true rfl) ?_
  intro p e s m args below meth c0 A hC hr hlk hnm hF
  have hFt : vx_Ft y_Ra_overlap.cls (yw y_Ra_overlap b_Ra_overlap 3 (some .boolean)) cls cty ft_Ra := ft_of (fun w h => List.mem_cons_of_mem _ h) fl_Ra_in ft_Ra_b
  have hini : false = true → meth.name = "<init>" := fun h => by cases h
  obtain ⟨hrd, hg⟩ := hF
  have hTl := hT.1
  have hk4 := hkp.1
  refine vx_gon hC hFt hini (vx_ends hC hr hlk) jc_Ra_overlap 0 2 (by decide) rfl ?_
  refine Vx.subL (lv' := [(0, .ref h), (1, .int (nI 1))]) [1, 0] rfl ?_
  obtain ⟨i, hi0⟩ : ∃ i : Nat, i = 1 := ⟨_, rfl⟩
  refine Vx.eqs rfl (lv2 := [(0, .ref h), (1, .int (nI i))]) (by rw [hi0]) rfl rfl ?_
  have hinv : ¬ ovP kp i 0 := by
    rw [hi0]
    rintro ⟨a, b, z1, z2, _⟩
    omega
  have hil : i ≤ 5 := by omega
  clear hi0
  induction hn : 5 - i using Nat.strongRecOn generalizing i with
  | _ n ih =>
    refine vx_gon hC hFt hini (vx_ends hC hr hlk) jc_Ra_overlap 2 6 (by decide) rfl ?_
    refine And.intro rfl ?_
    refine And.intro (fun c5 => ?_) (fun c5 => ?_)
    · skip
      have c5 : kp.length ≤ i := (nI_leI (by omega) (by omega)).mp c5
      refine vx_go hC hFt hini (vx_ends hC hr hlk) jc_Ra_overlap 35 (by decide) rfl ?_
      refine And.intro (rfl) (And.intro ?_ (And.intro (Nat.le_refl _) (Nat.le_refl _)))
      have : ovl kp = false := by
        cases hv : ovl kp with
        | false => rfl
        | true =>
          exfalso
          obtain ⟨i2, j2, z1, z2, z3⟩ := ovl_iff.mp hv
          exact hinv ⟨i2, j2, z1, by omega, z3⟩
      rw [this]
      exact And.intro rfl rfl
    · skip
      have c5 : ¬ kp.length ≤ i := fun z => c5 ((nI_leI (by omega) (by omega)).mpr z)
      refine Vx.subL (lv' := [(0, .ref h), (1, .int (nI i)), (2, .int (nI 0))]) [1, 2, 0] rfl ?_
      obtain ⟨j, hj0⟩ : ∃ j : Nat, j = 0 := ⟨_, rfl⟩
      refine Vx.eqs rfl (lv2 := [(0, .ref h), (1, .int (nI i)), (2, .int (nI j))]) (by rw [hj0]) rfl rfl ?_
      replace hinv : ¬ ovP kp i j := by rw [hj0]; exact hinv
      have hjl : j ≤ i := by omega
      clear hj0
      induction hn2 : i - j using Nat.strongRecOn generalizing j with
      | _ n2 ih2 =>
        refine vx_go hC hFt hini (vx_ends hC hr hlk) jc_Ra_overlap 8 (by decide) rfl ?_
        refine And.intro (fun c10 => ?_) (fun c10 => ?_)
        · skip
          have c10 : i ≤ j := (nI_leI (by omega) (by omega)).mp c10
          refine vx_go hC hFt hini (vx_ends hC hr hlk) jc_Ra_overlap 33 (by decide) rfl ?_
          refine Vx.subL (lv' := [(0, .ref h), (1, .int (nI i + 1))]) [1, 0] rfl ?_
          rw [nI_1]
          exact ih (5 - (i + 1)) (by omega) (i + 1) (fun z => hinv (by rw [show j = i by omega]; exact ovP_i.mp z)) (by omega) rfl
        · skip
          have c10 : ¬ i ≤ j := fun z => c10 ((nI_leI (by omega) (by omega)).mpr z)
          have c10 : j < i := by omega
          refine And.intro rfl ?_
          refine And.intro rfl (And.intro rfl (And.intro (vp_in_nI (show i < 4 by omega) (by decide)) ?_))
          rw [nI_clamp (by omega), (hkp.2 i (by omega)).1]
          refine And.intro rfl ?_
          refine And.intro rfl (And.intro rfl (And.intro (vp_in_nI (show j < 4 by omega) (by decide)) ?_))
          rw [nI_clamp (by omega), (hkp.2 j (by omega)).2.1]
          refine And.intro (fun c19 => ?_) (fun c19 => ?_)
          · skip
            have c19 : ¬ (kp.getD i (0, 0)).1 ≤ (kp.getD j (0, 0)).2 := fun z => absurd ((nI_ltI (a := (kp.getD j (0, 0)).2) (b := (kp.getD i (0, 0)).1) (by have := (hkp.2 j (by omega)).2.2; omega) (by have := (hkp.2 i (by omega)).2.2; omega)).mp c19) (by omega)
            refine vx_go hC hFt hini (vx_ends hC hr hlk) jc_Ra_overlap 31 (by decide) rfl ?_
            refine Vx.subL (lv' := [(0, .ref h), (1, .int (nI i)), (2, .int (nI j + 1))]) [1, 2, 0] rfl ?_
            rw [nI_1]
            exact ih2 (i - (j + 1)) (by omega) (j + 1) (fun z => ((ovP_j c10).mp z).elim hinv (fun y => c19 y.1)) (by omega) rfl
          · skip
            have c19 : (kp.getD i (0, 0)).1 ≤ (kp.getD j (0, 0)).2 := Nat.le_of_not_lt (fun z => c19 ((nI_ltI (a := (kp.getD j (0, 0)).2) (b := (kp.getD i (0, 0)).1) (by have := (hkp.2 j (by omega)).2.2; omega) (by have := (hkp.2 i (by omega)).2.2; omega)).mpr z))
            refine And.intro rfl ?_
            refine And.intro rfl (And.intro rfl (And.intro (vp_in_nI (show j < 4 by omega) (by decide)) ?_))
            rw [nI_clamp (by omega), (hkp.2 j (by omega)).1]
            refine And.intro rfl ?_
            refine And.intro rfl (And.intro rfl (And.intro (vp_in_nI (show i < 4 by omega) (by decide)) ?_))
            rw [nI_clamp (by omega), (hkp.2 i (by omega)).2.1]
            refine And.intro (fun c28 => ?_) (fun c28 => ?_)
            · skip
              have c28 : ¬ (kp.getD j (0, 0)).1 ≤ (kp.getD i (0, 0)).2 := fun z => absurd ((nI_ltI (a := (kp.getD i (0, 0)).2) (b := (kp.getD j (0, 0)).1) (by have := (hkp.2 i (by omega)).2.2; omega) (by have := (hkp.2 j (by omega)).2.2; omega)).mp c28) (by omega)
              refine vx_go hC hFt hini (vx_ends hC hr hlk) jc_Ra_overlap 31 (by decide) rfl ?_
              refine Vx.subL (lv' := [(0, .ref h), (1, .int (nI i)), (2, .int (nI j + 1))]) [1, 2, 0] rfl ?_
              rw [nI_1]
              exact ih2 (i - (j + 1)) (by omega) (j + 1) (fun z => ((ovP_j c10).mp z).elim hinv (fun y => c28 y.2)) (by omega) rfl
            · skip
              have c28 : (kp.getD j (0, 0)).1 ≤ (kp.getD i (0, 0)).2 := Nat.le_of_not_lt (fun z => c28 ((nI_ltI (a := (kp.getD i (0, 0)).2) (b := (kp.getD j (0, 0)).1) (by have := (hkp.2 i (by omega)).2.2; omega) (by have := (hkp.2 j (by omega)).2.2; omega)).mpr z))
              refine And.intro (rfl) (And.intro ?_ (And.intro (Nat.le_refl _) (Nat.le_refl _)))
              rw [show ovl kp = true from ovl_iff.mpr ⟨i, j, c10, Or.inl (by omega), ⟨c19, c28⟩⟩]
              exact And.intro rfl rfl
