/-! THE REFERENCE: choosing, conditions, deciding, by program (wip/whole/gen/p52.py) -/
theorem wt_le {rs : List Nat} {w : Nat} (h : (wt rs).1 = some w) : w ≤ 1000 := by
  have h2 : ∀ {th : Nat} {r : List Nat}, th ≤ 1000 → (wt2 th r).1 = some w → w ≤ 1000 := by
    intro th r ht hw
    unfold wt2 at hw
    split at hw
    · have := Option.some.inj hw; omega
    · simp only [] at hw
      split at hw
      · cases hw
      · have := Option.some.inj hw; omega
  unfold wt at h
  split at h
  · cases h
  · split at h
    · exact h2 (Nat.le_refl _) h
    · split at h
      · cases h
      · exact h2 (Nat.zero_le _) h
theorem prm_le {P V : List Nat} {n : Nat} {f : Bool} {t : Nat} {rs : List Nat} {u : Bool × Nat × Nat × List Nat} (h : prm P V n f t rs = some u) : u.2.2.1 ≤ 1000 := by
  induction n generalizing f t rs with
  | zero => cases h
  | succ n ih =>
    rw [prm] at h
    split at h
    · split at h
      · cases h
      · split at h
        · split at h
          · rename_i hw
            obtain rfl := Option.some.inj h
            exact wt_le hw
          · cases h
        · split at h
          · exact ih h
          · cases h
    · obtain rfl := Option.some.inj h
      exact Nat.le_refl _
theorem accL_le {M S P V : List Nat} {n els mt q v : Nat} {rs : List Nat} (hq : q ≤ 1000) (h : accL M S P V n els mt q rs = some v) : v ≤ 1000 := by
  induction n generalizing els mt q rs with
  | zero => cases h
  | succ n ih =>
    rw [accL] at h
    split at h
    · split at h
      · cases h
      · have := Option.some.inj h; omega
    · split at h
      · cases h
      · rename_i u hu
        split at h
        · refine ih ?_ h
          split
          · unfold mrg at hu
            split at hu
            · cases hu
            · exact prm_le hu
          · exact hq
        · cases h
theorem lanL_le {C B : List Nat} {n els lg q v : Nat} {rs : List Nat} (hq : q ≤ 1000) (h : lanL C B n els lg q rs = some v) : v ≤ 1000 := by
  induction n generalizing els lg q rs with
  | zero => cases h
  | succ n ih =>
    rw [lanL] at h
    split at h
    · split at h
      · cases h
      · have := Option.some.inj h; omega
    · split at h
      · split at h
        · cases h
        · rename_i u hu
          split at h
          · refine ih ?_ h
            split
            · unfold lwt at hu
              split at hu
              · split at hu
                · split at hu
                  · rename_i hw
                    obtain rfl := Option.some.inj hu
                    exact wt_le hw
                  · cases hu
                · cases hu
              · obtain rfl := Option.some.inj hu
                exact Nat.le_refl _
            · exact hq
          · cases h
      · cases h
/-- a representation: type, language, size, tag, whether weak, change -/
abbrev Rp : Type := Nat × Nat × Nat × Nat × Bool × Nat
def rpOk (r : Rp) : Prop := r.1 < 6 ∧ r.2.1 < 6 ∧ r.2.2.1 ≤ 100000 ∧ r.2.2.2.1 ≤ 9999 ∧ r.2.2.2.2.2 ≤ 4102444799
def rpA (ai : Nat → Nat → Int32) (al : Nat → Nat → Int64) (rp : List Rp) : Prop := rp.length ≤ 4 ∧ ∀ i r, rp[i]? = some r → rpOk r ∧ ai 1 i = nI r.1 ∧ ai 2 i = nI r.2.1 ∧ ai 3 i = nI r.2.2.1 ∧ ai 4 i = nI r.2.2.2.1 ∧ ai 5 i = bI r.2.2.2.2.1 ∧ al 6 i = lN r.2.2.2.2.2
/-- the reference holds this question -/
def mdR (now : Int64) (sc : Nat → Int32) (ai : Nat → Nat → Int32) (al : Nat → Nat → Int64) (N : Nat) (rp : List Rp) (me : Int32) (tx : Nat → List Nat) : Prop := N ≤ 4102444799 ∧ now = lN N ∧ mdWd al ∧ rpA ai al rp ∧ sc 1 = nI rp.length ∧ sc 8 = me ∧ ∀ G, G < 8 → mdT ai G (tx G)
theorem mdT.fr {a b : Nat → Nat → Int32} {G : Nat} {T : List Nat} (h : mdT a G T) (h7 : b 7 = a 7) (h8 : b 8 = a 8) : mdT b G T := ⟨h.1, by rw [h8]; exact h.2.1, by rw [h7]; exact h.2.2.1, h.2.2.2⟩
theorem mdR.fr {now : Int64} {sc s2 : Nat → Int32} {ai a2 : Nat → Nat → Int32} {al : Nat → Nat → Int64} {N : Nat} {rp : List Rp} {me : Int32} {tx : Nat → List Nat} (h : mdR now sc ai al N rp me tx) (h1 : s2 1 = sc 1) (h8 : s2 8 = sc 8) (ha : ∀ k, k < 9 → a2 k = ai k) : mdR now s2 a2 al N rp me tx :=
  ⟨h.1, h.2.1, h.2.2.1, ⟨h.2.2.2.1.1, fun i r hi => by
    have h9 := h.2.2.2.1.2 i r hi
    rw [ha 1 (by decide), ha 2 (by decide), ha 3 (by decide), ha 4 (by decide), ha 5 (by decide)]
    exact h9⟩, h1.trans h.2.2.2.2.1, h8.trans h.2.2.2.2.2.1, fun G hG => (h.2.2.2.2.2.2 G hG).fr (ha 7 (by decide)) (ha 8 (by decide))⟩
theorem mdR.gq {now : Int64} {sc s2 : Nat → Int32} {ai : Nat → Nat → Int32} {al : Nat → Nat → Int64} {N : Nat} {rp : List Rp} {me : Int32} {tx : Nat → List Nat} (h : mdR now sc ai al N rp me tx) (hg : gq sc s2) : mdR now s2 ai al N rp me tx := h.fr (hg 1 (by decide)) (hg 8 (by decide)) (fun _ _ => rfl)
def acQ (tx : Nat → List Nat) (r : Rp) : Option Nat := accL (mnL r.1) (snL r.1) (pnL r.1) (vnL r.1) 97 0 0 0 (tx 0)
def laQ (tx : Nat → List Nat) (r : Rp) : Option Nat := lanL (coL r.2.1) (beL r.2.1) 97 0 0 0 (tx 1)
def scS (tx : Nat → List Nat) (r : Rp) : Nat := ((acQ tx r).getD 1000) * (if r.2.1 = 5 then 1000 else (laQ tx r).getD 1000)
def chz : List Int32 → Nat → Option Nat → Int32 → Option Nat
  | [], _, b, _ => b
  | z :: zs, n, b, q => if q < z then chz zs (n + 1) (some n) z else chz zs (n + 1) b q
def chS (tx : Nat → List Nat) (rp : List Rp) : Option Nat := chz (rp.map fun r => nI (scS tx r)) 0 none 0
theorem chz_lt {zs : List Int32} {n : Nat} {b : Option Nat} {q : Int32} {i : Nat} (hb : ∀ i, b = some i → i < n) (h : chz zs n b q = some i) : i < n + zs.length := by
  induction zs generalizing n b q with
  | nil => exact Nat.lt_of_lt_of_le (hb i h) (Nat.le_add_right _ _)
  | cons z zs ih =>
    rw [chz] at h
    rw [List.length_cons, show n + (zs.length + 1) = n + 1 + zs.length by omega]
    split at h
    · exact ih (fun i hi => by obtain rfl := Option.some.inj hi; omega) h
    · exact ih (fun i hi => by have := hb i hi; omega) h
theorem chS_lt {tx : Nat → List Nat} {rp : List Rp} {i : Nat} (h : chS tx rp = some i) : i < rp.length := by
  have := chz_lt (fun i hi => by cases hi) h
  rw [List.length_map] at this
  omega
def rfS (ly : Nat) (tx : Nat → List Nat) (r : Rp) : Bool := if tx 2 = [] then (match dtO ly (tx 5) with
    | none => false
    | some t => decide (t < r.2.2.2.2.2)) else (match tgsL (tagL r.2.2.2.1) (tx 2) with
    | none => true
    | some v => !(v.1 || (v.2.2 && !r.2.2.2.2.1)))
def unS (ly : Nat) (tx : Nat → List Nat) (r : Rp) : Bool := if tx 3 = [] then (match dtO ly (tx 4) with
    | none => false
    | some t => decide (r.2.2.2.2.2 ≤ t)) else (match tgsL (tagL r.2.2.2.1) (tx 3) with
    | none => false
    | some v => v.1 || v.2.1)
def cnS (ly : Nat) (tx : Nat → List Nat) (r : Rp) : Nat := if rfS ly tx r = true then 412 else if unS ly tx r = true then 304 else 0
def rgS (ly : Nat) (me : Int32) (tx : Nat → List Nat) (r : Rp) : Nat × List (Nat × Nat) := if ¬ me = 0 then (200, []) else if irS ly (tagL r.2.2.2.1) r.2.2.2.2.1 r.2.2.2.2.2 (tx 6) = false then (200, []) else match rngL (tx 7) with
  | none => (200, [])
  | some A => if 4 < A.length then (200, []) else if ovl (A.filterMap (rsv r.2.2.1)) = true then (200, []) else if A.filterMap (rsv r.2.2.1) = [] then (416, []) else (206, A.filterMap (rsv r.2.2.1))
/-- status, the chosen one with its number, parts -/
def dcS (ly : Nat) (rp : List Rp) (me : Int32) (tx : Nat → List Nat) : Nat × Option (Nat × Rp) × List (Nat × Nat) := if me < 0 ∨ 2 < me then (501, none, []) else if rp = [] then (404, none, []) else if me = 2 then (204, none, []) else match chS tx rp with
  | none => (406, none, [])
  | some i => (if 0 < cnS ly tx (rp.getD i (0, 0, 0, 0, false, 0)) then cnS ly tx (rp.getD i (0, 0, 0, 0, false, 0)) else (rgS ly me tx (rp.getD i (0, 0, 0, 0, false, 0))).1, some (i, rp.getD i (0, 0, 0, 0, false, 0)), if 0 < cnS ly tx (rp.getD i (0, 0, 0, 0, false, 0)) then [] else (rgS ly me tx (rp.getD i (0, 0, 0, 0, false, 0))).2)
theorem tgV_iff {i : Nat} {str wk : Bool} {v : Option (Bool × Bool × Bool)} : tgV (some i) str wk v = 1 ↔ (match v with
    | none => false
    | some v => v.1 || (if str = true then (v.2.2 && !wk) else v.2.1)) = true := by
  cases v with
  | none => exact ⟨fun z => absurd (show (-1 : Int32) = 1 from z) (by decide), fun z => by cases z⟩
  | some v =>
    obtain ⟨a, b, c⟩ := v
    have h1 : ∀ q : Bool, bI q = 1 ↔ q = true := by decide
    show bI (a || fdN (some i) str wk b c) = 1 ↔ (a || (if str = true then (c && !wk) else b)) = true
    rw [h1]
    show (a || (true && if str = true then (c && !wk) else b)) = true ↔ _
    rw [Bool.true_and]
set_option maxRecDepth 100000 in
set_option maxHeartbeats 4000000 in
theorem c_Mo_scoreOf (l : Launch) (D : va_G) (tys : List (ClassId × FieldType)) (tc : Nat → ClassId) (hty : ∀ i : Nat, i < 4 → tys[i]? = some (tc i, vx_ty i)) (h : Nat) (ar : Nat → Nat) (now : Int64) (sc : Nat → Int32) (ai : Nat → Nat → Int32) (al : Nat → Nat → Int64) (N : Nat) (rp : List Rp) (me : Int32) (tx : Nat → List Nat) (hR : mdR now sc ai al N rp me tx) (i : Nat) (r9 : Rp) (hi : rp[i]? = some r9) : Kt l y_Mo_scoreOf (yw y_Mo_scoreOf b_Mo_scoreOf 4 (some .int)) 7 159 0 0 D cls tys (fun _ _ _ => True) [.ref h, .int (nI i)] (mdW tc h ar now sc ai al) (fun r w => r = some (.int (nI (scS tx r9))) ∧ ∃ s2, w = mdW tc h ar now s2 ai al ∧ gq sc s2) := by
  refine Kt.of ro_true (by decide) rfl hty (Nat.le_of_ble_eq_true rfl) ?_
  intro p e s m args below meth c0 A hC hr hlk hnm hF
  have hFt : vx_Ft y_Mo_scoreOf.cls (yw y_Mo_scoreOf b_Mo_scoreOf 4 (some .int)) cls cty ft_Mo := ft_of (fun w h => List.mem_cons_of_mem _ h) fl_Mo_in ft_Mo_b
  have hini : false = true → meth.name = "<init>" := fun h => by cases h
  obtain ⟨hN, hnow, hWd, hrp, h1c, h8m, hx⟩ := id hR
  have hr9 := hrp.2 i r9 hi
  have hil : i < rp.length := (List.getElem?_eq_some_iff.mp hi).1
  have hi4 : i < 4 := Nat.lt_of_lt_of_le hil hrp.1
  refine vx_cut (α := (Nat → Int32)) 23 (fun u => gq sc u) (fun u => [(0, .ref h), (1, .int (nI i)), (2, .int (iI (acQ tx r9)))]) (fun u => []) (fun u => mdW tc h ar now u ai al) (fun hJ13 => ?_) ?_
  · skip
    refine vx_gon hC hFt hini (vx_ends hC hr hlk) jc_Mo_scoreOf 0 13 (by decide) rfl ?_
    refine mo_call hC (c_Mo_there l D tys tc hty h ar now sc ai al 0 (tx 0) (by decide) (hx 0 (by decide)).2.2.2 (hx 0 (by decide)).2.1) wm_Mo_there wl_Mo_223 wi_Mo_there ws_Mo_Mo_there ⟨by decide, by decide⟩ rfl rfl (Nat.le_of_ble_eq_true rfl) ⟨Nat.zero_le _, Nat.zero_le _⟩ (fun r' w1 hp => ?_)
    obtain ⟨rfl, rfl⟩ := hp
    refine And.intro (fun c3 => ?_) (fun c3 => ?_)
    · skip
      have c3 : tx 0 = [] := List.eq_nil_of_length_eq_zero (Nat.eq_zero_of_not_pos (of_decide_eq_false (bI_eq c3)))
      refine vx_gon hC hFt hini (vx_ends hC hr hlk) jc_Mo_scoreOf 11 2 (by decide) rfl ?_
      refine Vx.subL (lv' := [(0, .ref h), (1, .int (nI i)), (2, .int (iI none))]) [1, 2, 0] rfl ?_
      rw [show none = acQ tx r9 by unfold acQ; rw [c3, accL]; exact (if_pos rfl).symm]
      exact hJ13 sc gq.refl
    · skip
      have c3 : ¬ tx 0 = [] := fun z => by
        have := of_decide_eq_true (bI_ne c3)
        rw [z] at this
        exact absurd this (by decide)
      refine And.intro rfl ?_
      refine And.intro rfl (And.intro rfl (And.intro (vp_in_nI hi4 (by decide)) ?_))
      rw [nI_clamp (by omega), hr9.2.1]
      refine mo_call hC (c_Mo_accepted l D tys tc hty h ar now sc ai al (tx 0) (hx 0 (by decide)) r9.1 hr9.1.1 hWd) wm_Mo_accepted wl_Mo_226 wi_Mo_accepted ws_Mo_Mo_accepted ⟨by decide, by decide⟩ rfl rfl (Nat.le_of_ble_eq_true rfl) ⟨Nat.zero_le _, Nat.zero_le _⟩ (fun r' w1 hp => ?_)
      obtain ⟨rfl, s2, rfl, hg2⟩ := hp
      refine vx_gon hC hFt hini (vx_ends hC hr hlk) jc_Mo_scoreOf 12 1 (by decide) rfl ?_
      refine Vx.subL (lv' := [(0, .ref h), (1, .int (nI i)), (2, .int (iI (acQ tx r9)))]) [1, 2, 0] rfl ?_
      exact hJ13 s2 hg2
  · intro s2 hg2
    refine vx_cut (α := (Nat → Int32)) 46 (fun u => gq sc u) (fun u => [(0, .ref h), (1, .int (nI i)), (2, .int (iI (acQ tx r9))), (3, .int (iI (laQ tx r9)))]) (fun u => []) (fun u => mdW tc h ar now u ai al) (fun hJ26 => ?_) ?_
    · skip
      refine vx_gon hC hFt hini (vx_ends hC hr hlk) jc_Mo_scoreOf 13 13 (by decide) rfl ?_
      refine mo_call hC (c_Mo_there l D tys tc hty h ar now s2 ai al 1 (tx 1) (by decide) (hx 1 (by decide)).2.2.2 (hx 1 (by decide)).2.1) wm_Mo_there wl_Mo_223 wi_Mo_there ws_Mo_Mo_there ⟨by decide, by decide⟩ rfl rfl (Nat.le_of_ble_eq_true rfl) ⟨Nat.zero_le _, Nat.zero_le _⟩ (fun r' w1 hp => ?_)
      obtain ⟨rfl, rfl⟩ := hp
      refine And.intro (fun c16 => ?_) (fun c16 => ?_)
      · skip
        have c16 : tx 1 = [] := List.eq_nil_of_length_eq_zero (Nat.eq_zero_of_not_pos (of_decide_eq_false (bI_eq c16)))
        refine vx_gon hC hFt hini (vx_ends hC hr hlk) jc_Mo_scoreOf 24 2 (by decide) rfl ?_
        refine Vx.subL (lv' := [(0, .ref h), (1, .int (nI i)), (2, .int (iI (acQ tx r9))), (3, .int (iI none))]) [1, 2, 3, 0] rfl ?_
        rw [show none = laQ tx r9 by unfold laQ; rw [c16, lanL]; exact (if_pos rfl).symm]
        exact hJ26 s2 hg2
      · skip
        have c16 : ¬ tx 1 = [] := fun z => by
          have := of_decide_eq_true (bI_ne c16)
          rw [z] at this
          exact absurd this (by decide)
        refine And.intro rfl ?_
        refine And.intro rfl (And.intro rfl (And.intro (vp_in_nI hi4 (by decide)) ?_))
        rw [nI_clamp (by omega), hr9.2.2.1]
        refine mo_call hC (c_Mo_spoken l D tys tc hty h ar now s2 ai al (tx 1) (hx 1 (by decide)) r9.2.1 hr9.1.2.1 hWd) wm_Mo_spoken wl_Mo_229 wi_Mo_spoken ws_Mo_Mo_spoken ⟨by decide, by decide⟩ rfl rfl (Nat.le_of_ble_eq_true rfl) ⟨Nat.zero_le _, Nat.zero_le _⟩ (fun r' w1 hp => ?_)
        obtain ⟨rfl, s3, rfl, hg3⟩ := hp
        refine vx_gon hC hFt hini (vx_ends hC hr hlk) jc_Mo_scoreOf 25 1 (by decide) rfl ?_
        refine Vx.subL (lv' := [(0, .ref h), (1, .int (nI i)), (2, .int (iI (acQ tx r9))), (3, .int (iI (laQ tx r9)))]) [1, 2, 3, 0] rfl ?_
        exact hJ26 s3 (hg2.trans hg3)
    · intro s3 hg3
      refine vx_go hC hFt hini (vx_ends hC hr hlk) jc_Mo_scoreOf 26 (by decide) rfl ?_
      refine And.intro (fun c27 => ?_) (fun c27 => ?_)
      · skip
        obtain ⟨a, hA⟩ : ∃ a, acQ tx r9 = some a := by
          cases h9 : acQ tx r9 with
          | none => rw [h9] at c27; exact absurd c27 (by decide)
          | some z => exact ⟨z, rfl⟩
        have hal := accL_le (Nat.zero_le _) hA
        rw [hA]
        refine vx_go hC hFt hini (vx_ends hC hr hlk) jc_Mo_scoreOf 30 (by decide) rfl ?_
        refine And.intro (fun c33 => ?_) (fun c33 => ?_)
        · skip
          have hB : laQ tx r9 = none := by
            cases h9 : laQ tx r9 with
            | none => rfl
            | some z => rw [h9] at c33; have := lanL_le (Nat.zero_le _) h9; exact absurd c33 (nI_pos (by omega))
          refine vx_go hC hFt hini (vx_ends hC hr hlk) jc_Mo_scoreOf 40 (by decide) rfl ?_
          refine vx_go hC hFt hini (vx_ends hC hr hlk) jc_Mo_scoreOf 43 (by decide) rfl ?_
          refine And.intro (trivial) (And.intro ?_ (And.intro (Nat.le_refl _) (Nat.le_refl _)))
          have hv : scS tx r9 = a * 1000 := by
            rw [scS, hA, hB, show (if r9.2.1 = 5 then 1000 else (none : Option Nat).getD 1000) = 1000 by split <;> rfl]
            rfl
          rw [hv]
          refine ⟨?_, s3, rfl, hg3⟩
          show some (Value.int (nI a * nI 1000)) = some (Value.int (nI (a * 1000)))
          rw [pk_mul]
        · skip
          obtain ⟨b, hB⟩ : ∃ b, laQ tx r9 = some b := by
            cases h9 : laQ tx r9 with
            | none => rw [h9] at c33; exact absurd (by decide) c33
            | some z => exact ⟨z, rfl⟩
          have hbl := lanL_le (Nat.zero_le _) hB
          rw [hB]
          refine And.intro rfl ?_
          refine And.intro rfl (And.intro rfl (And.intro (vp_in_nI hi4 (by decide)) ?_))
          rw [nI_clamp (by omega), hr9.2.2.1]
          refine And.intro (fun c39 => ?_) (fun c39 => ?_)
          · skip
            have c39 : ¬ r9.2.1 = 5 := fun z => c39 (by rw [z]; rfl)
            refine vx_go hC hFt hini (vx_ends hC hr hlk) jc_Mo_scoreOf 42 (by decide) rfl ?_
            refine And.intro (trivial) (And.intro ?_ (And.intro (Nat.le_refl _) (Nat.le_refl _)))
            have hv : scS tx r9 = a * b := by
              rw [scS, hA, if_neg c39, hB]
              rfl
            rw [hv]
            refine ⟨?_, s3, rfl, hg3⟩
            show some (Value.int (nI a * nI b)) = some (Value.int (nI (a * b)))
            rw [pk_mul]
          · skip
            have c39 : r9.2.1 = 5 := (nI_eq (b := 5) (by have := hr9.1.2.1; omega) (by omega)).mp c39
            refine vx_go hC hFt hini (vx_ends hC hr hlk) jc_Mo_scoreOf 43 (by decide) rfl ?_
            refine And.intro (trivial) (And.intro ?_ (And.intro (Nat.le_refl _) (Nat.le_refl _)))
            have hv : scS tx r9 = a * 1000 := by
              rw [scS, hA, if_pos c39]
              rfl
            rw [hv]
            refine ⟨?_, s3, rfl, hg3⟩
            show some (Value.int (nI a * nI 1000)) = some (Value.int (nI (a * 1000)))
            rw [pk_mul]
      · skip
        have hA : acQ tx r9 = none := by
          cases h9 : acQ tx r9 with
          | none => rfl
          | some z => rw [h9] at c27; have := accL_le (Nat.zero_le _) h9; exact absurd (nI_ge0 (by omega)) c27
        refine vx_go hC hFt hini (vx_ends hC hr hlk) jc_Mo_scoreOf 31 (by decide) rfl ?_
        refine And.intro (fun c33 => ?_) (fun c33 => ?_)
        · skip
          have hB : laQ tx r9 = none := by
            cases h9 : laQ tx r9 with
            | none => rfl
            | some z => rw [h9] at c33; have := lanL_le (Nat.zero_le _) h9; exact absurd c33 (nI_pos (by omega))
          refine vx_go hC hFt hini (vx_ends hC hr hlk) jc_Mo_scoreOf 40 (by decide) rfl ?_
          refine vx_go hC hFt hini (vx_ends hC hr hlk) jc_Mo_scoreOf 43 (by decide) rfl ?_
          refine And.intro (trivial) (And.intro ?_ (And.intro (Nat.le_refl _) (Nat.le_refl _)))
          have hv : scS tx r9 = 1000 * 1000 := by
            rw [scS, hA, hB, show (if r9.2.1 = 5 then 1000 else (none : Option Nat).getD 1000) = 1000 by split <;> rfl]
            rfl
          rw [hv]
          refine ⟨?_, s3, rfl, hg3⟩
          show some (Value.int (nI 1000 * nI 1000)) = some (Value.int (nI (1000 * 1000)))
          rw [pk_mul]
        · skip
          obtain ⟨b, hB⟩ : ∃ b, laQ tx r9 = some b := by
            cases h9 : laQ tx r9 with
            | none => rw [h9] at c33; exact absurd (by decide) c33
            | some z => exact ⟨z, rfl⟩
          have hbl := lanL_le (Nat.zero_le _) hB
          rw [hB]
          refine And.intro rfl ?_
          refine And.intro rfl (And.intro rfl (And.intro (vp_in_nI hi4 (by decide)) ?_))
          rw [nI_clamp (by omega), hr9.2.2.1]
          refine And.intro (fun c39 => ?_) (fun c39 => ?_)
          · skip
            have c39 : ¬ r9.2.1 = 5 := fun z => c39 (by rw [z]; rfl)
            refine vx_go hC hFt hini (vx_ends hC hr hlk) jc_Mo_scoreOf 42 (by decide) rfl ?_
            refine And.intro (trivial) (And.intro ?_ (And.intro (Nat.le_refl _) (Nat.le_refl _)))
            have hv : scS tx r9 = 1000 * b := by
              rw [scS, hA, if_neg c39, hB]
              rfl
            rw [hv]
            refine ⟨?_, s3, rfl, hg3⟩
            show some (Value.int (nI 1000 * nI b)) = some (Value.int (nI (1000 * b)))
            rw [pk_mul]
          · skip
            have c39 : r9.2.1 = 5 := (nI_eq (b := 5) (by have := hr9.1.2.1; omega) (by omega)).mp c39
            refine vx_go hC hFt hini (vx_ends hC hr hlk) jc_Mo_scoreOf 43 (by decide) rfl ?_
            refine And.intro (trivial) (And.intro ?_ (And.intro (Nat.le_refl _) (Nat.le_refl _)))
            have hv : scS tx r9 = 1000 * 1000 := by
              rw [scS, hA, if_pos c39]
              rfl
            rw [hv]
            refine ⟨?_, s3, rfl, hg3⟩
            show some (Value.int (nI 1000 * nI 1000)) = some (Value.int (nI (1000 * 1000)))
            rw [pk_mul]
theorem drop_map {f : Rp → Int32} {rp : List Rp} {n : Nat} {r : Rp} (h : rp[n]? = some r) : (rp.map f).drop n = f r :: (rp.map f).drop (n + 1) := by
  have hl := (List.getElem?_eq_some_iff.mp h).1
  have he := (List.getElem?_eq_some_iff.mp h).2
  rw [List.drop_eq_getElem_cons (by rw [List.length_map]; exact hl), List.getElem_map, he]
set_option maxRecDepth 100000 in
set_option maxHeartbeats 4000000 in
theorem c_Mo_chosenOne (l : Launch) (D : va_G) (tys : List (ClassId × FieldType)) (tc : Nat → ClassId) (hty : ∀ i : Nat, i < 4 → tys[i]? = some (tc i, vx_ty i)) (h : Nat) (ar : Nat → Nat) (now : Int64) (sc : Nat → Int32) (ai : Nat → Nat → Int32) (al : Nat → Nat → Int64) (N : Nat) (rp : List Rp) (me : Int32) (tx : Nat → List Nat) (hR : mdR now sc ai al N rp me tx) : Kt l y_Mo_chosenOne (yw y_Mo_chosenOne b_Mo_chosenOne 5 (some .int)) 8 182 0 0 D cls tys (fun _ _ _ => True) [.ref h] (mdW tc h ar now sc ai al) (fun r w => r = some (.int (iI (chS tx rp))) ∧ ∃ s2, w = mdW tc h ar now s2 ai al ∧ gq sc s2) := by
  refine Kt.of ro_true (by decide) rfl hty (Nat.le_of_ble_eq_true rfl) ?_
  intro p e s m args below meth c0 A hC hr hlk hnm hF
  have hFt : vx_Ft y_Mo_chosenOne.cls (yw y_Mo_chosenOne b_Mo_chosenOne 5 (some .int)) cls cty ft_Mo := ft_of (fun w h => List.mem_cons_of_mem _ h) fl_Mo_in ft_Mo_b
  have hini : false = true → meth.name = "<init>" := fun h => by cases h
  obtain ⟨hN, hnow, hWd, hrp, h1c, h8m, hx⟩ := id hR
  have hrl := hrp.1
  refine vx_gon hC hFt hini (vx_ends hC hr hlk) jc_Mo_chosenOne 0 6 (by decide) rfl ?_
  refine Vx.subL (lv' := [(0, .ref h), (1, .int (iI none)), (2, .int (0)), (3, .int (nI 0))]) [3, 2, 1, 0] rfl ?_
  obtain ⟨b, hb0⟩ : ∃ b : Option Nat, b = none := ⟨_, rfl⟩
  obtain ⟨q, hq0⟩ : ∃ q : Int32, q = 0 := ⟨_, rfl⟩
  obtain ⟨n, hn0⟩ : ∃ n : Nat, n = 0 := ⟨_, rfl⟩
  obtain ⟨s4, hs4⟩ : ∃ s4, s4 = sc := ⟨_, rfl⟩
  refine Vx.eqs rfl (lv2 := [(0, .ref h), (1, .int (iI b)), (2, .int (q)), (3, .int (nI n))]) (by rw [hb0, hq0, hn0]) rfl (w2 := mdW tc h ar now s4 ai al) (by rw [hs4]) ?_
  have hg4 : gq sc s4 := by rw [hs4]; exact gq.refl
  have hnl : n ≤ rp.length := by omega
  have hres : chz ((rp.map fun r => nI (scS tx r)).drop n) n b q = chS tx rp := by rw [hn0, hb0, hq0]; rfl
  clear hb0 hq0 hn0 hs4
  induction hn : rp.length - n using Nat.strongRecOn generalizing b q n s4 with
  | _ m9 ih =>
    refine vx_go hC hFt hini (vx_ends hC hr hlk) jc_Mo_chosenOne 6 (by decide) rfl ?_
    refine And.intro rfl ?_
    refine And.intro (fun c9 => ?_) (fun c9 => ?_)
    · skip
      have c9 : rp.length ≤ n := by rw [hg4 1 (by decide), h1c] at c9; exact (nI_leI (by omega) (by omega)).mp c9
      refine vx_go hC hFt hini (vx_ends hC hr hlk) jc_Mo_chosenOne 23 (by decide) rfl ?_
      refine And.intro (trivial) (And.intro ?_ (And.intro (Nat.le_refl _) (Nat.le_refl _)))
      rw [List.drop_eq_nil_iff.mpr (by rw [List.length_map]; omega), chz] at hres
      rw [← hres]
      exact ⟨rfl, s4, rfl, hg4⟩
    · skip
      have c9 : ¬ rp.length ≤ n := fun z => c9 (by rw [hg4 1 (by decide), h1c]; exact (nI_leI (by omega) (by omega)).mpr z)
      obtain ⟨r9, hi⟩ : ∃ r9, rp[n]? = some r9 := ⟨_, List.getElem?_eq_getElem (by omega)⟩
      refine mo_call hC (c_Mo_scoreOf l D tys tc hty h ar now s4 ai al N rp me tx (hR.gq hg4) n r9 hi) wm_Mo_scoreOf wl_Mo_319 wi_Mo_scoreOf ws_Mo_Mo_scoreOf ⟨by decide, by decide⟩ rfl rfl (Nat.le_of_ble_eq_true rfl) ⟨Nat.zero_le _, Nat.zero_le _⟩ (fun r' w1 hp => ?_)
      obtain ⟨rfl, s5, rfl, hg5⟩ := hp
      refine And.intro (fun c16 => ?_) (fun c16 => ?_)
      · skip
        refine vx_go hC hFt hini (vx_ends hC hr hlk) jc_Mo_chosenOne 21 (by decide) rfl ?_
        refine Vx.subL (lv' := [(0, .ref h), (1, .int (iI b)), (2, .int (q)), (3, .int (nI n + 1))]) [2, 3, 4, 0] rfl ?_
        rw [nI_1]
        rw [drop_map hi, chz, if_neg (fun z => absurd c16 (Int32.not_le.mpr z))] at hres
        exact ih (rp.length - (n + 1)) (by omega) b q (n + 1) s5 (hg4.trans hg5) (by omega) hres rfl
      · skip
        refine Vx.subL (lv' := [(0, .ref h), (1, .int (nI n)), (2, .int (nI (scS tx r9))), (3, .int (nI n + 1))]) [4, 1, 2, 0] rfl ?_
        rw [nI_1]
        rw [drop_map hi, chz, if_pos (Int32.not_le.mp c16)] at hres
        exact ih (rp.length - (n + 1)) (by omega) (some n) (nI (scS tx r9)) (n + 1) s5 (hg4.trans hg5) (by omega) hres rfl
theorem cn_412 {ly : Nat} {tx : Nat → List Nat} {r : Rp} (h : rfS ly tx r = true) : cnS ly tx r = 412 := if_pos h
theorem cn_304 {ly : Nat} {tx : Nat → List Nat} {r : Rp} (h : rfS ly tx r = false) (h2 : unS ly tx r = true) : cnS ly tx r = 304 := by rw [cnS, h, h2]; rfl
theorem cn_0 {ly : Nat} {tx : Nat → List Nat} {r : Rp} (h : rfS ly tx r = false) (h2 : unS ly tx r = false) : cnS ly tx r = 0 := by rw [cnS, h, h2]; rfl
theorem lI_lt0 {v : Option Nat} (hv : ∀ t, v = some t → t < 2 ^ 63) : lI v < 0 ↔ v = none := by
  cases v with
  | none => exact ⟨fun _ => rfl, fun _ => by decide⟩
  | some t =>
    refine ⟨fun z => ?_, fun z => by cases z⟩
    have : lN t < lN 0 := z
    rw [lW_lt (hv t rfl) (by decide)] at this
    omega
theorem lI_lt {v : Option Nat} {c : Nat} (hv : ∀ t, v = some t → t < 2 ^ 63) (hc : c < 2 ^ 63) : lI v < lN c ↔ v = none ∨ ∃ t, v = some t ∧ t < c := by
  cases v with
  | none => exact ⟨fun _ => Or.inl rfl, fun _ => Int64.lt_of_lt_of_le (show (-1 : Int64) < 0 by decide) (by
      show lN 0 ≤ lN c
      rw [← Int64.not_lt, lW_lt hc (by decide)]; omega)⟩
  | some t =>
    rw [show lI (some t) = lN t from rfl, lW_lt (hv t rfl) hc]
    exact ⟨fun z => Or.inr ⟨t, rfl, z⟩, fun z => z.elim (fun y => by cases y) (fun ⟨a, e, y⟩ => by obtain rfl := Option.some.inj e; exact y)⟩
theorem tgs_tag {ai : Nat → Nat → Int32} {i : Nat} {r : Rp} (hi4 : i < 4) (h4 : ai 4 i = nI r.2.2.2.1) (hl : r.2.2.2.1 ≤ 9999) (h5 : ai 5 i = bI r.2.2.2.2.1) : ∀ j, some i = some j → j < 4 ∧ ai 4 j = nI r.2.2.2.1 ∧ r.2.2.2.1 ≤ 9999 ∧ ai 5 j = bI r.2.2.2.2.1 ∧ tagL r.2.2.2.1 = tagL r.2.2.2.1 := fun j hj => by obtain rfl := Option.some.inj hj; exact ⟨hi4, h4, hl, h5, rfl⟩
set_option maxRecDepth 100000 in
set_option maxHeartbeats 4000000 in
theorem c_Mo_conditions (l : Launch) (D : va_G) (tys : List (ClassId × FieldType)) (tc : Nat → ClassId) (hty : ∀ i : Nat, i < 4 → tys[i]? = some (tc i, vx_ty i)) (h : Nat) (ar : Nat → Nat) (now : Int64) (sc : Nat → Int32) (ai : Nat → Nat → Int32) (al : Nat → Nat → Int64) (N : Nat) (rp : List Rp) (me : Int32) (tx : Nat → List Nat) (hR : mdR now sc ai al N rp me tx) (i : Nat) (r9 : Rp) (hi : rp[i]? = some r9) : Kt l y_Mo_conditions (yw y_Mo_conditions b_Mo_conditions 4 (some .int)) 6 139 0 0 D cls tys (fun _ _ _ => True) [.ref h, .int (nI i)] (mdW tc h ar now sc ai al) (fun r w => r = some (.int (nI (cnS (yrN N + 50) tx r9))) ∧ ∃ s2, w = mdW tc h ar now s2 ai al ∧ gq sc s2) := by
  refine Kt.of ro_true (by decide) rfl hty (Nat.le_of_ble_eq_true rfl) ?_
  intro p e s m args below meth c0 A hC hr hlk hnm hF
  have hFt : vx_Ft y_Mo_conditions.cls (yw y_Mo_conditions b_Mo_conditions 4 (some .int)) cls cty ft_Mo := ft_of (fun w h => List.mem_cons_of_mem _ h) fl_Mo_in ft_Mo_b
  have hini : false = true → meth.name = "<init>" := fun h => by cases h
  obtain ⟨hN, hnow, hWd, hrp, h1c, h8m, hx⟩ := id hR
  have hr9 := hrp.2 i r9 hi
  have hil : i < rp.length := (List.getElem?_eq_some_iff.mp hi).1
  have hi4 : i < 4 := Nat.lt_of_lt_of_le hil hrp.1
  refine vx_cut (α := (Nat → Int32)) 50 (fun u => gq sc u ∧ rfS (yrN N + 50) tx r9 = false) (fun u => [(0, .ref h), (1, .int (nI i))]) (fun u => []) (fun u => mdW tc h ar now u ai al) (fun hJ30 => ?_) ?_
  · skip
    refine vx_gon hC hFt hini (vx_ends hC hr hlk) jc_Mo_conditions 0 30 (by decide) rfl ?_
    refine mo_call hC (c_Mo_there l D tys tc hty h ar now sc ai al 2 (tx 2) (by decide) (hx 2 (by decide)).2.2.2 (hx 2 (by decide)).2.1) wm_Mo_there wl_Mo_223 wi_Mo_there ws_Mo_Mo_there ⟨by decide, by decide⟩ rfl rfl (Nat.le_of_ble_eq_true rfl) ⟨Nat.zero_le _, Nat.zero_le _⟩ (fun r' w1 hp => ?_)
    obtain ⟨rfl, rfl⟩ := hp
    refine And.intro (fun c3 => ?_) (fun c3 => ?_)
    · skip
      have c3 : tx 2 = [] := List.eq_nil_of_length_eq_zero (Nat.eq_zero_of_not_pos (of_decide_eq_false (bI_eq c3)))
      refine vx_gon hC hFt hini (vx_ends hC hr hlk) jc_Mo_conditions 13 17 (by decide) rfl ?_
      refine mo_call hC (c_Mo_dateOf l D tys tc hty h ar now sc ai al 5 (tx 5) (hx 5 (by decide)) N hN hnow) wm_Mo_dateOf wl_Mo_316 wi_Mo_dateOf ws_Mo_Mo_dateOf ⟨by decide, by decide⟩ rfl rfl (Nat.le_of_ble_eq_true rfl) ⟨Nat.zero_le _, Nat.zero_le _⟩ (fun r' w1 hp => ?_)
      obtain ⟨rfl, s2, rfl, hg2⟩ := hp
      refine And.intro (fun c20 => ?_) (fun c20 => ?_)
      · skip
        have c20 : dtO (yrN N + 50) (tx 5) = none := (lI_lt0 dtO_lt).mp (lc_lt.mp c20)
        refine Vx.subL (lv' := [(0, .ref h), (1, .int (nI i))]) [1, 2] rfl ?_
        exact hJ30 s2 ⟨hg2, show rfS (yrN N + 50) tx r9 = false by rw [rfS, if_pos c3, c20]⟩
      · skip
        have c20 : ¬ dtO (yrN N + 50) (tx 5) = none := fun z => c20 (lc_lt.mpr ((lI_lt0 dtO_lt).mpr z))
        refine And.intro rfl ?_
        refine And.intro rfl (And.intro rfl (And.intro (vp_in_nI hi4 (by decide)) ?_))
        rw [nI_clamp (by omega), hr9.2.2.2.2.2.2]
        refine And.intro (fun c27 => ?_) (fun c27 => ?_)
        · skip
          have hq27 : (match dtO (yrN N + 50) (tx 5) with
              | none => false
              | some t => decide (t < r9.2.2.2.2.2)) = false := by
            cases hv : dtO (yrN N + 50) (tx 5) with
            | none => rfl
            | some t => exact decide_eq_false (fun z => absurd (lc_lt.mpr ((lI_lt dtO_lt (by have := hr9.1.2.2.2.2; omega)).mpr (Or.inr ⟨t, hv, z⟩))) (Int32.not_lt.mpr c27))
          refine Vx.subL (lv' := [(0, .ref h), (1, .int (nI i))]) [1, 2] rfl ?_
          exact hJ30 s2 ⟨hg2, show rfS (yrN N + 50) tx r9 = false by rw [rfS, if_pos c3]; exact hq27⟩
        · skip
          have hq27 : (match dtO (yrN N + 50) (tx 5) with
              | none => false
              | some t => decide (t < r9.2.2.2.2.2)) = true := by
            rcases (lI_lt (dtO_lt (ly := yrN N + 50) (T := tx 5)) (c := r9.2.2.2.2.2) (by have := hr9.1.2.2.2.2; omega)).mp (lc_lt.mp (Int32.not_le.mp c27)) with z | ⟨t, z, z2⟩
            · exact absurd z c20
            · rw [z]; exact decide_eq_true z2
          refine And.intro (trivial) (And.intro ?_ (And.intro (Nat.le_refl _) (Nat.le_refl _)))
          rw [cn_412 (show rfS (yrN N + 50) tx r9 = true by rw [rfS, if_pos c3]; exact hq27)]
          exact ⟨rfl, s2, rfl, hg2⟩
    · skip
      have c3 : ¬ tx 2 = [] := fun z => by
        have := of_decide_eq_true (bI_ne c3)
        rw [z] at this
        exact absurd this (by decide)
      refine mo_call hC (c_Mo_tags l D tys tc hty h ar now sc ai al 2 (tx 2) (hx 2 (by decide)) (some i) true r9.2.2.2.2.1 r9.2.2.2.1 (tagL r9.2.2.2.1) (tgs_tag hi4 hr9.2.2.2.2.1 hr9.1.2.2.2.1 hr9.2.2.2.2.2.1)) wm_Mo_tags wl_Mo_322 wi_Mo_tags ws_Mo_Mo_tags ⟨by decide, by decide⟩ rfl rfl (Nat.le_of_ble_eq_true rfl) ⟨Nat.zero_le _, Nat.zero_le _⟩ (fun r' w1 hp => ?_)
      obtain ⟨rfl, s2, rfl, hg2⟩ := hp
      refine And.intro (fun c10 => ?_) (fun c10 => ?_)
      · skip
        have hq10 : (match tgsL (tagL r9.2.2.2.1) (tx 2) with
            | none => true
            | some v => !(v.1 || (v.2.2 && !r9.2.2.2.2.1))) = false := by
          have h9 := tgV_iff.mp c10
          cases hv : tgsL (tagL r9.2.2.2.1) (tx 2) with
          | none => rw [hv] at h9; cases h9
          | some v =>
            rw [hv] at h9
            show (!(v.1 || (v.2.2 && !r9.2.2.2.2.1))) = false
            rw [show (v.1 || (v.2.2 && !r9.2.2.2.2.1)) = true from h9]; rfl
        refine Vx.subL (lv' := [(0, .ref h), (1, .int (nI i))]) [0, 1] rfl ?_
        exact hJ30 s2 ⟨hg2, show rfS (yrN N + 50) tx r9 = false by rw [rfS, if_neg c3]; exact hq10⟩
      · skip
        have hq10 : (match tgsL (tagL r9.2.2.2.1) (tx 2) with
            | none => true
            | some v => !(v.1 || (v.2.2 && !r9.2.2.2.2.1))) = true := by
          cases hv : tgsL (tagL r9.2.2.2.1) (tx 2) with
          | none => rfl
          | some v =>
            rw [hv] at c10
            have h9 : ¬ (v.1 || (v.2.2 && !r9.2.2.2.2.1)) = true := fun z => c10 (tgV_iff.mpr z)
            show (!(v.1 || (v.2.2 && !r9.2.2.2.2.1))) = true
            rw [(Bool.not_eq_true _).mp h9]; rfl
        refine And.intro (trivial) (And.intro ?_ (And.intro (Nat.le_refl _) (Nat.le_refl _)))
        rw [cn_412 (show rfS (yrN N + 50) tx r9 = true by rw [rfS, if_neg c3]; exact hq10)]
        exact ⟨rfl, s2, rfl, hg2⟩
  · rintro s2 ⟨hg2, hrf⟩
    refine vx_go hC hFt hini (vx_ends hC hr hlk) jc_Mo_conditions 30 (by decide) rfl ?_
    refine mo_call hC (c_Mo_there l D tys tc hty h ar now s2 ai al 3 (tx 3) (by decide) (hx 3 (by decide)).2.2.2 (hx 3 (by decide)).2.1) wm_Mo_there wl_Mo_223 wi_Mo_there ws_Mo_Mo_there ⟨by decide, by decide⟩ rfl rfl (Nat.le_of_ble_eq_true rfl) ⟨Nat.zero_le _, Nat.zero_le _⟩ (fun r' w1 hp => ?_)
    obtain ⟨rfl, rfl⟩ := hp
    refine And.intro (fun c33 => ?_) (fun c33 => ?_)
    · skip
      have c33 : tx 3 = [] := List.eq_nil_of_length_eq_zero (Nat.eq_zero_of_not_pos (of_decide_eq_false (bI_eq c33)))
      refine vx_go hC hFt hini (vx_ends hC hr hlk) jc_Mo_conditions 45 (by decide) rfl ?_
      refine mo_call hC (c_Mo_dateOf l D tys tc hty h ar now s2 ai al 4 (tx 4) (hx 4 (by decide)) N hN hnow) wm_Mo_dateOf wl_Mo_316 wi_Mo_dateOf ws_Mo_Mo_dateOf ⟨by decide, by decide⟩ rfl rfl (Nat.le_of_ble_eq_true rfl) ⟨Nat.zero_le _, Nat.zero_le _⟩ (fun r' w1 hp => ?_)
      obtain ⟨rfl, s3, rfl, hg3⟩ := hp
      refine And.intro rfl ?_
      refine And.intro rfl (And.intro rfl (And.intro (vp_in_nI hi4 (by decide)) ?_))
      rw [nI_clamp (by omega), hr9.2.2.2.2.2.2]
      refine And.intro (fun c55 => ?_) (fun c55 => ?_)
      · skip
        refine vx_go hC hFt hini (vx_ends hC hr hlk) jc_Mo_conditions 62 (by decide) rfl ?_
        refine And.intro (trivial) (And.intro ?_ (And.intro (Nat.le_refl _) (Nat.le_refl _)))
        rw [cn_0 hrf (show unS (yrN N + 50) tx r9 = false by
          rw [unS, if_pos c33]
          rcases (lI_lt (dtO_lt (ly := yrN N + 50) (T := tx 4)) (c := r9.2.2.2.2.2) (by have := hr9.1.2.2.2.2; omega)).mp (lc_lt.mp c55) with z | ⟨t, z, z2⟩
          · rw [z]
          · rw [z]; exact decide_eq_false (by omega))]
        exact ⟨rfl, s3, rfl, hg2.trans hg3⟩
      · skip
        have c55 : ∃ t, dtO (yrN N + 50) (tx 4) = some t ∧ r9.2.2.2.2.2 ≤ t := by
          have h9 := fun z => c55 (lc_lt.mpr ((lI_lt (dtO_lt (ly := yrN N + 50) (T := tx 4)) (c := r9.2.2.2.2.2) (by have := hr9.1.2.2.2.2; omega)).mpr z))
          cases hv : dtO (yrN N + 50) (tx 4) with
          | none => exact absurd (Or.inl hv) h9
          | some t => exact ⟨t, rfl, Nat.le_of_not_lt (fun z => h9 (Or.inr ⟨t, hv, z⟩))⟩
        refine And.intro (fun c59 => ?_) (fun c59 => ?_)
        · skip
          refine vx_go hC hFt hini (vx_ends hC hr hlk) jc_Mo_conditions 62 (by decide) rfl ?_
          refine And.intro (trivial) (And.intro ?_ (And.intro (Nat.le_refl _) (Nat.le_refl _)))
          obtain ⟨t, ht, hle⟩ := c55
          exact absurd ((lI_lt0 dtO_lt).mp (lc_lt.mp c59)) (by rw [ht]; exact fun z => by cases z)
        · skip
          refine vx_go hC hFt hini (vx_ends hC hr hlk) jc_Mo_conditions 63 (by decide) rfl ?_
          refine And.intro (trivial) (And.intro ?_ (And.intro (Nat.le_refl _) (Nat.le_refl _)))
          obtain ⟨t, ht, hle⟩ := c55
          rw [cn_304 hrf (show unS (yrN N + 50) tx r9 = true by rw [unS, if_pos c33, ht]; exact decide_eq_true hle)]
          exact ⟨rfl, s3, rfl, hg2.trans hg3⟩
    · skip
      have c33 : ¬ tx 3 = [] := fun z => by
        have := of_decide_eq_true (bI_ne c33)
        rw [z] at this
        exact absurd this (by decide)
      refine mo_call hC (c_Mo_tags l D tys tc hty h ar now s2 ai al 3 (tx 3) (hx 3 (by decide)) (some i) false r9.2.2.2.2.1 r9.2.2.2.1 (tagL r9.2.2.2.1) (tgs_tag hi4 hr9.2.2.2.2.1 hr9.1.2.2.2.1 hr9.2.2.2.2.2.1)) wm_Mo_tags wl_Mo_322 wi_Mo_tags ws_Mo_Mo_tags ⟨by decide, by decide⟩ rfl rfl (Nat.le_of_ble_eq_true rfl) ⟨Nat.zero_le _, Nat.zero_le _⟩ (fun r' w1 hp => ?_)
      obtain ⟨rfl, s3, rfl, hg3⟩ := hp
      refine And.intro (fun c40 => ?_) (fun c40 => ?_)
      · skip
        have hq40 : (match tgsL (tagL r9.2.2.2.1) (tx 3) with
            | none => false
            | some v => v.1 || v.2.1) = false := by
          cases hv : tgsL (tagL r9.2.2.2.1) (tx 3) with
          | none => rfl
          | some v =>
            rw [hv] at c40
            exact (Bool.not_eq_true _).mp (fun z => c40 (tgV_iff.mpr z))
        refine vx_go hC hFt hini (vx_ends hC hr hlk) jc_Mo_conditions 43 (by decide) rfl ?_
        refine And.intro (trivial) (And.intro ?_ (And.intro (Nat.le_refl _) (Nat.le_refl _)))
        rw [cn_0 hrf (show unS (yrN N + 50) tx r9 = false by rw [unS, if_neg c33]; exact hq40)]
        exact ⟨rfl, s3, rfl, hg2.trans hg3⟩
      · skip
        have hq40 : (match tgsL (tagL r9.2.2.2.1) (tx 3) with
            | none => false
            | some v => v.1 || v.2.1) = true := by
          have h9 := tgV_iff.mp c40
          cases hv : tgsL (tagL r9.2.2.2.1) (tx 3) with
          | none => rw [hv] at h9; cases h9
          | some v => rw [hv] at h9; exact h9
        refine vx_go hC hFt hini (vx_ends hC hr hlk) jc_Mo_conditions 44 (by decide) rfl ?_
        refine And.intro (trivial) (And.intro ?_ (And.intro (Nat.le_refl _) (Nat.le_refl _)))
        rw [cn_304 hrf (show unS (yrN N + 50) tx r9 = true by rw [unS, if_neg c33]; exact hq40)]
        exact ⟨rfl, s3, rfl, hg2.trans hg3⟩
