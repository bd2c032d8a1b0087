/-! THE READER: small helpers -/
def bI (b : Bool) : Int32 := match b with
  | true => 1
  | false => 0
theorem bI_narrow (b : Bool) : narrow .boolean (.int (bI b)) = .int (bI b) := by cases b <;> rfl
theorem vx_E.mk {ret : Option FieldType} {post : Option Value → va_W → Prop} {mc ms k n : Nat} {r : Option Value} {ws : va_W} (h1 : vx_rt ret r) (h2 : post r ws) (h3 : k ≤ mc) (h4 : n ≤ ms) : vx_E ret post mc ms r ws k n := ⟨h1, h2, h3, h4⟩
theorem ro_true : RO (fun _ _ _ => True) := ⟨fun _ _ _ _ _ _ => trivial, fun _ _ _ _ _ _ => trivial, fun _ _ _ _ _ _ => trivial⟩
def isDg (c : Nat) : Bool := decide (48 ≤ c ∧ c ≤ 57)
set_option maxRecDepth 100000 in
set_option maxHeartbeats 1000000 in
theorem c_Rd_isDigit (l : Launch) (D : va_G) (tys : List (ClassId × FieldType)) (tc : Nat → ClassId) (hty : ∀ i : Nat, i < 4 → tys[i]? = some (tc i, vx_ty i)) (c : Nat) (hc : c < 256) : Kt l y_Rd_isDigit (yw y_Rd_isDigit b_Rd_isDigit 1 (some .boolean)) 0 0 0 0 D cls tys (fun _ _ _ => True) [.int (nI c)] [] (fun r w => r = some (.int (bI (isDg c))) ∧ w = []) := by
  refine Kt.of ro_true (by decide) rfl hty (Nat.le_of_ble_eq_true rfl) ?_
  intro p e s m args below meth c0 A hC hr hlk hnm hF
  have hFt : vx_Ft y_Rd_isDigit.cls (yw y_Rd_isDigit b_Rd_isDigit 1 (some .boolean)) cls cty [] := fun q h => by cases h
  have hini : false = true → meth.name = "<init>" := fun h => by cases h
  refine vx_go hC hFt hini (vx_ends hC hr hlk) jc_Rd_isDigit 0 (Nat.zero_le _) rfl ?_
  refine And.intro (fun c1 => ?_) (fun c1 => ?_)
  · refine vx_go hC hFt hini (vx_ends hC hr hlk) jc_Rd_isDigit 8 (by decide) rfl ?_
    refine And.intro rfl (And.intro (And.intro ?_ rfl) (And.intro (Nat.le_refl _) (Nat.le_refl _)))
    have : ¬ 48 ≤ c := by
      have h2 : nI c < nI 48 := c1
      rw [nI_ltI (by omega) (by omega)] at h2
      omega
    simp [isDg, bI, this]
  · refine And.intro (fun c2 => ?_) (fun c2 => ?_)
    · refine vx_go hC hFt hini (vx_ends hC hr hlk) jc_Rd_isDigit 8 (by decide) rfl ?_
      refine And.intro rfl (And.intro (And.intro ?_ rfl) (And.intro (Nat.le_refl _) (Nat.le_refl _)))
      have : ¬ c ≤ 57 := by
        have h2 : nI 57 < nI c := c2
        rw [nI_ltI (by omega) (by omega)] at h2
        omega
      simp [isDg, bI, this]
    · refine vx_go hC hFt hini (vx_ends hC hr hlk) jc_Rd_isDigit 9 (by decide) rfl ?_
      refine And.intro rfl (And.intro (And.intro ?_ rfl) (And.intro (Nat.le_refl _) (Nat.le_refl _)))
      have h3 : 48 ≤ c ∧ c ≤ 57 := by
        have h1 : ¬ nI c < nI 48 := c1
        have h2 : ¬ nI 57 < nI c := c2
        rw [nI_ltI (by omega) (by omega)] at h1 h2
        omega
      simp [isDg, bI, h3]
