/-! THE REFERENCE'S WORLD: one object, thirteen arrays, by program (wip/whole/gen/p30.py). sc k: its int of slot k; ai, al: its arrays by place -/
def mdW (tc : Nat → ClassId) (h : Nat) (ar : Nat → Nat) (now : Int64) (sc : Nat → Int32) (ai : Nat → Nat → Int32) (al : Nat → Nat → Int64) : va_W := [(h, .inr (9, [.long now, .int (sc 1), .ref (ar 1), .ref (ar 2), .ref (ar 3), .ref (ar 4), .ref (ar 5), .ref (ar 6), .int (sc 8), .ref (ar 7), .ref (ar 8), .int (sc 11), .int (sc 12), .int (sc 13), .int (sc 14), .int (sc 15), .int (sc 16), .int (sc 17), .int (sc 18), .int (sc 19), .int (sc 20), .ref (ar 9), .ref (ar 10), .int (sc 23), .int (sc 24), .int (sc 25), .int (sc 26), .int (sc 27), .ref (ar 11), .ref (ar 12), .ref (ar 13)])), (ar 1, .inl (tc 0, 4, .inl (ai 1))), (ar 2, .inl (tc 0, 4, .inl (ai 2))), (ar 3, .inl (tc 0, 4, .inl (ai 3))), (ar 4, .inl (tc 0, 4, .inl (ai 4))), (ar 5, .inl (tc 3, 4, .inl (ai 5))), (ar 6, .inl (tc 2, 4, .inr (.inl (al 6)))), (ar 7, .inl (tc 0, 768, .inl (ai 7))), (ar 8, .inl (tc 0, 8, .inl (ai 8))), (ar 9, .inl (tc 0, 96, .inl (ai 9))), (ar 10, .inl (tc 0, 96, .inl (ai 10))), (ar 11, .inl (tc 0, 4, .inl (ai 11))), (ar 12, .inl (tc 0, 4, .inl (ai 12))), (ar 13, .inl (tc 2, 15, .inr (.inl (al 13))))]
/-- it reads field F, whose text is T, and stands at ps -/
def mdS (sc : Nat → Int32) (ai : Nat → Nat → Int32) (F : Nat) (T : List Nat) (ps : Nat) : Prop := F < 8 ∧ sc 11 = nI F ∧ ai 8 F = nI T.length ∧ (∀ j, j < T.length → ai 7 (96 * F + j) = nI (T.getD j 0)) ∧ isT T ∧ sc 12 = nI ps ∧ ps ≤ 400
theorem mdS.at {sc : Nat → Int32} {ai : Nat → Nat → Int32} {F : Nat} {T : List Nat} {ps p2 : Nat} (h : mdS sc ai F T ps) (h2 : p2 ≤ 400) : mdS (upd sc 12 (nI p2)) ai F T p2 := ⟨h.1, (pk_un (by decide)).trans h.2.1, h.2.2.1, h.2.2.2.1, h.2.2.2.2.1, pk_us, h2⟩
theorem mdS.ot {sc : Nat → Int32} {ai : Nat → Nat → Int32} {F : Nat} {T : List Nat} {ps k : Nat} {v : Int32} (h : mdS sc ai F T ps) (h1 : 11 ≠ k) (h2 : 12 ≠ k) : mdS (upd sc k v) ai F T ps := ⟨h.1, (pk_un h1).trans h.2.1, h.2.2.1, h.2.2.2.1, h.2.2.2.2.1, (pk_un h2).trans h.2.2.2.2.2.1, h.2.2.2.2.2.2⟩
theorem T_lt {T : List Nat} (h : isT T) (k : Nat) : T.getD k 0 < 256 := by
  by_cases e : k < T.length
  · rw [List.getD_eq_getElem?_getD, List.getElem?_eq_getElem e]; exact (h.2 _ (List.getElem_mem e)).2
  · rw [List.getD_eq_getElem?_getD, List.getElem?_eq_none (by omega)]; decide
theorem T_out {T : List Nat} {k : Nat} (h : T.length ≤ k) : T.getD k 0 = 0 := by rw [List.getD_eq_getElem?_getD, List.getElem?_eq_none h]; rfl
theorem T_in {T : List Nat} {k : Nat} (h : ¬ T.getD k 0 = 0) : k < T.length := Nat.lt_of_not_le (fun z => h (T_out z))
section
variable {p : Program} {l : Launch} {e : Env} {R : Room} {s : State} {m : MethodId} {args : Array Value} {below : List Frame} {meth : Method} {c : Code} {cc : ByteArray} {nL : Nat} {D : va_G} {tys : List (ClassId × FieldType)} {A : Nat → Prop} {tc : Nat → ClassId} {Q : State → Prop} {st rest : List Value} {k n : Nat} {post : Option Value → va_W → Prop} {ret : Option FieldType} {K : List Value → va_W → Nat → Nat → Prop} {y y0 : MethodName} {bytes b0 : ByteArray} {maxL n0 index nA fr lo : Nat} {r0 : Option FieldType} {h : Nat} {As : List Value} {ar : Nat → Nat} {now : Int64} {sc : Nat → Int32} {ai : Nat → Nat → Int32} {al : Nat → Nat → Int64} {ws : va_W}
theorem mo_call (hC : Cx p s m args c cc nL "OriginDeskModel" (yw y0 b0 n0 r0) D cls tys A tc) (hk : Kt l y (yw y bytes maxL ret) fr lo 0 0 D cls tys (fun _ _ _ => True) (.ref h :: As) (mdW tc h ar now sc ai al) post) (hwm : wm y bytes maxL ret nA) (hl : Cond.methodLink "OriginDeskModel" index y ∈ gw) (hi : Cond.instanceMethod y ∈ gw) (hsel : Cond.selects "OriginDeskModel" y y ∈ gw) (hR : fr + 1 ≤ R.frames ∧ 8 + (maxL + 11) + lo ≤ R.locals) (hlen : As.length = nA) (hst : st = As.reverse ++ .ref h :: rest) (hW : (rest.map fun v => v.category).sum ≤ 8) (hkn : k ≤ R.cells ∧ n ≤ R.slots)
    (kk : ∀ (r : Option Value) (w1 : va_W), post r w1 → K (r.toList ++ rest) w1 k n) : vx_SX cc (Vx p l e R s m args below meth c nL D cls A Q) (.invokevirtual index) 3 st (mdW tc h ar now sc ai al) k n K :=
  sx_callV (wr := []) hC hk (cw_V (C := "OriginDeskModel") hwm hl hi hsel hC.2.2.2.2.1 hR) [0, 1, 2, 3, 4, 5, 6, 7, 8, 9, 10, 11, 12, 13] [] rfl rfl rfl rfl (by simp) (q0 := 0) (ci := 9) rfl rfl rfl (fun _ _ _ _ _ => trivial) hlen hst hW hkn kk
theorem mo_calls (hC : Cx p s m args c cc nL "OriginDeskModel" (yw y0 b0 n0 r0) D cls tys A tc) {post : Option Value → Prop} (hk : Kt l y (yw y bytes maxL ret) fr lo 0 0 D cls tys (fun _ _ _ => True) As [] (fun r w => post r ∧ w = [])) (hwm : wm y bytes maxL ret nA) (hl : Cond.methodLink "OriginDeskModel" index y ∈ gw) (hi : Cond.static y ∈ gw) (hR : fr + 1 ≤ R.frames ∧ 8 + (maxL + 11) + lo ≤ R.locals) (hlen : As.length = nA) (hst : st = As.reverse ++ rest) (hW : (rest.map fun v => v.category).sum ≤ 8) (hkn : k ≤ R.cells ∧ n ≤ R.slots)
    (kk : ∀ (r : Option Value), post r → K (r.toList ++ rest) ws k n) : vx_SX cc (Vx p l e R s m args below meth c nL D cls A Q) (.invokestatic index) 3 st ws k n K := calls0 hC hk trivial hwm hl hi hR hlen hst hW hkn kk
end
set_option maxRecDepth 100000 in
set_option maxHeartbeats 4000000 in
theorem c_Mo_isDigit (l : Launch) (D : va_G) (tys : List (ClassId × FieldType)) (tc : Nat → ClassId) (hty : ∀ i : Nat, i < 4 → tys[i]? = some (tc i, vx_ty i)) (c : Nat) (hc : c < 256) : Kt l y_Mo_isDigit (yw y_Mo_isDigit b_Mo_isDigit 1 (some .boolean)) 0 0 0 0 D cls tys (fun _ _ _ => True) [.int (nI c)] [] (fun r w => r = some (.int (bI (isDg c))) ∧ w = []) := by
  refine Kt.of ro_true (by decide) rfl hty (Nat.le_of_ble_eq_true rfl) ?_
  intro p e s m args below meth c0 A hC hr hlk hnm hF
  have hFt : vx_Ft y_Mo_isDigit.cls (yw y_Mo_isDigit b_Mo_isDigit 1 (some .boolean)) cls cty [] := (fun q h => by cases h)
  have hini : false = true → meth.name = "<init>" := fun h => by cases h
  refine vx_go hC hFt hini (vx_ends hC hr hlk) jc_Mo_isDigit 0 (by decide) rfl ?_
  refine And.intro (fun c2 => ?_) (fun c2 => ?_)
  · skip
    have c2 := (nI_ltI (a := c) (b := 48) (by omega) (by omega)).mp c2
    refine vx_go hC hFt hini (vx_ends hC hr hlk) jc_Mo_isDigit 8 (by decide) rfl ?_
    refine And.intro (rfl) (And.intro ?_ (And.intro (Nat.le_refl _) (Nat.le_refl _)))
    first | (rw [show isDg c = true by simp only [isDg, decide_eq_true_eq]; omega]; exact And.intro rfl rfl) | (rw [show isDg c = false by simp only [isDg, decide_eq_false_iff_not]; omega]; exact And.intro rfl rfl)
  · skip
    have c2 : ¬ (c < 48) := fun z => c2 ((nI_ltI (a := c) (b := 48) (by omega) (by omega)).mpr z)
    refine And.intro (fun c5 => ?_) (fun c5 => ?_)
    · skip
      have c5 := (nI_ltI (a := 57) (b := c) (by omega) (by omega)).mp c5
      refine vx_go hC hFt hini (vx_ends hC hr hlk) jc_Mo_isDigit 8 (by decide) rfl ?_
      refine And.intro (rfl) (And.intro ?_ (And.intro (Nat.le_refl _) (Nat.le_refl _)))
      first | (rw [show isDg c = true by simp only [isDg, decide_eq_true_eq]; omega]; exact And.intro rfl rfl) | (rw [show isDg c = false by simp only [isDg, decide_eq_false_iff_not]; omega]; exact And.intro rfl rfl)
    · skip
      have c5 : ¬ (57 < c) := fun z => c5 ((nI_ltI (a := 57) (b := c) (by omega) (by omega)).mpr z)
      refine vx_go hC hFt hini (vx_ends hC hr hlk) jc_Mo_isDigit 9 (by decide) rfl ?_
      refine And.intro (rfl) (And.intro ?_ (And.intro (Nat.le_refl _) (Nat.le_refl _)))
      first | (rw [show isDg c = true by simp only [isDg, decide_eq_true_eq]; omega]; exact And.intro rfl rfl) | (rw [show isDg c = false by simp only [isDg, decide_eq_false_iff_not]; omega]; exact And.intro rfl rfl)
set_option maxRecDepth 100000 in
set_option maxHeartbeats 4000000 in
theorem c_Mo_isLetter (l : Launch) (D : va_G) (tys : List (ClassId × FieldType)) (tc : Nat → ClassId) (hty : ∀ i : Nat, i < 4 → tys[i]? = some (tc i, vx_ty i)) (c : Nat) (hc : c < 256) : Kt l y_Mo_isLetter (yw y_Mo_isLetter b_Mo_isLetter 1 (some .boolean)) 0 0 0 0 D cls tys (fun _ _ _ => True) [.int (nI c)] [] (fun r w => r = some (.int (bI (isLt c))) ∧ w = []) := by
  refine Kt.of ro_true (by decide) rfl hty (Nat.le_of_ble_eq_true rfl) ?_
  intro p e s m args below meth c0 A hC hr hlk hnm hF
  have hFt : vx_Ft y_Mo_isLetter.cls (yw y_Mo_isLetter b_Mo_isLetter 1 (some .boolean)) cls cty [] := (fun q h => by cases h)
  have hini : false = true → meth.name = "<init>" := fun h => by cases h
  refine vx_go hC hFt hini (vx_ends hC hr hlk) jc_Mo_isLetter 0 (by decide) rfl ?_
  refine And.intro (fun c2 => ?_) (fun c2 => ?_)
  · skip
    have c2 := (nI_ltI (a := c) (b := 65) (by omega) (by omega)).mp c2
    refine vx_go hC hFt hini (vx_ends hC hr hlk) jc_Mo_isLetter 6 (by decide) rfl ?_
    refine And.intro (fun c8 => ?_) (fun c8 => ?_)
    · skip
      have c8 := (nI_ltI (a := c) (b := 97) (by omega) (by omega)).mp c8
      refine vx_go hC hFt hini (vx_ends hC hr hlk) jc_Mo_isLetter 14 (by decide) rfl ?_
      refine And.intro (rfl) (And.intro ?_ (And.intro (Nat.le_refl _) (Nat.le_refl _)))
      first | (rw [show isLt c = true by simp only [isLt, decide_eq_true_eq]; omega]; exact And.intro rfl rfl) | (rw [show isLt c = false by simp only [isLt, decide_eq_false_iff_not]; omega]; exact And.intro rfl rfl)
    · skip
      have c8 : ¬ (c < 97) := fun z => c8 ((nI_ltI (a := c) (b := 97) (by omega) (by omega)).mpr z)
      refine And.intro (fun c11 => ?_) (fun c11 => ?_)
      · skip
        have c11 := (nI_ltI (a := 122) (b := c) (by omega) (by omega)).mp c11
        refine vx_go hC hFt hini (vx_ends hC hr hlk) jc_Mo_isLetter 14 (by decide) rfl ?_
        refine And.intro (rfl) (And.intro ?_ (And.intro (Nat.le_refl _) (Nat.le_refl _)))
        first | (rw [show isLt c = true by simp only [isLt, decide_eq_true_eq]; omega]; exact And.intro rfl rfl) | (rw [show isLt c = false by simp only [isLt, decide_eq_false_iff_not]; omega]; exact And.intro rfl rfl)
      · skip
        have c11 : ¬ (122 < c) := fun z => c11 ((nI_ltI (a := 122) (b := c) (by omega) (by omega)).mpr z)
        refine vx_go hC hFt hini (vx_ends hC hr hlk) jc_Mo_isLetter 15 (by decide) rfl ?_
        refine And.intro (rfl) (And.intro ?_ (And.intro (Nat.le_refl _) (Nat.le_refl _)))
        first | (rw [show isLt c = true by simp only [isLt, decide_eq_true_eq]; omega]; exact And.intro rfl rfl) | (rw [show isLt c = false by simp only [isLt, decide_eq_false_iff_not]; omega]; exact And.intro rfl rfl)
  · skip
    have c2 : ¬ (c < 65) := fun z => c2 ((nI_ltI (a := c) (b := 65) (by omega) (by omega)).mpr z)
    refine And.intro (fun c5 => ?_) (fun c5 => ?_)
    · skip
      have c5 := (nI_leI (a := c) (b := 90) (by omega) (by omega)).mp c5
      refine vx_go hC hFt hini (vx_ends hC hr hlk) jc_Mo_isLetter 12 (by decide) rfl ?_
      refine vx_go hC hFt hini (vx_ends hC hr hlk) jc_Mo_isLetter 15 (by decide) rfl ?_
      refine And.intro (rfl) (And.intro ?_ (And.intro (Nat.le_refl _) (Nat.le_refl _)))
      first | (rw [show isLt c = true by simp only [isLt, decide_eq_true_eq]; omega]; exact And.intro rfl rfl) | (rw [show isLt c = false by simp only [isLt, decide_eq_false_iff_not]; omega]; exact And.intro rfl rfl)
    · skip
      have c5 : ¬ (c ≤ 90) := fun z => c5 ((nI_leI (a := c) (b := 90) (by omega) (by omega)).mpr z)
      refine And.intro (fun c8 => ?_) (fun c8 => ?_)
      · skip
        have c8 := (nI_ltI (a := c) (b := 97) (by omega) (by omega)).mp c8
        refine vx_go hC hFt hini (vx_ends hC hr hlk) jc_Mo_isLetter 14 (by decide) rfl ?_
        refine And.intro (rfl) (And.intro ?_ (And.intro (Nat.le_refl _) (Nat.le_refl _)))
        first | (rw [show isLt c = true by simp only [isLt, decide_eq_true_eq]; omega]; exact And.intro rfl rfl) | (rw [show isLt c = false by simp only [isLt, decide_eq_false_iff_not]; omega]; exact And.intro rfl rfl)
      · skip
        have c8 : ¬ (c < 97) := fun z => c8 ((nI_ltI (a := c) (b := 97) (by omega) (by omega)).mpr z)
        refine And.intro (fun c11 => ?_) (fun c11 => ?_)
        · skip
          have c11 := (nI_ltI (a := 122) (b := c) (by omega) (by omega)).mp c11
          refine vx_go hC hFt hini (vx_ends hC hr hlk) jc_Mo_isLetter 14 (by decide) rfl ?_
          refine And.intro (rfl) (And.intro ?_ (And.intro (Nat.le_refl _) (Nat.le_refl _)))
          first | (rw [show isLt c = true by simp only [isLt, decide_eq_true_eq]; omega]; exact And.intro rfl rfl) | (rw [show isLt c = false by simp only [isLt, decide_eq_false_iff_not]; omega]; exact And.intro rfl rfl)
        · skip
          have c11 : ¬ (122 < c) := fun z => c11 ((nI_ltI (a := 122) (b := c) (by omega) (by omega)).mpr z)
          refine vx_go hC hFt hini (vx_ends hC hr hlk) jc_Mo_isLetter 15 (by decide) rfl ?_
          refine And.intro (rfl) (And.intro ?_ (And.intro (Nat.le_refl _) (Nat.le_refl _)))
          first | (rw [show isLt c = true by simp only [isLt, decide_eq_true_eq]; omega]; exact And.intro rfl rfl) | (rw [show isLt c = false by simp only [isLt, decide_eq_false_iff_not]; omega]; exact And.intro rfl rfl)
set_option maxRecDepth 100000 in
set_option maxHeartbeats 4000000 in
theorem c_Mo_lower (l : Launch) (D : va_G) (tys : List (ClassId × FieldType)) (tc : Nat → ClassId) (hty : ∀ i : Nat, i < 4 → tys[i]? = some (tc i, vx_ty i)) (c : Nat) (hc : c < 256) : Kt l y_Mo_lower (yw y_Mo_lower b_Mo_lower 1 (some .int)) 0 0 0 0 D cls tys (fun _ _ _ => True) [.int (nI c)] [] (fun r w => r = some (.int (nI (lwr c))) ∧ w = []) := by
  refine Kt.of ro_true (by decide) rfl hty (Nat.le_of_ble_eq_true rfl) ?_
  intro p e s m args below meth c0 A hC hr hlk hnm hF
  have hFt : vx_Ft y_Mo_lower.cls (yw y_Mo_lower b_Mo_lower 1 (some .int)) cls cty [] := (fun q h => by cases h)
  have hini : false = true → meth.name = "<init>" := fun h => by cases h
  refine vx_go hC hFt hini (vx_ends hC hr hlk) jc_Mo_lower 0 (by decide) rfl ?_
  refine And.intro (fun c2 => ?_) (fun c2 => ?_)
  · skip
    have c2 := (nI_ltI (a := c) (b := 65) (by omega) (by omega)).mp c2
    refine vx_go hC hFt hini (vx_ends hC hr hlk) jc_Mo_lower 10 (by decide) rfl ?_
    refine And.intro (trivial) (And.intro ?_ (And.intro (Nat.le_refl _) (Nat.le_refl _)))
    refine And.intro ?_ rfl
    simp only [lwr]
    first | (rw [if_pos (by omega), ← nI_add]; rfl) | (rw [if_neg (by omega)])
  · skip
    have c2 : ¬ (c < 65) := fun z => c2 ((nI_ltI (a := c) (b := 65) (by omega) (by omega)).mpr z)
    refine And.intro (fun c5 => ?_) (fun c5 => ?_)
    · skip
      have c5 := (nI_ltI (a := 90) (b := c) (by omega) (by omega)).mp c5
      refine vx_go hC hFt hini (vx_ends hC hr hlk) jc_Mo_lower 10 (by decide) rfl ?_
      refine And.intro (trivial) (And.intro ?_ (And.intro (Nat.le_refl _) (Nat.le_refl _)))
      refine And.intro ?_ rfl
      simp only [lwr]
      first | (rw [if_pos (by omega), ← nI_add]; rfl) | (rw [if_neg (by omega)])
    · skip
      have c5 : ¬ (90 < c) := fun z => c5 ((nI_ltI (a := 90) (b := c) (by omega) (by omega)).mpr z)
      refine vx_go hC hFt hini (vx_ends hC hr hlk) jc_Mo_lower 11 (by decide) rfl ?_
      refine And.intro (trivial) (And.intro ?_ (And.intro (Nat.le_refl _) (Nat.le_refl _)))
      refine And.intro ?_ rfl
      simp only [lwr]
      first | (rw [if_pos (by omega), ← nI_add]; rfl) | (rw [if_neg (by omega)])
def isMk (c : Nat) : Bool := decide (c = 33 ∨ 35 ≤ c ∧ c ≤ 39 ∨ c = 42 ∨ c = 43 ∨ c = 45 ∨ c = 46 ∨ c = 94 ∨ c = 95 ∨ c = 96 ∨ c = 124 ∨ c = 126)
theorem isTk_mk : ∀ c, c < 256 → isTk c = (isDg c || (isLt c || isMk c)) := by decide +kernel
set_option maxRecDepth 100000 in
set_option maxHeartbeats 4000000 in
theorem c_Mo_isToken (l : Launch) (D : va_G) (tys : List (ClassId × FieldType)) (tc : Nat → ClassId) (hty : ∀ i : Nat, i < 4 → tys[i]? = some (tc i, vx_ty i)) (c : Nat) (hc : c < 256) : Kt l y_Mo_isToken (yw y_Mo_isToken b_Mo_isToken 2 (some .boolean)) 1 20 0 0 D cls tys (fun _ _ _ => True) [.int (nI c)] [] (fun r w => r = some (.int (bI (isTk c))) ∧ w = []) := by
  refine Kt.of ro_true (by decide) rfl hty (Nat.le_of_ble_eq_true rfl) ?_
  intro p e s m args below meth c0 A hC hr hlk hnm hF
  have hFt : vx_Ft y_Mo_isToken.cls (yw y_Mo_isToken b_Mo_isToken 2 (some .boolean)) cls cty [] := (fun q h => by cases h)
  have hini : false = true → meth.name = "<init>" := fun h => by cases h
  refine vx_go hC hFt hini (vx_ends hC hr hlk) jc_Mo_isToken 0 (by decide) rfl ?_
  refine And.intro (fun c2 => ?_) (fun c2 => ?_)
  · skip
    have c2 := (nI_eq (a := c) (b := 33) (by omega) (by omega)).mp c2
    refine vx_go hC hFt hini (vx_ends hC hr hlk) jc_Mo_isToken 36 (by decide) rfl ?_
    refine vx_go hC hFt hini (vx_ends hC hr hlk) jc_Mo_isToken 39 (by decide) rfl ?_
    refine mo_calls hC (c_Mo_isDigit l D tys tc hty c hc) wm_Mo_isDigit wl_Mo_119 wt_Mo_isDigit ⟨by decide, by decide⟩ rfl rfl (Nat.le_of_ble_eq_true rfl) ⟨Nat.zero_le _, Nat.zero_le _⟩ (fun r' hp => ?_)
    subst hp
    refine And.intro (fun c42 => ?_) (fun c42 => ?_)
    · skip
      have c42 : isDg c = true := bI_ne c42
      refine vx_go hC hFt hini (vx_ends hC hr hlk) jc_Mo_isToken 48 (by decide) rfl ?_
      refine vx_go hC hFt hini (vx_ends hC hr hlk) jc_Mo_isToken 51 (by decide) rfl ?_
      refine And.intro (rfl) (And.intro ?_ (And.intro (Nat.le_refl _) (Nat.le_refl _)))
      rw [isTk_mk c hc, c42]
      exact And.intro rfl rfl
    · skip
      have c42 : isDg c = false := bI_eq c42
      refine mo_calls hC (c_Mo_isLetter l D tys tc hty c hc) wm_Mo_isLetter wl_Mo_123 wt_Mo_isLetter ⟨by decide, by decide⟩ rfl rfl (Nat.le_of_ble_eq_true rfl) ⟨Nat.zero_le _, Nat.zero_le _⟩ (fun r' hp => ?_)
      subst hp
      refine And.intro (fun c45 => ?_) (fun c45 => ?_)
      · skip
        have c45 : isLt c = true := bI_ne c45
        refine vx_go hC hFt hini (vx_ends hC hr hlk) jc_Mo_isToken 48 (by decide) rfl ?_
        refine vx_go hC hFt hini (vx_ends hC hr hlk) jc_Mo_isToken 51 (by decide) rfl ?_
        refine And.intro (rfl) (And.intro ?_ (And.intro (Nat.le_refl _) (Nat.le_refl _)))
        rw [isTk_mk c hc, c42, c45]
        exact And.intro rfl rfl
      · skip
        have c45 : isLt c = false := bI_eq c45
        refine And.intro (fun c47 => ?_) (fun c47 => ?_)
        · skip
          exact absurd c47 (by decide)
        · skip
          refine vx_go hC hFt hini (vx_ends hC hr hlk) jc_Mo_isToken 51 (by decide) rfl ?_
          refine And.intro (rfl) (And.intro ?_ (And.intro (Nat.le_refl _) (Nat.le_refl _)))
          rw [isTk_mk c hc, c42, c45, show isMk c = true by simp only [isMk, decide_eq_true_eq]; omega]
          exact And.intro rfl rfl
  · skip
    have c2 : ¬ (c = 33) := fun z => c2 ((nI_eq (a := c) (b := 33) (by omega) (by omega)).mpr z)
    refine And.intro (fun c5 => ?_) (fun c5 => ?_)
    · skip
      have c5 := (nI_ltI (a := c) (b := 35) (by omega) (by omega)).mp c5
      refine vx_go hC hFt hini (vx_ends hC hr hlk) jc_Mo_isToken 9 (by decide) rfl ?_
      refine And.intro (fun c11 => ?_) (fun c11 => ?_)
      · skip
        have c11 := (nI_eq (a := c) (b := 42) (by omega) (by omega)).mp c11
        refine vx_go hC hFt hini (vx_ends hC hr hlk) jc_Mo_isToken 36 (by decide) rfl ?_
        refine vx_go hC hFt hini (vx_ends hC hr hlk) jc_Mo_isToken 39 (by decide) rfl ?_
        refine mo_calls hC (c_Mo_isDigit l D tys tc hty c hc) wm_Mo_isDigit wl_Mo_119 wt_Mo_isDigit ⟨by decide, by decide⟩ rfl rfl (Nat.le_of_ble_eq_true rfl) ⟨Nat.zero_le _, Nat.zero_le _⟩ (fun r' hp => ?_)
        subst hp
        refine And.intro (fun c42 => ?_) (fun c42 => ?_)
        · skip
          have c42 : isDg c = true := bI_ne c42
          refine vx_go hC hFt hini (vx_ends hC hr hlk) jc_Mo_isToken 48 (by decide) rfl ?_
          refine vx_go hC hFt hini (vx_ends hC hr hlk) jc_Mo_isToken 51 (by decide) rfl ?_
          refine And.intro (rfl) (And.intro ?_ (And.intro (Nat.le_refl _) (Nat.le_refl _)))
          rw [isTk_mk c hc, c42]
          exact And.intro rfl rfl
        · skip
          have c42 : isDg c = false := bI_eq c42
          refine mo_calls hC (c_Mo_isLetter l D tys tc hty c hc) wm_Mo_isLetter wl_Mo_123 wt_Mo_isLetter ⟨by decide, by decide⟩ rfl rfl (Nat.le_of_ble_eq_true rfl) ⟨Nat.zero_le _, Nat.zero_le _⟩ (fun r' hp => ?_)
          subst hp
          refine And.intro (fun c45 => ?_) (fun c45 => ?_)
          · skip
            have c45 : isLt c = true := bI_ne c45
            refine vx_go hC hFt hini (vx_ends hC hr hlk) jc_Mo_isToken 48 (by decide) rfl ?_
            refine vx_go hC hFt hini (vx_ends hC hr hlk) jc_Mo_isToken 51 (by decide) rfl ?_
            refine And.intro (rfl) (And.intro ?_ (And.intro (Nat.le_refl _) (Nat.le_refl _)))
            rw [isTk_mk c hc, c42, c45]
            exact And.intro rfl rfl
          · skip
            have c45 : isLt c = false := bI_eq c45
            refine And.intro (fun c47 => ?_) (fun c47 => ?_)
            · skip
              exact absurd c47 (by decide)
            · skip
              refine vx_go hC hFt hini (vx_ends hC hr hlk) jc_Mo_isToken 51 (by decide) rfl ?_
              refine And.intro (rfl) (And.intro ?_ (And.intro (Nat.le_refl _) (Nat.le_refl _)))
              rw [isTk_mk c hc, c42, c45, show isMk c = true by simp only [isMk, decide_eq_true_eq]; omega]
              exact And.intro rfl rfl
      · skip
        have c11 : ¬ (c = 42) := fun z => c11 ((nI_eq (a := c) (b := 42) (by omega) (by omega)).mpr z)
        refine And.intro (fun c14 => ?_) (fun c14 => ?_)
        · skip
          have c14 := (nI_eq (a := c) (b := 43) (by omega) (by omega)).mp c14
          refine vx_go hC hFt hini (vx_ends hC hr hlk) jc_Mo_isToken 36 (by decide) rfl ?_
          refine vx_go hC hFt hini (vx_ends hC hr hlk) jc_Mo_isToken 39 (by decide) rfl ?_
          refine mo_calls hC (c_Mo_isDigit l D tys tc hty c hc) wm_Mo_isDigit wl_Mo_119 wt_Mo_isDigit ⟨by decide, by decide⟩ rfl rfl (Nat.le_of_ble_eq_true rfl) ⟨Nat.zero_le _, Nat.zero_le _⟩ (fun r' hp => ?_)
          subst hp
          refine And.intro (fun c42 => ?_) (fun c42 => ?_)
          · skip
            have c42 : isDg c = true := bI_ne c42
            refine vx_go hC hFt hini (vx_ends hC hr hlk) jc_Mo_isToken 48 (by decide) rfl ?_
            refine vx_go hC hFt hini (vx_ends hC hr hlk) jc_Mo_isToken 51 (by decide) rfl ?_
            refine And.intro (rfl) (And.intro ?_ (And.intro (Nat.le_refl _) (Nat.le_refl _)))
            rw [isTk_mk c hc, c42]
            exact And.intro rfl rfl
          · skip
            have c42 : isDg c = false := bI_eq c42
            refine mo_calls hC (c_Mo_isLetter l D tys tc hty c hc) wm_Mo_isLetter wl_Mo_123 wt_Mo_isLetter ⟨by decide, by decide⟩ rfl rfl (Nat.le_of_ble_eq_true rfl) ⟨Nat.zero_le _, Nat.zero_le _⟩ (fun r' hp => ?_)
            subst hp
            refine And.intro (fun c45 => ?_) (fun c45 => ?_)
            · skip
              have c45 : isLt c = true := bI_ne c45
              refine vx_go hC hFt hini (vx_ends hC hr hlk) jc_Mo_isToken 48 (by decide) rfl ?_
              refine vx_go hC hFt hini (vx_ends hC hr hlk) jc_Mo_isToken 51 (by decide) rfl ?_
              refine And.intro (rfl) (And.intro ?_ (And.intro (Nat.le_refl _) (Nat.le_refl _)))
              rw [isTk_mk c hc, c42, c45]
              exact And.intro rfl rfl
            · skip
              have c45 : isLt c = false := bI_eq c45
              refine And.intro (fun c47 => ?_) (fun c47 => ?_)
              · skip
                exact absurd c47 (by decide)
              · skip
                refine vx_go hC hFt hini (vx_ends hC hr hlk) jc_Mo_isToken 51 (by decide) rfl ?_
                refine And.intro (rfl) (And.intro ?_ (And.intro (Nat.le_refl _) (Nat.le_refl _)))
                rw [isTk_mk c hc, c42, c45, show isMk c = true by simp only [isMk, decide_eq_true_eq]; omega]
                exact And.intro rfl rfl
        · skip
          have c14 : ¬ (c = 43) := fun z => c14 ((nI_eq (a := c) (b := 43) (by omega) (by omega)).mpr z)
          refine And.intro (fun c17 => ?_) (fun c17 => ?_)
          · skip
            have c17 := (nI_eq (a := c) (b := 45) (by omega) (by omega)).mp c17
            refine vx_go hC hFt hini (vx_ends hC hr hlk) jc_Mo_isToken 36 (by decide) rfl ?_
            refine vx_go hC hFt hini (vx_ends hC hr hlk) jc_Mo_isToken 39 (by decide) rfl ?_
            refine mo_calls hC (c_Mo_isDigit l D tys tc hty c hc) wm_Mo_isDigit wl_Mo_119 wt_Mo_isDigit ⟨by decide, by decide⟩ rfl rfl (Nat.le_of_ble_eq_true rfl) ⟨Nat.zero_le _, Nat.zero_le _⟩ (fun r' hp => ?_)
            subst hp
            refine And.intro (fun c42 => ?_) (fun c42 => ?_)
            · skip
              have c42 : isDg c = true := bI_ne c42
              refine vx_go hC hFt hini (vx_ends hC hr hlk) jc_Mo_isToken 48 (by decide) rfl ?_
              refine vx_go hC hFt hini (vx_ends hC hr hlk) jc_Mo_isToken 51 (by decide) rfl ?_
              refine And.intro (rfl) (And.intro ?_ (And.intro (Nat.le_refl _) (Nat.le_refl _)))
              rw [isTk_mk c hc, c42]
              exact And.intro rfl rfl
            · skip
              have c42 : isDg c = false := bI_eq c42
              refine mo_calls hC (c_Mo_isLetter l D tys tc hty c hc) wm_Mo_isLetter wl_Mo_123 wt_Mo_isLetter ⟨by decide, by decide⟩ rfl rfl (Nat.le_of_ble_eq_true rfl) ⟨Nat.zero_le _, Nat.zero_le _⟩ (fun r' hp => ?_)
              subst hp
              refine And.intro (fun c45 => ?_) (fun c45 => ?_)
              · skip
                have c45 : isLt c = true := bI_ne c45
                refine vx_go hC hFt hini (vx_ends hC hr hlk) jc_Mo_isToken 48 (by decide) rfl ?_
                refine vx_go hC hFt hini (vx_ends hC hr hlk) jc_Mo_isToken 51 (by decide) rfl ?_
                refine And.intro (rfl) (And.intro ?_ (And.intro (Nat.le_refl _) (Nat.le_refl _)))
                rw [isTk_mk c hc, c42, c45]
                exact And.intro rfl rfl
              · skip
                have c45 : isLt c = false := bI_eq c45
                refine And.intro (fun c47 => ?_) (fun c47 => ?_)
                · skip
                  exact absurd c47 (by decide)
                · skip
                  refine vx_go hC hFt hini (vx_ends hC hr hlk) jc_Mo_isToken 51 (by decide) rfl ?_
                  refine And.intro (rfl) (And.intro ?_ (And.intro (Nat.le_refl _) (Nat.le_refl _)))
                  rw [isTk_mk c hc, c42, c45, show isMk c = true by simp only [isMk, decide_eq_true_eq]; omega]
                  exact And.intro rfl rfl
          · skip
            have c17 : ¬ (c = 45) := fun z => c17 ((nI_eq (a := c) (b := 45) (by omega) (by omega)).mpr z)
            refine And.intro (fun c20 => ?_) (fun c20 => ?_)
            · skip
              have c20 := (nI_eq (a := c) (b := 46) (by omega) (by omega)).mp c20
              refine vx_go hC hFt hini (vx_ends hC hr hlk) jc_Mo_isToken 36 (by decide) rfl ?_
              refine vx_go hC hFt hini (vx_ends hC hr hlk) jc_Mo_isToken 39 (by decide) rfl ?_
              refine mo_calls hC (c_Mo_isDigit l D tys tc hty c hc) wm_Mo_isDigit wl_Mo_119 wt_Mo_isDigit ⟨by decide, by decide⟩ rfl rfl (Nat.le_of_ble_eq_true rfl) ⟨Nat.zero_le _, Nat.zero_le _⟩ (fun r' hp => ?_)
              subst hp
              refine And.intro (fun c42 => ?_) (fun c42 => ?_)
              · skip
                have c42 : isDg c = true := bI_ne c42
                refine vx_go hC hFt hini (vx_ends hC hr hlk) jc_Mo_isToken 48 (by decide) rfl ?_
                refine vx_go hC hFt hini (vx_ends hC hr hlk) jc_Mo_isToken 51 (by decide) rfl ?_
                refine And.intro (rfl) (And.intro ?_ (And.intro (Nat.le_refl _) (Nat.le_refl _)))
                rw [isTk_mk c hc, c42]
                exact And.intro rfl rfl
              · skip
                have c42 : isDg c = false := bI_eq c42
                refine mo_calls hC (c_Mo_isLetter l D tys tc hty c hc) wm_Mo_isLetter wl_Mo_123 wt_Mo_isLetter ⟨by decide, by decide⟩ rfl rfl (Nat.le_of_ble_eq_true rfl) ⟨Nat.zero_le _, Nat.zero_le _⟩ (fun r' hp => ?_)
                subst hp
                refine And.intro (fun c45 => ?_) (fun c45 => ?_)
                · skip
                  have c45 : isLt c = true := bI_ne c45
                  refine vx_go hC hFt hini (vx_ends hC hr hlk) jc_Mo_isToken 48 (by decide) rfl ?_
                  refine vx_go hC hFt hini (vx_ends hC hr hlk) jc_Mo_isToken 51 (by decide) rfl ?_
                  refine And.intro (rfl) (And.intro ?_ (And.intro (Nat.le_refl _) (Nat.le_refl _)))
                  rw [isTk_mk c hc, c42, c45]
                  exact And.intro rfl rfl
                · skip
                  have c45 : isLt c = false := bI_eq c45
                  refine And.intro (fun c47 => ?_) (fun c47 => ?_)
                  · skip
                    exact absurd c47 (by decide)
                  · skip
                    refine vx_go hC hFt hini (vx_ends hC hr hlk) jc_Mo_isToken 51 (by decide) rfl ?_
                    refine And.intro (rfl) (And.intro ?_ (And.intro (Nat.le_refl _) (Nat.le_refl _)))
                    rw [isTk_mk c hc, c42, c45, show isMk c = true by simp only [isMk, decide_eq_true_eq]; omega]
                    exact And.intro rfl rfl
            · skip
              have c20 : ¬ (c = 46) := fun z => c20 ((nI_eq (a := c) (b := 46) (by omega) (by omega)).mpr z)
              refine And.intro (fun c23 => ?_) (fun c23 => ?_)
              · skip
                have c23 := (nI_eq (a := c) (b := 94) (by omega) (by omega)).mp c23
                refine vx_go hC hFt hini (vx_ends hC hr hlk) jc_Mo_isToken 36 (by decide) rfl ?_
                refine vx_go hC hFt hini (vx_ends hC hr hlk) jc_Mo_isToken 39 (by decide) rfl ?_
                refine mo_calls hC (c_Mo_isDigit l D tys tc hty c hc) wm_Mo_isDigit wl_Mo_119 wt_Mo_isDigit ⟨by decide, by decide⟩ rfl rfl (Nat.le_of_ble_eq_true rfl) ⟨Nat.zero_le _, Nat.zero_le _⟩ (fun r' hp => ?_)
                subst hp
                refine And.intro (fun c42 => ?_) (fun c42 => ?_)
                · skip
                  have c42 : isDg c = true := bI_ne c42
                  refine vx_go hC hFt hini (vx_ends hC hr hlk) jc_Mo_isToken 48 (by decide) rfl ?_
                  refine vx_go hC hFt hini (vx_ends hC hr hlk) jc_Mo_isToken 51 (by decide) rfl ?_
                  refine And.intro (rfl) (And.intro ?_ (And.intro (Nat.le_refl _) (Nat.le_refl _)))
                  rw [isTk_mk c hc, c42]
                  exact And.intro rfl rfl
                · skip
                  have c42 : isDg c = false := bI_eq c42
                  refine mo_calls hC (c_Mo_isLetter l D tys tc hty c hc) wm_Mo_isLetter wl_Mo_123 wt_Mo_isLetter ⟨by decide, by decide⟩ rfl rfl (Nat.le_of_ble_eq_true rfl) ⟨Nat.zero_le _, Nat.zero_le _⟩ (fun r' hp => ?_)
                  subst hp
                  refine And.intro (fun c45 => ?_) (fun c45 => ?_)
                  · skip
                    have c45 : isLt c = true := bI_ne c45
                    refine vx_go hC hFt hini (vx_ends hC hr hlk) jc_Mo_isToken 48 (by decide) rfl ?_
                    refine vx_go hC hFt hini (vx_ends hC hr hlk) jc_Mo_isToken 51 (by decide) rfl ?_
                    refine And.intro (rfl) (And.intro ?_ (And.intro (Nat.le_refl _) (Nat.le_refl _)))
                    rw [isTk_mk c hc, c42, c45]
                    exact And.intro rfl rfl
                  · skip
                    have c45 : isLt c = false := bI_eq c45
                    refine And.intro (fun c47 => ?_) (fun c47 => ?_)
                    · skip
                      exact absurd c47 (by decide)
                    · skip
                      refine vx_go hC hFt hini (vx_ends hC hr hlk) jc_Mo_isToken 51 (by decide) rfl ?_
                      refine And.intro (rfl) (And.intro ?_ (And.intro (Nat.le_refl _) (Nat.le_refl _)))
                      rw [isTk_mk c hc, c42, c45, show isMk c = true by simp only [isMk, decide_eq_true_eq]; omega]
                      exact And.intro rfl rfl
              · skip
                have c23 : ¬ (c = 94) := fun z => c23 ((nI_eq (a := c) (b := 94) (by omega) (by omega)).mpr z)
                refine And.intro (fun c26 => ?_) (fun c26 => ?_)
                · skip
                  have c26 := (nI_eq (a := c) (b := 95) (by omega) (by omega)).mp c26
                  refine vx_go hC hFt hini (vx_ends hC hr hlk) jc_Mo_isToken 36 (by decide) rfl ?_
                  refine vx_go hC hFt hini (vx_ends hC hr hlk) jc_Mo_isToken 39 (by decide) rfl ?_
                  refine mo_calls hC (c_Mo_isDigit l D tys tc hty c hc) wm_Mo_isDigit wl_Mo_119 wt_Mo_isDigit ⟨by decide, by decide⟩ rfl rfl (Nat.le_of_ble_eq_true rfl) ⟨Nat.zero_le _, Nat.zero_le _⟩ (fun r' hp => ?_)
                  subst hp
                  refine And.intro (fun c42 => ?_) (fun c42 => ?_)
                  · skip
                    have c42 : isDg c = true := bI_ne c42
                    refine vx_go hC hFt hini (vx_ends hC hr hlk) jc_Mo_isToken 48 (by decide) rfl ?_
                    refine vx_go hC hFt hini (vx_ends hC hr hlk) jc_Mo_isToken 51 (by decide) rfl ?_
                    refine And.intro (rfl) (And.intro ?_ (And.intro (Nat.le_refl _) (Nat.le_refl _)))
                    rw [isTk_mk c hc, c42]
                    exact And.intro rfl rfl
                  · skip
                    have c42 : isDg c = false := bI_eq c42
                    refine mo_calls hC (c_Mo_isLetter l D tys tc hty c hc) wm_Mo_isLetter wl_Mo_123 wt_Mo_isLetter ⟨by decide, by decide⟩ rfl rfl (Nat.le_of_ble_eq_true rfl) ⟨Nat.zero_le _, Nat.zero_le _⟩ (fun r' hp => ?_)
                    subst hp
                    refine And.intro (fun c45 => ?_) (fun c45 => ?_)
                    · skip
                      have c45 : isLt c = true := bI_ne c45
                      refine vx_go hC hFt hini (vx_ends hC hr hlk) jc_Mo_isToken 48 (by decide) rfl ?_
                      refine vx_go hC hFt hini (vx_ends hC hr hlk) jc_Mo_isToken 51 (by decide) rfl ?_
                      refine And.intro (rfl) (And.intro ?_ (And.intro (Nat.le_refl _) (Nat.le_refl _)))
                      rw [isTk_mk c hc, c42, c45]
                      exact And.intro rfl rfl
                    · skip
                      have c45 : isLt c = false := bI_eq c45
                      refine And.intro (fun c47 => ?_) (fun c47 => ?_)
                      · skip
                        exact absurd c47 (by decide)
                      · skip
                        refine vx_go hC hFt hini (vx_ends hC hr hlk) jc_Mo_isToken 51 (by decide) rfl ?_
                        refine And.intro (rfl) (And.intro ?_ (And.intro (Nat.le_refl _) (Nat.le_refl _)))
                        rw [isTk_mk c hc, c42, c45, show isMk c = true by simp only [isMk, decide_eq_true_eq]; omega]
                        exact And.intro rfl rfl
                · skip
                  have c26 : ¬ (c = 95) := fun z => c26 ((nI_eq (a := c) (b := 95) (by omega) (by omega)).mpr z)
                  refine And.intro (fun c29 => ?_) (fun c29 => ?_)
                  · skip
                    have c29 := (nI_eq (a := c) (b := 96) (by omega) (by omega)).mp c29
                    refine vx_go hC hFt hini (vx_ends hC hr hlk) jc_Mo_isToken 36 (by decide) rfl ?_
                    refine vx_go hC hFt hini (vx_ends hC hr hlk) jc_Mo_isToken 39 (by decide) rfl ?_
                    refine mo_calls hC (c_Mo_isDigit l D tys tc hty c hc) wm_Mo_isDigit wl_Mo_119 wt_Mo_isDigit ⟨by decide, by decide⟩ rfl rfl (Nat.le_of_ble_eq_true rfl) ⟨Nat.zero_le _, Nat.zero_le _⟩ (fun r' hp => ?_)
                    subst hp
                    refine And.intro (fun c42 => ?_) (fun c42 => ?_)
                    · skip
                      have c42 : isDg c = true := bI_ne c42
                      refine vx_go hC hFt hini (vx_ends hC hr hlk) jc_Mo_isToken 48 (by decide) rfl ?_
                      refine vx_go hC hFt hini (vx_ends hC hr hlk) jc_Mo_isToken 51 (by decide) rfl ?_
                      refine And.intro (rfl) (And.intro ?_ (And.intro (Nat.le_refl _) (Nat.le_refl _)))
                      rw [isTk_mk c hc, c42]
                      exact And.intro rfl rfl
                    · skip
                      have c42 : isDg c = false := bI_eq c42
                      refine mo_calls hC (c_Mo_isLetter l D tys tc hty c hc) wm_Mo_isLetter wl_Mo_123 wt_Mo_isLetter ⟨by decide, by decide⟩ rfl rfl (Nat.le_of_ble_eq_true rfl) ⟨Nat.zero_le _, Nat.zero_le _⟩ (fun r' hp => ?_)
                      subst hp
                      refine And.intro (fun c45 => ?_) (fun c45 => ?_)
                      · skip
                        have c45 : isLt c = true := bI_ne c45
                        refine vx_go hC hFt hini (vx_ends hC hr hlk) jc_Mo_isToken 48 (by decide) rfl ?_
                        refine vx_go hC hFt hini (vx_ends hC hr hlk) jc_Mo_isToken 51 (by decide) rfl ?_
                        refine And.intro (rfl) (And.intro ?_ (And.intro (Nat.le_refl _) (Nat.le_refl _)))
                        rw [isTk_mk c hc, c42, c45]
                        exact And.intro rfl rfl
                      · skip
                        have c45 : isLt c = false := bI_eq c45
                        refine And.intro (fun c47 => ?_) (fun c47 => ?_)
                        · skip
                          exact absurd c47 (by decide)
                        · skip
                          refine vx_go hC hFt hini (vx_ends hC hr hlk) jc_Mo_isToken 51 (by decide) rfl ?_
                          refine And.intro (rfl) (And.intro ?_ (And.intro (Nat.le_refl _) (Nat.le_refl _)))
                          rw [isTk_mk c hc, c42, c45, show isMk c = true by simp only [isMk, decide_eq_true_eq]; omega]
                          exact And.intro rfl rfl
                  · skip
                    have c29 : ¬ (c = 96) := fun z => c29 ((nI_eq (a := c) (b := 96) (by omega) (by omega)).mpr z)
                    refine And.intro (fun c32 => ?_) (fun c32 => ?_)
                    · skip
                      have c32 := (nI_eq (a := c) (b := 124) (by omega) (by omega)).mp c32
                      refine vx_go hC hFt hini (vx_ends hC hr hlk) jc_Mo_isToken 36 (by decide) rfl ?_
                      refine vx_go hC hFt hini (vx_ends hC hr hlk) jc_Mo_isToken 39 (by decide) rfl ?_
                      refine mo_calls hC (c_Mo_isDigit l D tys tc hty c hc) wm_Mo_isDigit wl_Mo_119 wt_Mo_isDigit ⟨by decide, by decide⟩ rfl rfl (Nat.le_of_ble_eq_true rfl) ⟨Nat.zero_le _, Nat.zero_le _⟩ (fun r' hp => ?_)
                      subst hp
                      refine And.intro (fun c42 => ?_) (fun c42 => ?_)
                      · skip
                        have c42 : isDg c = true := bI_ne c42
                        refine vx_go hC hFt hini (vx_ends hC hr hlk) jc_Mo_isToken 48 (by decide) rfl ?_
                        refine vx_go hC hFt hini (vx_ends hC hr hlk) jc_Mo_isToken 51 (by decide) rfl ?_
                        refine And.intro (rfl) (And.intro ?_ (And.intro (Nat.le_refl _) (Nat.le_refl _)))
                        rw [isTk_mk c hc, c42]
                        exact And.intro rfl rfl
                      · skip
                        have c42 : isDg c = false := bI_eq c42
                        refine mo_calls hC (c_Mo_isLetter l D tys tc hty c hc) wm_Mo_isLetter wl_Mo_123 wt_Mo_isLetter ⟨by decide, by decide⟩ rfl rfl (Nat.le_of_ble_eq_true rfl) ⟨Nat.zero_le _, Nat.zero_le _⟩ (fun r' hp => ?_)
                        subst hp
                        refine And.intro (fun c45 => ?_) (fun c45 => ?_)
                        · skip
                          have c45 : isLt c = true := bI_ne c45
                          refine vx_go hC hFt hini (vx_ends hC hr hlk) jc_Mo_isToken 48 (by decide) rfl ?_
                          refine vx_go hC hFt hini (vx_ends hC hr hlk) jc_Mo_isToken 51 (by decide) rfl ?_
                          refine And.intro (rfl) (And.intro ?_ (And.intro (Nat.le_refl _) (Nat.le_refl _)))
                          rw [isTk_mk c hc, c42, c45]
                          exact And.intro rfl rfl
                        · skip
                          have c45 : isLt c = false := bI_eq c45
                          refine And.intro (fun c47 => ?_) (fun c47 => ?_)
                          · skip
                            exact absurd c47 (by decide)
                          · skip
                            refine vx_go hC hFt hini (vx_ends hC hr hlk) jc_Mo_isToken 51 (by decide) rfl ?_
                            refine And.intro (rfl) (And.intro ?_ (And.intro (Nat.le_refl _) (Nat.le_refl _)))
                            rw [isTk_mk c hc, c42, c45, show isMk c = true by simp only [isMk, decide_eq_true_eq]; omega]
                            exact And.intro rfl rfl
                    · skip
                      have c32 : ¬ (c = 124) := fun z => c32 ((nI_eq (a := c) (b := 124) (by omega) (by omega)).mpr z)
                      refine And.intro (fun c35 => ?_) (fun c35 => ?_)
                      · skip
                        have c35 : ¬ (c = 126) := fun z => c35 ((nI_eq (a := c) (b := 126) (by omega) (by omega)).mpr z)
                        refine vx_go hC hFt hini (vx_ends hC hr hlk) jc_Mo_isToken 38 (by decide) rfl ?_
                        refine mo_calls hC (c_Mo_isDigit l D tys tc hty c hc) wm_Mo_isDigit wl_Mo_119 wt_Mo_isDigit ⟨by decide, by decide⟩ rfl rfl (Nat.le_of_ble_eq_true rfl) ⟨Nat.zero_le _, Nat.zero_le _⟩ (fun r' hp => ?_)
                        subst hp
                        refine And.intro (fun c42 => ?_) (fun c42 => ?_)
                        · skip
                          have c42 : isDg c = true := bI_ne c42
                          refine vx_go hC hFt hini (vx_ends hC hr hlk) jc_Mo_isToken 48 (by decide) rfl ?_
                          refine vx_go hC hFt hini (vx_ends hC hr hlk) jc_Mo_isToken 51 (by decide) rfl ?_
                          refine And.intro (rfl) (And.intro ?_ (And.intro (Nat.le_refl _) (Nat.le_refl _)))
                          rw [isTk_mk c hc, c42]
                          exact And.intro rfl rfl
                        · skip
                          have c42 : isDg c = false := bI_eq c42
                          refine mo_calls hC (c_Mo_isLetter l D tys tc hty c hc) wm_Mo_isLetter wl_Mo_123 wt_Mo_isLetter ⟨by decide, by decide⟩ rfl rfl (Nat.le_of_ble_eq_true rfl) ⟨Nat.zero_le _, Nat.zero_le _⟩ (fun r' hp => ?_)
                          subst hp
                          refine And.intro (fun c45 => ?_) (fun c45 => ?_)
                          · skip
                            have c45 : isLt c = true := bI_ne c45
                            refine vx_go hC hFt hini (vx_ends hC hr hlk) jc_Mo_isToken 48 (by decide) rfl ?_
                            refine vx_go hC hFt hini (vx_ends hC hr hlk) jc_Mo_isToken 51 (by decide) rfl ?_
                            refine And.intro (rfl) (And.intro ?_ (And.intro (Nat.le_refl _) (Nat.le_refl _)))
                            rw [isTk_mk c hc, c42, c45]
                            exact And.intro rfl rfl
                          · skip
                            have c45 : isLt c = false := bI_eq c45
                            refine And.intro (fun c47 => ?_) (fun c47 => ?_)
                            · skip
                              refine vx_go hC hFt hini (vx_ends hC hr hlk) jc_Mo_isToken 50 (by decide) rfl ?_
                              refine And.intro (rfl) (And.intro ?_ (And.intro (Nat.le_refl _) (Nat.le_refl _)))
                              rw [isTk_mk c hc, c42, c45, show isMk c = false by simp only [isMk, decide_eq_false_iff_not]; omega]
                              exact And.intro rfl rfl
                            · skip
                              exact absurd rfl c47
                      · skip
                        have c35 := (nI_eq (a := c) (b := 126) (by omega) (by omega)).mp c35
                        refine vx_go hC hFt hini (vx_ends hC hr hlk) jc_Mo_isToken 39 (by decide) rfl ?_
                        refine mo_calls hC (c_Mo_isDigit l D tys tc hty c hc) wm_Mo_isDigit wl_Mo_119 wt_Mo_isDigit ⟨by decide, by decide⟩ rfl rfl (Nat.le_of_ble_eq_true rfl) ⟨Nat.zero_le _, Nat.zero_le _⟩ (fun r' hp => ?_)
                        subst hp
                        refine And.intro (fun c42 => ?_) (fun c42 => ?_)
                        · skip
                          have c42 : isDg c = true := bI_ne c42
                          refine vx_go hC hFt hini (vx_ends hC hr hlk) jc_Mo_isToken 48 (by decide) rfl ?_
                          refine vx_go hC hFt hini (vx_ends hC hr hlk) jc_Mo_isToken 51 (by decide) rfl ?_
                          refine And.intro (rfl) (And.intro ?_ (And.intro (Nat.le_refl _) (Nat.le_refl _)))
                          rw [isTk_mk c hc, c42]
                          exact And.intro rfl rfl
                        · skip
                          have c42 : isDg c = false := bI_eq c42
                          refine mo_calls hC (c_Mo_isLetter l D tys tc hty c hc) wm_Mo_isLetter wl_Mo_123 wt_Mo_isLetter ⟨by decide, by decide⟩ rfl rfl (Nat.le_of_ble_eq_true rfl) ⟨Nat.zero_le _, Nat.zero_le _⟩ (fun r' hp => ?_)
                          subst hp
                          refine And.intro (fun c45 => ?_) (fun c45 => ?_)
                          · skip
                            have c45 : isLt c = true := bI_ne c45
                            refine vx_go hC hFt hini (vx_ends hC hr hlk) jc_Mo_isToken 48 (by decide) rfl ?_
                            refine vx_go hC hFt hini (vx_ends hC hr hlk) jc_Mo_isToken 51 (by decide) rfl ?_
                            refine And.intro (rfl) (And.intro ?_ (And.intro (Nat.le_refl _) (Nat.le_refl _)))
                            rw [isTk_mk c hc, c42, c45]
                            exact And.intro rfl rfl
                          · skip
                            have c45 : isLt c = false := bI_eq c45
                            refine And.intro (fun c47 => ?_) (fun c47 => ?_)
                            · skip
                              exact absurd c47 (by decide)
                            · skip
                              refine vx_go hC hFt hini (vx_ends hC hr hlk) jc_Mo_isToken 51 (by decide) rfl ?_
                              refine And.intro (rfl) (And.intro ?_ (And.intro (Nat.le_refl _) (Nat.le_refl _)))
                              rw [isTk_mk c hc, c42, c45, show isMk c = true by simp only [isMk, decide_eq_true_eq]; omega]
                              exact And.intro rfl rfl
    · skip
      have c5 : ¬ (c < 35) := fun z => c5 ((nI_ltI (a := c) (b := 35) (by omega) (by omega)).mpr z)
      refine And.intro (fun c8 => ?_) (fun c8 => ?_)
      · skip
        have c8 := (nI_leI (a := c) (b := 39) (by omega) (by omega)).mp c8
        refine vx_go hC hFt hini (vx_ends hC hr hlk) jc_Mo_isToken 36 (by decide) rfl ?_
        refine vx_go hC hFt hini (vx_ends hC hr hlk) jc_Mo_isToken 39 (by decide) rfl ?_
        refine mo_calls hC (c_Mo_isDigit l D tys tc hty c hc) wm_Mo_isDigit wl_Mo_119 wt_Mo_isDigit ⟨by decide, by decide⟩ rfl rfl (Nat.le_of_ble_eq_true rfl) ⟨Nat.zero_le _, Nat.zero_le _⟩ (fun r' hp => ?_)
        subst hp
        refine And.intro (fun c42 => ?_) (fun c42 => ?_)
        · skip
          have c42 : isDg c = true := bI_ne c42
          refine vx_go hC hFt hini (vx_ends hC hr hlk) jc_Mo_isToken 48 (by decide) rfl ?_
          refine vx_go hC hFt hini (vx_ends hC hr hlk) jc_Mo_isToken 51 (by decide) rfl ?_
          refine And.intro (rfl) (And.intro ?_ (And.intro (Nat.le_refl _) (Nat.le_refl _)))
          rw [isTk_mk c hc, c42]
          exact And.intro rfl rfl
        · skip
          have c42 : isDg c = false := bI_eq c42
          refine mo_calls hC (c_Mo_isLetter l D tys tc hty c hc) wm_Mo_isLetter wl_Mo_123 wt_Mo_isLetter ⟨by decide, by decide⟩ rfl rfl (Nat.le_of_ble_eq_true rfl) ⟨Nat.zero_le _, Nat.zero_le _⟩ (fun r' hp => ?_)
          subst hp
          refine And.intro (fun c45 => ?_) (fun c45 => ?_)
          · skip
            have c45 : isLt c = true := bI_ne c45
            refine vx_go hC hFt hini (vx_ends hC hr hlk) jc_Mo_isToken 48 (by decide) rfl ?_
            refine vx_go hC hFt hini (vx_ends hC hr hlk) jc_Mo_isToken 51 (by decide) rfl ?_
            refine And.intro (rfl) (And.intro ?_ (And.intro (Nat.le_refl _) (Nat.le_refl _)))
            rw [isTk_mk c hc, c42, c45]
            exact And.intro rfl rfl
          · skip
            have c45 : isLt c = false := bI_eq c45
            refine And.intro (fun c47 => ?_) (fun c47 => ?_)
            · skip
              exact absurd c47 (by decide)
            · skip
              refine vx_go hC hFt hini (vx_ends hC hr hlk) jc_Mo_isToken 51 (by decide) rfl ?_
              refine And.intro (rfl) (And.intro ?_ (And.intro (Nat.le_refl _) (Nat.le_refl _)))
              rw [isTk_mk c hc, c42, c45, show isMk c = true by simp only [isMk, decide_eq_true_eq]; omega]
              exact And.intro rfl rfl
      · skip
        have c8 : ¬ (c ≤ 39) := fun z => c8 ((nI_leI (a := c) (b := 39) (by omega) (by omega)).mpr z)
        refine And.intro (fun c11 => ?_) (fun c11 => ?_)
        · skip
          have c11 := (nI_eq (a := c) (b := 42) (by omega) (by omega)).mp c11
          refine vx_go hC hFt hini (vx_ends hC hr hlk) jc_Mo_isToken 36 (by decide) rfl ?_
          refine vx_go hC hFt hini (vx_ends hC hr hlk) jc_Mo_isToken 39 (by decide) rfl ?_
          refine mo_calls hC (c_Mo_isDigit l D tys tc hty c hc) wm_Mo_isDigit wl_Mo_119 wt_Mo_isDigit ⟨by decide, by decide⟩ rfl rfl (Nat.le_of_ble_eq_true rfl) ⟨Nat.zero_le _, Nat.zero_le _⟩ (fun r' hp => ?_)
          subst hp
          refine And.intro (fun c42 => ?_) (fun c42 => ?_)
          · skip
            have c42 : isDg c = true := bI_ne c42
            refine vx_go hC hFt hini (vx_ends hC hr hlk) jc_Mo_isToken 48 (by decide) rfl ?_
            refine vx_go hC hFt hini (vx_ends hC hr hlk) jc_Mo_isToken 51 (by decide) rfl ?_
            refine And.intro (rfl) (And.intro ?_ (And.intro (Nat.le_refl _) (Nat.le_refl _)))
            rw [isTk_mk c hc, c42]
            exact And.intro rfl rfl
          · skip
            have c42 : isDg c = false := bI_eq c42
            refine mo_calls hC (c_Mo_isLetter l D tys tc hty c hc) wm_Mo_isLetter wl_Mo_123 wt_Mo_isLetter ⟨by decide, by decide⟩ rfl rfl (Nat.le_of_ble_eq_true rfl) ⟨Nat.zero_le _, Nat.zero_le _⟩ (fun r' hp => ?_)
            subst hp
            refine And.intro (fun c45 => ?_) (fun c45 => ?_)
            · skip
              have c45 : isLt c = true := bI_ne c45
              refine vx_go hC hFt hini (vx_ends hC hr hlk) jc_Mo_isToken 48 (by decide) rfl ?_
              refine vx_go hC hFt hini (vx_ends hC hr hlk) jc_Mo_isToken 51 (by decide) rfl ?_
              refine And.intro (rfl) (And.intro ?_ (And.intro (Nat.le_refl _) (Nat.le_refl _)))
              rw [isTk_mk c hc, c42, c45]
              exact And.intro rfl rfl
            · skip
              have c45 : isLt c = false := bI_eq c45
              refine And.intro (fun c47 => ?_) (fun c47 => ?_)
              · skip
                exact absurd c47 (by decide)
              · skip
                refine vx_go hC hFt hini (vx_ends hC hr hlk) jc_Mo_isToken 51 (by decide) rfl ?_
                refine And.intro (rfl) (And.intro ?_ (And.intro (Nat.le_refl _) (Nat.le_refl _)))
                rw [isTk_mk c hc, c42, c45, show isMk c = true by simp only [isMk, decide_eq_true_eq]; omega]
                exact And.intro rfl rfl
        · skip
          have c11 : ¬ (c = 42) := fun z => c11 ((nI_eq (a := c) (b := 42) (by omega) (by omega)).mpr z)
          refine And.intro (fun c14 => ?_) (fun c14 => ?_)
          · skip
            have c14 := (nI_eq (a := c) (b := 43) (by omega) (by omega)).mp c14
            refine vx_go hC hFt hini (vx_ends hC hr hlk) jc_Mo_isToken 36 (by decide) rfl ?_
            refine vx_go hC hFt hini (vx_ends hC hr hlk) jc_Mo_isToken 39 (by decide) rfl ?_
            refine mo_calls hC (c_Mo_isDigit l D tys tc hty c hc) wm_Mo_isDigit wl_Mo_119 wt_Mo_isDigit ⟨by decide, by decide⟩ rfl rfl (Nat.le_of_ble_eq_true rfl) ⟨Nat.zero_le _, Nat.zero_le _⟩ (fun r' hp => ?_)
            subst hp
            refine And.intro (fun c42 => ?_) (fun c42 => ?_)
            · skip
              have c42 : isDg c = true := bI_ne c42
              refine vx_go hC hFt hini (vx_ends hC hr hlk) jc_Mo_isToken 48 (by decide) rfl ?_
              refine vx_go hC hFt hini (vx_ends hC hr hlk) jc_Mo_isToken 51 (by decide) rfl ?_
              refine And.intro (rfl) (And.intro ?_ (And.intro (Nat.le_refl _) (Nat.le_refl _)))
              rw [isTk_mk c hc, c42]
              exact And.intro rfl rfl
            · skip
              have c42 : isDg c = false := bI_eq c42
              refine mo_calls hC (c_Mo_isLetter l D tys tc hty c hc) wm_Mo_isLetter wl_Mo_123 wt_Mo_isLetter ⟨by decide, by decide⟩ rfl rfl (Nat.le_of_ble_eq_true rfl) ⟨Nat.zero_le _, Nat.zero_le _⟩ (fun r' hp => ?_)
              subst hp
              refine And.intro (fun c45 => ?_) (fun c45 => ?_)
              · skip
                have c45 : isLt c = true := bI_ne c45
                refine vx_go hC hFt hini (vx_ends hC hr hlk) jc_Mo_isToken 48 (by decide) rfl ?_
                refine vx_go hC hFt hini (vx_ends hC hr hlk) jc_Mo_isToken 51 (by decide) rfl ?_
                refine And.intro (rfl) (And.intro ?_ (And.intro (Nat.le_refl _) (Nat.le_refl _)))
                rw [isTk_mk c hc, c42, c45]
                exact And.intro rfl rfl
              · skip
                have c45 : isLt c = false := bI_eq c45
                refine And.intro (fun c47 => ?_) (fun c47 => ?_)
                · skip
                  exact absurd c47 (by decide)
                · skip
                  refine vx_go hC hFt hini (vx_ends hC hr hlk) jc_Mo_isToken 51 (by decide) rfl ?_
                  refine And.intro (rfl) (And.intro ?_ (And.intro (Nat.le_refl _) (Nat.le_refl _)))
                  rw [isTk_mk c hc, c42, c45, show isMk c = true by simp only [isMk, decide_eq_true_eq]; omega]
                  exact And.intro rfl rfl
          · skip
            have c14 : ¬ (c = 43) := fun z => c14 ((nI_eq (a := c) (b := 43) (by omega) (by omega)).mpr z)
            refine And.intro (fun c17 => ?_) (fun c17 => ?_)
            · skip
              have c17 := (nI_eq (a := c) (b := 45) (by omega) (by omega)).mp c17
              refine vx_go hC hFt hini (vx_ends hC hr hlk) jc_Mo_isToken 36 (by decide) rfl ?_
              refine vx_go hC hFt hini (vx_ends hC hr hlk) jc_Mo_isToken 39 (by decide) rfl ?_
              refine mo_calls hC (c_Mo_isDigit l D tys tc hty c hc) wm_Mo_isDigit wl_Mo_119 wt_Mo_isDigit ⟨by decide, by decide⟩ rfl rfl (Nat.le_of_ble_eq_true rfl) ⟨Nat.zero_le _, Nat.zero_le _⟩ (fun r' hp => ?_)
              subst hp
              refine And.intro (fun c42 => ?_) (fun c42 => ?_)
              · skip
                have c42 : isDg c = true := bI_ne c42
                refine vx_go hC hFt hini (vx_ends hC hr hlk) jc_Mo_isToken 48 (by decide) rfl ?_
                refine vx_go hC hFt hini (vx_ends hC hr hlk) jc_Mo_isToken 51 (by decide) rfl ?_
                refine And.intro (rfl) (And.intro ?_ (And.intro (Nat.le_refl _) (Nat.le_refl _)))
                rw [isTk_mk c hc, c42]
                exact And.intro rfl rfl
              · skip
                have c42 : isDg c = false := bI_eq c42
                refine mo_calls hC (c_Mo_isLetter l D tys tc hty c hc) wm_Mo_isLetter wl_Mo_123 wt_Mo_isLetter ⟨by decide, by decide⟩ rfl rfl (Nat.le_of_ble_eq_true rfl) ⟨Nat.zero_le _, Nat.zero_le _⟩ (fun r' hp => ?_)
                subst hp
                refine And.intro (fun c45 => ?_) (fun c45 => ?_)
                · skip
                  have c45 : isLt c = true := bI_ne c45
                  refine vx_go hC hFt hini (vx_ends hC hr hlk) jc_Mo_isToken 48 (by decide) rfl ?_
                  refine vx_go hC hFt hini (vx_ends hC hr hlk) jc_Mo_isToken 51 (by decide) rfl ?_
                  refine And.intro (rfl) (And.intro ?_ (And.intro (Nat.le_refl _) (Nat.le_refl _)))
                  rw [isTk_mk c hc, c42, c45]
                  exact And.intro rfl rfl
                · skip
                  have c45 : isLt c = false := bI_eq c45
                  refine And.intro (fun c47 => ?_) (fun c47 => ?_)
                  · skip
                    exact absurd c47 (by decide)
                  · skip
                    refine vx_go hC hFt hini (vx_ends hC hr hlk) jc_Mo_isToken 51 (by decide) rfl ?_
                    refine And.intro (rfl) (And.intro ?_ (And.intro (Nat.le_refl _) (Nat.le_refl _)))
                    rw [isTk_mk c hc, c42, c45, show isMk c = true by simp only [isMk, decide_eq_true_eq]; omega]
                    exact And.intro rfl rfl
            · skip
              have c17 : ¬ (c = 45) := fun z => c17 ((nI_eq (a := c) (b := 45) (by omega) (by omega)).mpr z)
              refine And.intro (fun c20 => ?_) (fun c20 => ?_)
              · skip
                have c20 := (nI_eq (a := c) (b := 46) (by omega) (by omega)).mp c20
                refine vx_go hC hFt hini (vx_ends hC hr hlk) jc_Mo_isToken 36 (by decide) rfl ?_
                refine vx_go hC hFt hini (vx_ends hC hr hlk) jc_Mo_isToken 39 (by decide) rfl ?_
                refine mo_calls hC (c_Mo_isDigit l D tys tc hty c hc) wm_Mo_isDigit wl_Mo_119 wt_Mo_isDigit ⟨by decide, by decide⟩ rfl rfl (Nat.le_of_ble_eq_true rfl) ⟨Nat.zero_le _, Nat.zero_le _⟩ (fun r' hp => ?_)
                subst hp
                refine And.intro (fun c42 => ?_) (fun c42 => ?_)
                · skip
                  have c42 : isDg c = true := bI_ne c42
                  refine vx_go hC hFt hini (vx_ends hC hr hlk) jc_Mo_isToken 48 (by decide) rfl ?_
                  refine vx_go hC hFt hini (vx_ends hC hr hlk) jc_Mo_isToken 51 (by decide) rfl ?_
                  refine And.intro (rfl) (And.intro ?_ (And.intro (Nat.le_refl _) (Nat.le_refl _)))
                  rw [isTk_mk c hc, c42]
                  exact And.intro rfl rfl
                · skip
                  have c42 : isDg c = false := bI_eq c42
                  refine mo_calls hC (c_Mo_isLetter l D tys tc hty c hc) wm_Mo_isLetter wl_Mo_123 wt_Mo_isLetter ⟨by decide, by decide⟩ rfl rfl (Nat.le_of_ble_eq_true rfl) ⟨Nat.zero_le _, Nat.zero_le _⟩ (fun r' hp => ?_)
                  subst hp
                  refine And.intro (fun c45 => ?_) (fun c45 => ?_)
                  · skip
                    have c45 : isLt c = true := bI_ne c45
                    refine vx_go hC hFt hini (vx_ends hC hr hlk) jc_Mo_isToken 48 (by decide) rfl ?_
                    refine vx_go hC hFt hini (vx_ends hC hr hlk) jc_Mo_isToken 51 (by decide) rfl ?_
                    refine And.intro (rfl) (And.intro ?_ (And.intro (Nat.le_refl _) (Nat.le_refl _)))
                    rw [isTk_mk c hc, c42, c45]
                    exact And.intro rfl rfl
                  · skip
                    have c45 : isLt c = false := bI_eq c45
                    refine And.intro (fun c47 => ?_) (fun c47 => ?_)
                    · skip
                      exact absurd c47 (by decide)
                    · skip
                      refine vx_go hC hFt hini (vx_ends hC hr hlk) jc_Mo_isToken 51 (by decide) rfl ?_
                      refine And.intro (rfl) (And.intro ?_ (And.intro (Nat.le_refl _) (Nat.le_refl _)))
                      rw [isTk_mk c hc, c42, c45, show isMk c = true by simp only [isMk, decide_eq_true_eq]; omega]
                      exact And.intro rfl rfl
              · skip
                have c20 : ¬ (c = 46) := fun z => c20 ((nI_eq (a := c) (b := 46) (by omega) (by omega)).mpr z)
                refine And.intro (fun c23 => ?_) (fun c23 => ?_)
                · skip
                  have c23 := (nI_eq (a := c) (b := 94) (by omega) (by omega)).mp c23
                  refine vx_go hC hFt hini (vx_ends hC hr hlk) jc_Mo_isToken 36 (by decide) rfl ?_
                  refine vx_go hC hFt hini (vx_ends hC hr hlk) jc_Mo_isToken 39 (by decide) rfl ?_
                  refine mo_calls hC (c_Mo_isDigit l D tys tc hty c hc) wm_Mo_isDigit wl_Mo_119 wt_Mo_isDigit ⟨by decide, by decide⟩ rfl rfl (Nat.le_of_ble_eq_true rfl) ⟨Nat.zero_le _, Nat.zero_le _⟩ (fun r' hp => ?_)
                  subst hp
                  refine And.intro (fun c42 => ?_) (fun c42 => ?_)
                  · skip
                    have c42 : isDg c = true := bI_ne c42
                    refine vx_go hC hFt hini (vx_ends hC hr hlk) jc_Mo_isToken 48 (by decide) rfl ?_
                    refine vx_go hC hFt hini (vx_ends hC hr hlk) jc_Mo_isToken 51 (by decide) rfl ?_
                    refine And.intro (rfl) (And.intro ?_ (And.intro (Nat.le_refl _) (Nat.le_refl _)))
                    rw [isTk_mk c hc, c42]
                    exact And.intro rfl rfl
                  · skip
                    have c42 : isDg c = false := bI_eq c42
                    refine mo_calls hC (c_Mo_isLetter l D tys tc hty c hc) wm_Mo_isLetter wl_Mo_123 wt_Mo_isLetter ⟨by decide, by decide⟩ rfl rfl (Nat.le_of_ble_eq_true rfl) ⟨Nat.zero_le _, Nat.zero_le _⟩ (fun r' hp => ?_)
                    subst hp
                    refine And.intro (fun c45 => ?_) (fun c45 => ?_)
                    · skip
                      have c45 : isLt c = true := bI_ne c45
                      refine vx_go hC hFt hini (vx_ends hC hr hlk) jc_Mo_isToken 48 (by decide) rfl ?_
                      refine vx_go hC hFt hini (vx_ends hC hr hlk) jc_Mo_isToken 51 (by decide) rfl ?_
                      refine And.intro (rfl) (And.intro ?_ (And.intro (Nat.le_refl _) (Nat.le_refl _)))
                      rw [isTk_mk c hc, c42, c45]
                      exact And.intro rfl rfl
                    · skip
                      have c45 : isLt c = false := bI_eq c45
                      refine And.intro (fun c47 => ?_) (fun c47 => ?_)
                      · skip
                        exact absurd c47 (by decide)
                      · skip
                        refine vx_go hC hFt hini (vx_ends hC hr hlk) jc_Mo_isToken 51 (by decide) rfl ?_
                        refine And.intro (rfl) (And.intro ?_ (And.intro (Nat.le_refl _) (Nat.le_refl _)))
                        rw [isTk_mk c hc, c42, c45, show isMk c = true by simp only [isMk, decide_eq_true_eq]; omega]
                        exact And.intro rfl rfl
                · skip
                  have c23 : ¬ (c = 94) := fun z => c23 ((nI_eq (a := c) (b := 94) (by omega) (by omega)).mpr z)
                  refine And.intro (fun c26 => ?_) (fun c26 => ?_)
                  · skip
                    have c26 := (nI_eq (a := c) (b := 95) (by omega) (by omega)).mp c26
                    refine vx_go hC hFt hini (vx_ends hC hr hlk) jc_Mo_isToken 36 (by decide) rfl ?_
                    refine vx_go hC hFt hini (vx_ends hC hr hlk) jc_Mo_isToken 39 (by decide) rfl ?_
                    refine mo_calls hC (c_Mo_isDigit l D tys tc hty c hc) wm_Mo_isDigit wl_Mo_119 wt_Mo_isDigit ⟨by decide, by decide⟩ rfl rfl (Nat.le_of_ble_eq_true rfl) ⟨Nat.zero_le _, Nat.zero_le _⟩ (fun r' hp => ?_)
                    subst hp
                    refine And.intro (fun c42 => ?_) (fun c42 => ?_)
                    · skip
                      have c42 : isDg c = true := bI_ne c42
                      refine vx_go hC hFt hini (vx_ends hC hr hlk) jc_Mo_isToken 48 (by decide) rfl ?_
                      refine vx_go hC hFt hini (vx_ends hC hr hlk) jc_Mo_isToken 51 (by decide) rfl ?_
                      refine And.intro (rfl) (And.intro ?_ (And.intro (Nat.le_refl _) (Nat.le_refl _)))
                      rw [isTk_mk c hc, c42]
                      exact And.intro rfl rfl
                    · skip
                      have c42 : isDg c = false := bI_eq c42
                      refine mo_calls hC (c_Mo_isLetter l D tys tc hty c hc) wm_Mo_isLetter wl_Mo_123 wt_Mo_isLetter ⟨by decide, by decide⟩ rfl rfl (Nat.le_of_ble_eq_true rfl) ⟨Nat.zero_le _, Nat.zero_le _⟩ (fun r' hp => ?_)
                      subst hp
                      refine And.intro (fun c45 => ?_) (fun c45 => ?_)
                      · skip
                        have c45 : isLt c = true := bI_ne c45
                        refine vx_go hC hFt hini (vx_ends hC hr hlk) jc_Mo_isToken 48 (by decide) rfl ?_
                        refine vx_go hC hFt hini (vx_ends hC hr hlk) jc_Mo_isToken 51 (by decide) rfl ?_
                        refine And.intro (rfl) (And.intro ?_ (And.intro (Nat.le_refl _) (Nat.le_refl _)))
                        rw [isTk_mk c hc, c42, c45]
                        exact And.intro rfl rfl
                      · skip
                        have c45 : isLt c = false := bI_eq c45
                        refine And.intro (fun c47 => ?_) (fun c47 => ?_)
                        · skip
                          exact absurd c47 (by decide)
                        · skip
                          refine vx_go hC hFt hini (vx_ends hC hr hlk) jc_Mo_isToken 51 (by decide) rfl ?_
                          refine And.intro (rfl) (And.intro ?_ (And.intro (Nat.le_refl _) (Nat.le_refl _)))
                          rw [isTk_mk c hc, c42, c45, show isMk c = true by simp only [isMk, decide_eq_true_eq]; omega]
                          exact And.intro rfl rfl
                  · skip
                    have c26 : ¬ (c = 95) := fun z => c26 ((nI_eq (a := c) (b := 95) (by omega) (by omega)).mpr z)
                    refine And.intro (fun c29 => ?_) (fun c29 => ?_)
                    · skip
                      have c29 := (nI_eq (a := c) (b := 96) (by omega) (by omega)).mp c29
                      refine vx_go hC hFt hini (vx_ends hC hr hlk) jc_Mo_isToken 36 (by decide) rfl ?_
                      refine vx_go hC hFt hini (vx_ends hC hr hlk) jc_Mo_isToken 39 (by decide) rfl ?_
                      refine mo_calls hC (c_Mo_isDigit l D tys tc hty c hc) wm_Mo_isDigit wl_Mo_119 wt_Mo_isDigit ⟨by decide, by decide⟩ rfl rfl (Nat.le_of_ble_eq_true rfl) ⟨Nat.zero_le _, Nat.zero_le _⟩ (fun r' hp => ?_)
                      subst hp
                      refine And.intro (fun c42 => ?_) (fun c42 => ?_)
                      · skip
                        have c42 : isDg c = true := bI_ne c42
                        refine vx_go hC hFt hini (vx_ends hC hr hlk) jc_Mo_isToken 48 (by decide) rfl ?_
                        refine vx_go hC hFt hini (vx_ends hC hr hlk) jc_Mo_isToken 51 (by decide) rfl ?_
                        refine And.intro (rfl) (And.intro ?_ (And.intro (Nat.le_refl _) (Nat.le_refl _)))
                        rw [isTk_mk c hc, c42]
                        exact And.intro rfl rfl
                      · skip
                        have c42 : isDg c = false := bI_eq c42
                        refine mo_calls hC (c_Mo_isLetter l D tys tc hty c hc) wm_Mo_isLetter wl_Mo_123 wt_Mo_isLetter ⟨by decide, by decide⟩ rfl rfl (Nat.le_of_ble_eq_true rfl) ⟨Nat.zero_le _, Nat.zero_le _⟩ (fun r' hp => ?_)
                        subst hp
                        refine And.intro (fun c45 => ?_) (fun c45 => ?_)
                        · skip
                          have c45 : isLt c = true := bI_ne c45
                          refine vx_go hC hFt hini (vx_ends hC hr hlk) jc_Mo_isToken 48 (by decide) rfl ?_
                          refine vx_go hC hFt hini (vx_ends hC hr hlk) jc_Mo_isToken 51 (by decide) rfl ?_
                          refine And.intro (rfl) (And.intro ?_ (And.intro (Nat.le_refl _) (Nat.le_refl _)))
                          rw [isTk_mk c hc, c42, c45]
                          exact And.intro rfl rfl
                        · skip
                          have c45 : isLt c = false := bI_eq c45
                          refine And.intro (fun c47 => ?_) (fun c47 => ?_)
                          · skip
                            exact absurd c47 (by decide)
                          · skip
                            refine vx_go hC hFt hini (vx_ends hC hr hlk) jc_Mo_isToken 51 (by decide) rfl ?_
                            refine And.intro (rfl) (And.intro ?_ (And.intro (Nat.le_refl _) (Nat.le_refl _)))
                            rw [isTk_mk c hc, c42, c45, show isMk c = true by simp only [isMk, decide_eq_true_eq]; omega]
                            exact And.intro rfl rfl
                    · skip
                      have c29 : ¬ (c = 96) := fun z => c29 ((nI_eq (a := c) (b := 96) (by omega) (by omega)).mpr z)
                      refine And.intro (fun c32 => ?_) (fun c32 => ?_)
                      · skip
                        have c32 := (nI_eq (a := c) (b := 124) (by omega) (by omega)).mp c32
                        refine vx_go hC hFt hini (vx_ends hC hr hlk) jc_Mo_isToken 36 (by decide) rfl ?_
                        refine vx_go hC hFt hini (vx_ends hC hr hlk) jc_Mo_isToken 39 (by decide) rfl ?_
                        refine mo_calls hC (c_Mo_isDigit l D tys tc hty c hc) wm_Mo_isDigit wl_Mo_119 wt_Mo_isDigit ⟨by decide, by decide⟩ rfl rfl (Nat.le_of_ble_eq_true rfl) ⟨Nat.zero_le _, Nat.zero_le _⟩ (fun r' hp => ?_)
                        subst hp
                        refine And.intro (fun c42 => ?_) (fun c42 => ?_)
                        · skip
                          have c42 : isDg c = true := bI_ne c42
                          refine vx_go hC hFt hini (vx_ends hC hr hlk) jc_Mo_isToken 48 (by decide) rfl ?_
                          refine vx_go hC hFt hini (vx_ends hC hr hlk) jc_Mo_isToken 51 (by decide) rfl ?_
                          refine And.intro (rfl) (And.intro ?_ (And.intro (Nat.le_refl _) (Nat.le_refl _)))
                          rw [isTk_mk c hc, c42]
                          exact And.intro rfl rfl
                        · skip
                          have c42 : isDg c = false := bI_eq c42
                          refine mo_calls hC (c_Mo_isLetter l D tys tc hty c hc) wm_Mo_isLetter wl_Mo_123 wt_Mo_isLetter ⟨by decide, by decide⟩ rfl rfl (Nat.le_of_ble_eq_true rfl) ⟨Nat.zero_le _, Nat.zero_le _⟩ (fun r' hp => ?_)
                          subst hp
                          refine And.intro (fun c45 => ?_) (fun c45 => ?_)
                          · skip
                            have c45 : isLt c = true := bI_ne c45
                            refine vx_go hC hFt hini (vx_ends hC hr hlk) jc_Mo_isToken 48 (by decide) rfl ?_
                            refine vx_go hC hFt hini (vx_ends hC hr hlk) jc_Mo_isToken 51 (by decide) rfl ?_
                            refine And.intro (rfl) (And.intro ?_ (And.intro (Nat.le_refl _) (Nat.le_refl _)))
                            rw [isTk_mk c hc, c42, c45]
                            exact And.intro rfl rfl
                          · skip
                            have c45 : isLt c = false := bI_eq c45
                            refine And.intro (fun c47 => ?_) (fun c47 => ?_)
                            · skip
                              exact absurd c47 (by decide)
                            · skip
                              refine vx_go hC hFt hini (vx_ends hC hr hlk) jc_Mo_isToken 51 (by decide) rfl ?_
                              refine And.intro (rfl) (And.intro ?_ (And.intro (Nat.le_refl _) (Nat.le_refl _)))
                              rw [isTk_mk c hc, c42, c45, show isMk c = true by simp only [isMk, decide_eq_true_eq]; omega]
                              exact And.intro rfl rfl
                      · skip
                        have c32 : ¬ (c = 124) := fun z => c32 ((nI_eq (a := c) (b := 124) (by omega) (by omega)).mpr z)
                        refine And.intro (fun c35 => ?_) (fun c35 => ?_)
                        · skip
                          have c35 : ¬ (c = 126) := fun z => c35 ((nI_eq (a := c) (b := 126) (by omega) (by omega)).mpr z)
                          refine vx_go hC hFt hini (vx_ends hC hr hlk) jc_Mo_isToken 38 (by decide) rfl ?_
                          refine mo_calls hC (c_Mo_isDigit l D tys tc hty c hc) wm_Mo_isDigit wl_Mo_119 wt_Mo_isDigit ⟨by decide, by decide⟩ rfl rfl (Nat.le_of_ble_eq_true rfl) ⟨Nat.zero_le _, Nat.zero_le _⟩ (fun r' hp => ?_)
                          subst hp
                          refine And.intro (fun c42 => ?_) (fun c42 => ?_)
                          · skip
                            have c42 : isDg c = true := bI_ne c42
                            refine vx_go hC hFt hini (vx_ends hC hr hlk) jc_Mo_isToken 48 (by decide) rfl ?_
                            refine vx_go hC hFt hini (vx_ends hC hr hlk) jc_Mo_isToken 51 (by decide) rfl ?_
                            refine And.intro (rfl) (And.intro ?_ (And.intro (Nat.le_refl _) (Nat.le_refl _)))
                            rw [isTk_mk c hc, c42]
                            exact And.intro rfl rfl
                          · skip
                            have c42 : isDg c = false := bI_eq c42
                            refine mo_calls hC (c_Mo_isLetter l D tys tc hty c hc) wm_Mo_isLetter wl_Mo_123 wt_Mo_isLetter ⟨by decide, by decide⟩ rfl rfl (Nat.le_of_ble_eq_true rfl) ⟨Nat.zero_le _, Nat.zero_le _⟩ (fun r' hp => ?_)
                            subst hp
                            refine And.intro (fun c45 => ?_) (fun c45 => ?_)
                            · skip
                              have c45 : isLt c = true := bI_ne c45
                              refine vx_go hC hFt hini (vx_ends hC hr hlk) jc_Mo_isToken 48 (by decide) rfl ?_
                              refine vx_go hC hFt hini (vx_ends hC hr hlk) jc_Mo_isToken 51 (by decide) rfl ?_
                              refine And.intro (rfl) (And.intro ?_ (And.intro (Nat.le_refl _) (Nat.le_refl _)))
                              rw [isTk_mk c hc, c42, c45]
                              exact And.intro rfl rfl
                            · skip
                              have c45 : isLt c = false := bI_eq c45
                              refine And.intro (fun c47 => ?_) (fun c47 => ?_)
                              · skip
                                refine vx_go hC hFt hini (vx_ends hC hr hlk) jc_Mo_isToken 50 (by decide) rfl ?_
                                refine And.intro (rfl) (And.intro ?_ (And.intro (Nat.le_refl _) (Nat.le_refl _)))
                                rw [isTk_mk c hc, c42, c45, show isMk c = false by simp only [isMk, decide_eq_false_iff_not]; omega]
                                exact And.intro rfl rfl
                              · skip
                                exact absurd rfl c47
                        · skip
                          have c35 := (nI_eq (a := c) (b := 126) (by omega) (by omega)).mp c35
                          refine vx_go hC hFt hini (vx_ends hC hr hlk) jc_Mo_isToken 39 (by decide) rfl ?_
                          refine mo_calls hC (c_Mo_isDigit l D tys tc hty c hc) wm_Mo_isDigit wl_Mo_119 wt_Mo_isDigit ⟨by decide, by decide⟩ rfl rfl (Nat.le_of_ble_eq_true rfl) ⟨Nat.zero_le _, Nat.zero_le _⟩ (fun r' hp => ?_)
                          subst hp
                          refine And.intro (fun c42 => ?_) (fun c42 => ?_)
                          · skip
                            have c42 : isDg c = true := bI_ne c42
                            refine vx_go hC hFt hini (vx_ends hC hr hlk) jc_Mo_isToken 48 (by decide) rfl ?_
                            refine vx_go hC hFt hini (vx_ends hC hr hlk) jc_Mo_isToken 51 (by decide) rfl ?_
                            refine And.intro (rfl) (And.intro ?_ (And.intro (Nat.le_refl _) (Nat.le_refl _)))
                            rw [isTk_mk c hc, c42]
                            exact And.intro rfl rfl
                          · skip
                            have c42 : isDg c = false := bI_eq c42
                            refine mo_calls hC (c_Mo_isLetter l D tys tc hty c hc) wm_Mo_isLetter wl_Mo_123 wt_Mo_isLetter ⟨by decide, by decide⟩ rfl rfl (Nat.le_of_ble_eq_true rfl) ⟨Nat.zero_le _, Nat.zero_le _⟩ (fun r' hp => ?_)
                            subst hp
                            refine And.intro (fun c45 => ?_) (fun c45 => ?_)
                            · skip
                              have c45 : isLt c = true := bI_ne c45
                              refine vx_go hC hFt hini (vx_ends hC hr hlk) jc_Mo_isToken 48 (by decide) rfl ?_
                              refine vx_go hC hFt hini (vx_ends hC hr hlk) jc_Mo_isToken 51 (by decide) rfl ?_
                              refine And.intro (rfl) (And.intro ?_ (And.intro (Nat.le_refl _) (Nat.le_refl _)))
                              rw [isTk_mk c hc, c42, c45]
                              exact And.intro rfl rfl
                            · skip
                              have c45 : isLt c = false := bI_eq c45
                              refine And.intro (fun c47 => ?_) (fun c47 => ?_)
                              · skip
                                exact absurd c47 (by decide)
                              · skip
                                refine vx_go hC hFt hini (vx_ends hC hr hlk) jc_Mo_isToken 51 (by decide) rfl ?_
                                refine And.intro (rfl) (And.intro ?_ (And.intro (Nat.le_refl _) (Nat.le_refl _)))
                                rw [isTk_mk c hc, c42, c45, show isMk c = true by simp only [isMk, decide_eq_true_eq]; omega]
                                exact And.intro rfl rfl
set_option maxRecDepth 100000 in
set_option maxHeartbeats 4000000 in
theorem c_Mo_charAt (l : Launch) (D : va_G) (tys : List (ClassId × FieldType)) (tc : Nat → ClassId) (hty : ∀ i : Nat, i < 4 → tys[i]? = some (tc i, vx_ty i)) (h : Nat) (ar : Nat → Nat) (now : Int64) (sc : Nat → Int32) (ai : Nat → Nat → Int32) (al : Nat → Nat → Int64) (F : Nat) (T : List Nat) (ps : Nat) (hM : mdS sc ai F T ps) (i : Nat) (hi : i ≤ 1000) : Kt l y_Mo_charAt (yw y_Mo_charAt b_Mo_charAt 2 (some .int)) 0 0 0 0 D cls tys (fun _ _ _ => True) [.ref h, .int (nI i)] (mdW tc h ar now sc ai al) (fun r w => r = some (.int (nI (T.getD i 0))) ∧ w = (mdW tc h ar now sc ai al)) := by
  refine Kt.of ro_true (by decide) rfl hty (Nat.le_of_ble_eq_true rfl) ?_
  intro p e s m args below meth c0 A hC hr hlk hnm hF
  have hFt : vx_Ft y_Mo_charAt.cls (yw y_Mo_charAt b_Mo_charAt 2 (some .int)) cls cty ft_Mo := ft_of (fun w h => List.mem_cons_of_mem _ h) fl_Mo_in ft_Mo_b
  have hini : false = true → meth.name = "<init>" := fun h => by cases h
  obtain ⟨hF8, h11, hlenT, htx, hT, h12, hps⟩ := id hM
  have hTl := hT.1
  refine vx_go hC hFt hini (vx_ends hC hr hlk) jc_Mo_charAt 0 (by decide) rfl ?_
  refine And.intro rfl ?_
  refine And.intro rfl ?_
  refine And.intro rfl (And.intro rfl (And.intro (by rw [h11]; exact vp_in_nI hF8 (by decide)) ?_))
  rw [h11, nI_clamp (by omega), hlenT]
  refine And.intro (fun c6 => ?_) (fun c6 => ?_)
  · skip
    have c6 := (nI_leI (a := T.length) (b := i) (by omega) (by omega)).mp c6
    refine vx_go hC hFt hini (vx_ends hC hr hlk) jc_Mo_charAt 17 (by decide) rfl ?_
    refine And.intro (trivial) (And.intro ?_ (And.intro (Nat.le_refl _) (Nat.le_refl _)))
    rw [T_out c6]
    exact And.intro rfl rfl
  · skip
    have c6 : ¬ (T.length ≤ i) := fun z => c6 ((nI_leI (a := T.length) (b := i) (by omega) (by omega)).mpr z)
    refine And.intro rfl ?_
    refine And.intro rfl ?_
    have e9 : (96 : Int32) * sc 11 + nI i = nI (96 * F + i) := by rw [h11, show (96 : Int32) = nI 96 from rfl, pk_mul, nI_add]
    refine And.intro rfl (And.intro rfl (And.intro (show vp_in ((96 : Int32) * sc 11 + nI i) 768 by rw [e9]; exact vp_in_nI (by omega) (by decide)) ?_))
    rw [show ai 7 (((0, 0, 0, 96, 0) : wq_A).2.2.2.1 * sc 11 + nI i).toNatClampNeg = nI (T.getD i 0) by
      rw [show ((0, 0, 0, 96, 0) : wq_A).2.2.2.1 * sc 11 + nI i = nI (96 * F + i) from e9, nI_clamp (by omega), htx i (by omega)]]
    refine vx_go hC hFt hini (vx_ends hC hr hlk) jc_Mo_charAt 18 (by decide) rfl ?_
    refine And.intro (trivial) (And.intro ?_ (And.intro (Nat.le_refl _) (Nat.le_refl _)))
    exact And.intro rfl rfl
set_option maxRecDepth 100000 in
set_option maxHeartbeats 4000000 in
theorem c_Mo_next (l : Launch) (D : va_G) (tys : List (ClassId × FieldType)) (tc : Nat → ClassId) (hty : ∀ i : Nat, i < 4 → tys[i]? = some (tc i, vx_ty i)) (h : Nat) (ar : Nat → Nat) (now : Int64) (sc : Nat → Int32) (ai : Nat → Nat → Int32) (al : Nat → Nat → Int64) (F : Nat) (T : List Nat) (ps : Nat) (hM : mdS sc ai F T ps) : Kt l y_Mo_next (yw y_Mo_next b_Mo_next 1 (some .int)) 1 21 0 0 D cls tys (fun _ _ _ => True) [.ref h] (mdW tc h ar now sc ai al) (fun r w => r = some (.int (nI (T.getD ps 0))) ∧ w = (mdW tc h ar now sc ai al)) := by
  refine Kt.of ro_true (by decide) rfl hty (Nat.le_of_ble_eq_true rfl) ?_
  intro p e s m args below meth c0 A hC hr hlk hnm hF
  have hFt : vx_Ft y_Mo_next.cls (yw y_Mo_next b_Mo_next 1 (some .int)) cls cty ft_Mo := ft_of (fun w h => List.mem_cons_of_mem _ h) fl_Mo_in ft_Mo_b
  have hini : false = true → meth.name = "<init>" := fun h => by cases h
  obtain ⟨hF8, h11, hlenT, htx, hT, h12, hps⟩ := id hM
  have hTl := hT.1
  refine vx_go hC hFt hini (vx_ends hC hr hlk) jc_Mo_next 0 (by decide) rfl ?_
  refine And.intro rfl ?_
  refine mo_call hC (c_Mo_charAt l D tys tc hty h ar now sc ai al F T ps hM ps (by omega)) wm_Mo_charAt wl_Mo_111 wi_Mo_charAt ws_Mo_Mo_charAt ⟨by decide, by decide⟩ rfl (by rw [h12]; rfl) (Nat.le_of_ble_eq_true rfl) ⟨Nat.zero_le _, Nat.zero_le _⟩ (fun r' w1 hp => ?_)
  obtain ⟨rfl, rfl⟩ := hp
  refine And.intro (trivial) (And.intro ?_ (And.intro (Nat.le_refl _) (Nat.le_refl _)))
  exact And.intro rfl rfl
set_option maxRecDepth 100000 in
set_option maxHeartbeats 4000000 in
theorem c_Mo_ended (l : Launch) (D : va_G) (tys : List (ClassId × FieldType)) (tc : Nat → ClassId) (hty : ∀ i : Nat, i < 4 → tys[i]? = some (tc i, vx_ty i)) (h : Nat) (ar : Nat → Nat) (now : Int64) (sc : Nat → Int32) (ai : Nat → Nat → Int32) (al : Nat → Nat → Int64) (F : Nat) (T : List Nat) (ps : Nat) (hM : mdS sc ai F T ps) : Kt l y_Mo_ended (yw y_Mo_ended b_Mo_ended 1 (some .boolean)) 0 0 0 0 D cls tys (fun _ _ _ => True) [.ref h] (mdW tc h ar now sc ai al) (fun r w => r = some (.int (bI (decide (T.length ≤ ps)))) ∧ w = (mdW tc h ar now sc ai al)) := by
  refine Kt.of ro_true (by decide) rfl hty (Nat.le_of_ble_eq_true rfl) ?_
  intro p e s m args below meth c0 A hC hr hlk hnm hF
  have hFt : vx_Ft y_Mo_ended.cls (yw y_Mo_ended b_Mo_ended 1 (some .boolean)) cls cty ft_Mo := ft_of (fun w h => List.mem_cons_of_mem _ h) fl_Mo_in ft_Mo_b
  have hini : false = true → meth.name = "<init>" := fun h => by cases h
  obtain ⟨hF8, h11, hlenT, htx, hT, h12, hps⟩ := id hM
  have hTl := hT.1
  refine vx_go hC hFt hini (vx_ends hC hr hlk) jc_Mo_ended 0 (by decide) rfl ?_
  refine And.intro rfl ?_
  refine And.intro rfl ?_
  refine And.intro rfl ?_
  refine And.intro rfl (And.intro rfl (And.intro (by rw [h11]; exact vp_in_nI hF8 (by decide)) ?_))
  rw [h11, nI_clamp (by omega), hlenT]
  refine And.intro (fun c7 => ?_) (fun c7 => ?_)
  · skip
    rw [h12] at c7
    have c7 := (nI_ltI (a := ps) (b := T.length) (by omega) (by omega)).mp c7
    refine vx_go hC hFt hini (vx_ends hC hr hlk) jc_Mo_ended 10 (by decide) rfl ?_
    refine And.intro (rfl) (And.intro ?_ (And.intro (Nat.le_refl _) (Nat.le_refl _)))
    rw [decide_eq_false (by omega)]
    exact And.intro rfl rfl
  · skip
    rw [h12] at c7
    have c7 : ¬ (ps < T.length) := fun z => c7 ((nI_ltI (a := ps) (b := T.length) (by omega) (by omega)).mpr z)
    refine vx_go hC hFt hini (vx_ends hC hr hlk) jc_Mo_ended 11 (by decide) rfl ?_
    refine And.intro (rfl) (And.intro ?_ (And.intro (Nat.le_refl _) (Nat.le_refl _)))
    rw [decide_eq_true (by omega)]
    exact And.intro rfl rfl
set_option maxRecDepth 100000 in
set_option maxHeartbeats 4000000 in
theorem c_Mo_take (l : Launch) (D : va_G) (tys : List (ClassId × FieldType)) (tc : Nat → ClassId) (hty : ∀ i : Nat, i < 4 → tys[i]? = some (tc i, vx_ty i)) (h : Nat) (ar : Nat → Nat) (now : Int64) (sc : Nat → Int32) (ai : Nat → Nat → Int32) (al : Nat → Nat → Int64) (F : Nat) (T : List Nat) (ps : Nat) (hM : mdS sc ai F T ps) (c : Nat) (hc : c < 256) : Kt l y_Mo_take (yw y_Mo_take b_Mo_take 3 (some .boolean)) 2 41 0 0 D cls tys (fun _ _ _ => True) [.ref h, .int (nI c)] (mdW tc h ar now sc ai al) (fun r w => r = some (.int (bI (decide (T.getD ps 0 = c)))) ∧ w = mdW tc h ar now (upd sc 12 (nI (if T.getD ps 0 = c then ps + 1 else ps))) ai al) := by
  refine Kt.of ro_true (by decide) rfl hty (Nat.le_of_ble_eq_true rfl) ?_
  intro p e s m args below meth c0 A hC hr hlk hnm hF
  have hFt : vx_Ft y_Mo_take.cls (yw y_Mo_take b_Mo_take 3 (some .boolean)) cls cty ft_Mo := ft_of (fun w h => List.mem_cons_of_mem _ h) fl_Mo_in ft_Mo_b
  have hini : false = true → meth.name = "<init>" := fun h => by cases h
  obtain ⟨hF8, h11, hlenT, htx, hT, h12, hps⟩ := id hM
  have hTl := hT.1
  refine vx_go hC hFt hini (vx_ends hC hr hlk) jc_Mo_take 0 (by decide) rfl ?_
  refine mo_call hC (c_Mo_next l D tys tc hty h ar now sc ai al F T ps hM) wm_Mo_next wl_Mo_115 wi_Mo_next ws_Mo_Mo_next ⟨by decide, by decide⟩ rfl rfl (Nat.le_of_ble_eq_true rfl) ⟨Nat.zero_le _, Nat.zero_le _⟩ (fun r' w1 hp => ?_)
  obtain ⟨rfl, rfl⟩ := hp
  refine And.intro (fun c3 => ?_) (fun c3 => ?_)
  · skip
    have c3 : ¬ (T.getD ps 0 = c) := fun z => c3 (by rw [z])
    refine vx_go hC hFt hini (vx_ends hC hr hlk) jc_Mo_take 6 (by decide) rfl ?_
    refine And.intro (fun c10 => ?_) (fun c10 => ?_)
    · skip
      refine vx_go hC hFt hini (vx_ends hC hr hlk) jc_Mo_take 16 (by decide) rfl ?_
      refine And.intro rfl ?_
      refine And.intro rfl (And.intro (And.intro rfl rfl) ?_)
      refine And.intro (rfl) (And.intro ?_ (And.intro (Nat.le_refl _) (Nat.le_refl _)))
      rw [decide_eq_false c3, if_neg c3]
      refine And.intro rfl ?_
      rw [show nI ps = sc 12 from h12.symm]
      rfl
    · skip
      exact absurd rfl c10
  · skip
    have c3 : T.getD ps 0 = c := (nI_eq (by have := T_lt hT ps; omega) (by omega)).mp c3
    refine vx_go hC hFt hini (vx_ends hC hr hlk) jc_Mo_take 7 (by decide) rfl ?_
    refine And.intro (fun c10 => ?_) (fun c10 => ?_)
    · skip
      exact absurd c10 (by decide)
    · skip
      refine And.intro rfl ?_
      refine vx_go hC hFt hini (vx_ends hC hr hlk) jc_Mo_take 18 (by decide) rfl ?_
      refine And.intro rfl (And.intro (And.intro rfl rfl) ?_)
      refine And.intro (rfl) (And.intro ?_ (And.intro (Nat.le_refl _) (Nat.le_refl _)))
      rw [decide_eq_true c3, if_pos c3]
      refine And.intro rfl ?_
      rw [← nI_1, show nI ps = sc 12 from h12.symm]
      rfl
