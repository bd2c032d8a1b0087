/-! THE JDK's StringBuilder: its world, small methods, by program (wip/whole/gen/p78.py) -/
/-- a builder: its bytes and how many of them count -/
def sbW (tc : Nat → ClassId) (b v : Nat) (ml : Int32) (n m : Nat) (a : Nat → Int32) : va_W := [(b, .inr (11, [.ref v, .int 0, .int ml, .int (nI n)])), (v, .inl (tc 1, m, .inl a))]
/-- the bytes say the list -/
def sbI (a : Nat → Int32) (L : List Nat) : Prop := (∀ x ∈ L, x < 256) ∧ ∀ j, j < L.length → a j = sb_b (L.getD j 0)
/-- the cells are a builder that says L -/
def sbO (tc : Nat → ClassId) (b : Nat) (L : List Nat) (w : va_W) : Prop := ∃ (v : Nat) (ml : Int32) (m : Nat) (a : Nat → Int32), w = sbW tc b v ml L.length m a ∧ sbI a L ∧ sb_Fit a ∧ L.length ≤ m ∧ 16 ≤ m ∧ m ≤ 100
theorem sbI_app {a a2 : Nat → Int32} {L B : List Nat} (h : sbI a L) (hB : ∀ x ∈ B, x < 256) (h1 : ∀ j, j < L.length → a2 j = a j) (h2 : ∀ i, i < B.length → a2 (L.length + i) = sb_b (B.getD i 0)) : sbI a2 (L ++ B) := by
  refine ⟨fun x hx => (List.mem_append.mp hx).elim (h.1 x) (hB x), fun j hj => ?_⟩
  rw [List.length_append] at hj
  by_cases e : j < L.length
  · rw [h1 j e, h.2 j e, List.getD_eq_getElem?_getD, List.getD_eq_getElem?_getD, List.getElem?_append_left e]
  · have h3 := h2 (j - L.length) (by omega)
    rw [show L.length + (j - L.length) = j by omega] at h3
    rw [h3, List.getD_eq_getElem?_getD, List.getD_eq_getElem?_getD, List.getElem?_append_right (by omega)]
theorem vb_b (c : Nat) : vp_nar .byte (sb_b c) = sb_b c := pk_vb _
section
variable {p : Program} {l : Launch} {e : Env} {R : Room} {s : State} {m : MethodId} {args : Array Value} {below : List Frame} {meth : Method} {c : Code} {cc : ByteArray} {nL : Nat} {D : va_G} {tys : List (ClassId × FieldType)} {A : Nat → Prop} {tc : Nat → ClassId} {Q : State → Prop} {st rest : List Value} {k n mc ms : Nat} {post : Option Value → va_W → Prop} {F : (Nat → Prop) → State → Heap → Prop} {ret : Option FieldType} {K : List Value → va_W → Nat → Nat → Prop} {x y y0 : MethodName} {bytes b0 : ByteArray} {maxL n0 index nA fr lo : Nat} {r0 : Option FieldType} {b : Nat} {As : List Value} {own C owner : String}
theorem bx_call {ci h : Nat} {fs : List Value} {q1 : Nat × va_E} {rc : vw_C} (hC : Cx p s m args c cc nL own (yw y0 b0 n0 r0) D cls tys A tc) (hk : Kt l y (yw y bytes maxL ret) fr lo mc ms D cls tys F (.ref h :: As) [(h, .inr (ci, fs)), q1] post) (hF : F A s s.heap) (cw : CallW R s args own C index y bytes maxL ret (yw y bytes maxL ret) { frames := fr, cells := mc, slots := ms, locals := lo } mc ms nA) (h1 : cls[ci]? = some rc) (h2 : rc.1 = C) (hlen : As.length = nA) (hst : st = As.reverse ++ .ref h :: rest) (hW : (rest.map fun v => v.category).sum ≤ 8) (hkn : k + mc ≤ R.cells ∧ n + ms ≤ R.slots)
    (kk : ∀ (r : Option Value) (w1 : va_W), post r w1 → K (r.toList ++ rest) w1 (k + mc) (n + ms)) : vx_SX cc (Vx p l e R s m args below meth c nL D cls A Q) (.invokevirtual index) 3 st [(h, .inr (ci, fs)), q1] k n K :=
  sx_callV (wr := []) hC hk cw [0, 1] [] rfl rfl rfl rfl (by simp) (q0 := 0) rfl h1 h2 (vx_ro hk.1 hC.2.2.2.2.2.2.1 hF [0, 1] rfl) hlen hst hW hkn kk
theorem bx_super {ci h : Nat} {fs : List Value} {q1 : Nat × va_E} {rc : vw_C} (hC : Cx p s m args c cc nL own (yw y0 b0 n0 r0) D cls tys A tc) (hk : Kt l y (yw y bytes maxL ret) fr lo mc ms D cls tys F (.ref h :: As) [(h, .inr (ci, fs)), q1] post) (hF : F A s s.heap) (cw : va_CS R s args own index y bytes maxL ret (yw y bytes maxL ret) { frames := fr, cells := mc, slots := ms, locals := lo } mc ms nA) (h1 : cls[ci]? = some rc) (hlen : As.length = nA) (hst : st = As.reverse ++ .ref h :: rest) (hW : (rest.map fun v => v.category).sum ≤ 8) (hkn : k + mc ≤ R.cells ∧ n + ms ≤ R.slots)
    (kk : ∀ (r : Option Value) (w1 : va_W), post r w1 → K (r.toList ++ rest) w1 (k + mc) (n + ms)) : vx_SX cc (Vx p l e R s m args below meth c nL D cls A Q) (.invokespecial index) 3 st [(h, .inr (ci, fs)), q1] k n K :=
  sx_callSU (wr := []) hC hk cw [0, 1] [] rfl rfl rfl rfl (by simp) (q0 := 0) rfl h1 (vx_ro hk.1 hC.2.2.2.2.2.2.1 hF [0, 1] rfl) hlen hst hW hkn kk
end
theorem ng10 (x : Nat) : (10 : Int32) * (-nI x) = -nI (10 * x) := by
  rw [Int32.mul_neg]
  exact congrArg (fun z => -z) (pk_mul 10 x)
theorem dg_at {v i : Nat} (h1 : 1 ≤ i) (h2 : i ≤ 9) (h3 : i = 1 ∨ 10 ^ (i - 1) ≤ v) (h4 : v < 10 ^ i) : sb_dg v = i := by
  rcases (show i = 1 ∨ i = 2 ∨ i = 3 ∨ i = 4 ∨ i = 5 ∨ i = 6 ∨ i = 7 ∨ i = 8 ∨ i = 9 by omega) with rfl | rfl | rfl | rfl | rfl | rfl | rfl | rfl | rfl <;> (unfold sb_dg; simp at h3 h4; (repeat' split) <;> omega)
theorem dg_10 {v : Nat} (h : 10 ^ 9 ≤ v) : sb_dg v = 10 := by
  unfold sb_dg; (repeat' split) <;> omega
theorem dec_dg : ∀ v : Nat, v < 2 ^ 31 → (dec v).length = sb_dg v := by
  intro v
  induction v using Nat.strongRecOn with
  | _ v ih =>
    intro hv
    by_cases h : v < 10
    · rw [dec_lo h, sb_dg, if_pos h]; rfl
    · rw [dec_hi (by omega) hv, List.length_append, ih (v / 10) (by omega) (by omega), List.length_singleton]
      unfold sb_dg
      (repeat' split) <;> omega
theorem dec_b : ∀ v : Nat, v < 2 ^ 31 → ∀ x ∈ dec v, x < 256 := by
  intro v
  induction v using Nat.strongRecOn with
  | _ v ih =>
    intro hv x hx
    by_cases h : v < 10
    · rw [dec_lo h, List.mem_singleton] at hx; omega
    · rw [dec_hi (by omega) hv] at hx
      rcases List.mem_append.mp hx with z | z
      · exact ih (v / 10) (by omega) (by omega) x z
      · rw [List.mem_singleton] at z; omega
theorem dec_100 {v : Nat} (h : 100 ≤ v) (hv : v < 2 ^ 31) : dec v = dec (v / 100) ++ [48 + v % 100 / 10, 48 + v % 100 % 10] := by
  rw [dec_hi (by omega) hv, dec_hi (n := v / 10) (by omega) (by omega), List.append_assoc, show v / 10 / 10 = v / 100 by omega, show v / 10 % 10 = v % 100 / 10 by omega, show v % 10 = v % 100 % 10 by omega]
  rfl
theorem dec_2 {v : Nat} (h : 10 ≤ v) (h2 : v < 100) : dec v = [48 + v / 10, 48 + v % 10] := by
  rw [dec_hi h (by omega), dec_lo (by omega)]; rfl
/-- the tables of digits -/
def dgF : (Nat → Prop) → State → Heap → Prop := fun A U H => ∃ d1 d2 : Nat, (va_Z "java/lang/Integer" "DigitOnes" "[B" (.ref d1) A U H ∧ va_T .byte d1 100 (fun j => .int (sb_b (48 + j % 10))) A U H) ∧ (va_Z "java/lang/Integer" "DigitTens" "[B" (.ref d2) A U H ∧ va_T .byte d2 100 (fun j => .int (sb_b (48 + j / 10))) A U H)
theorem dgF_ro : RO dgF := by
  refine ⟨fun A u U H ha h => ?_, fun A U H H1 hq h => ?_, fun A B U H hAB h => ?_⟩
  · obtain ⟨d1, d2, ⟨h1, h2⟩, h3, h4⟩ := h; exact ⟨d1, d2, ⟨h1.moved ha.alike, h2.moved ha.alike⟩, h3.moved ha.alike, h4.moved ha.alike⟩
  · obtain ⟨d1, d2, ⟨h1, h2⟩, h3, h4⟩ := h; exact ⟨d1, d2, ⟨h1.kept hq, h2.kept hq⟩, h3.kept hq, h4.kept hq⟩
  · obtain ⟨d1, d2, ⟨h1, h2⟩, h3, h4⟩ := h; exact ⟨d1, d2, ⟨h1.narrow hAB, h2.narrow hAB⟩, h3.narrow hAB, h4.narrow hAB⟩
set_option maxRecDepth 100000 in
set_option maxHeartbeats 4000000 in
theorem c_L1_canEncode3 (l : Launch) (D : va_G) (tys : List (ClassId × FieldType)) (tc : Nat → ClassId) (hty : ∀ i : Nat, i < 4 → tys[i]? = some (tc i, vx_ty i)) (c : Nat) (hc : c < 256) : Kt l y_L1_canEncode3 (yw y_L1_canEncode3 b_L1_canEncode3 1 (some .boolean)) 0 0 0 0 D cls tys (fun _ _ _ => True) [.int (nI c)] [] (fun r w => r = some (.int 1) ∧ w = []) := by
  refine Kt.of ro_true (by decide) rfl hty (Nat.le_of_ble_eq_true rfl) ?_
  intro p e s m args below meth c0 A hC hr hlk hnm hF
  have hFt : vx_Ft y_L1_canEncode3.cls (yw y_L1_canEncode3 b_L1_canEncode3 1 (some .boolean)) cls cty [] := (fun q h => by cases h)
  have hini : false = true → meth.name = "<init>" := fun h => by cases h
  refine vx_go hC hFt hini (vx_ends hC hr hlk) jc_L1_canEncode3 0 (by decide) rfl ?_
  refine And.intro (fun c2 => ?_) (fun c2 => ?_)
  · skip
    exact absurd c2 (show ¬ nI 255 < nI c from nI_nlt (by omega) (by decide))
  · skip
    refine vx_go hC hFt hini (vx_ends hC hr hlk) jc_L1_canEncode3 6 (by decide) rfl ?_
    refine And.intro (rfl) (And.intro ?_ (And.intro (Nat.le_refl _) (Nat.le_refl _)))
    exact And.intro rfl rfl
set_option maxRecDepth 100000 in
set_option maxHeartbeats 4000000 in
theorem c_In_stringSize13 (l : Launch) (D : va_G) (tys : List (ClassId × FieldType)) (tc : Nat → ClassId) (hty : ∀ i : Nat, i < 4 → tys[i]? = some (tc i, vx_ty i)) (v : Nat) (hv : v < 2 ^ 31) : Kt l y_In_stringSize13 (yw y_In_stringSize13 b_In_stringSize13 4 (some .int)) 0 0 0 0 D cls tys (fun _ _ _ => True) [.int (nI v)] [] (fun r w => r = some (.int (nI (sb_dg v))) ∧ w = []) := by
  refine Kt.of ro_true (by decide) rfl hty (Nat.le_of_ble_eq_true rfl) ?_
  intro p e s m args below meth c0 A hC hr hlk hnm hF
  have hFt : vx_Ft y_In_stringSize13.cls (yw y_In_stringSize13 b_In_stringSize13 4 (some .int)) cls cty [] := (fun q h => by cases h)
  have hini : false = true → meth.name = "<init>" := fun h => by cases h
  refine vx_gon hC hFt hini (vx_ends hC hr hlk) jc_In_stringSize13 0 13 (by decide) rfl ?_
  refine And.intro (fun c3 => ?_) (fun c3 => ?_)
  · skip
    exact absurd c3 (nI_pos hv)
  · skip
    refine Vx.subL (lv' := [(0, .int (-nI v)), (1, .int 0), (2, .int (-10)), (3, .int (nI 1))]) [2, 3, 1, 0] rfl ?_
    obtain ⟨i, hi0⟩ : ∃ i : Nat, i = 1 := ⟨_, rfl⟩
    obtain ⟨pv, hp0⟩ : ∃ pv : Int32, pv = -10 := ⟨_, rfl⟩
    refine Vx.eqs rfl (lv2 := [(0, .int (-nI v)), (1, .int 0), (2, .int pv), (3, .int (nI i))]) (by rw [hi0, hp0]) rfl rfl ?_
    have h1 : 1 ≤ i := by omega
    have h2 : i ≤ 10 := by omega
    have h3 : i = 1 ∨ 10 ^ (i - 1) ≤ v := Or.inl hi0
    have h5 : i < 10 → pv = -nI (10 ^ i) := fun _ => by rw [hi0, hp0]; decide
    clear hi0 hp0
    induction hn : 10 - i using Nat.strongRecOn generalizing i pv with
    | _ m9 ih =>
      refine vx_go hC hFt hini (vx_ends hC hr hlk) jc_In_stringSize13 13 (by decide) rfl ?_
      refine And.intro (fun c15 => ?_) (fun c15 => ?_)
      · skip
        have c15 : 10 ≤ i := (nI_leI (a := 10) (by omega) (by omega)).mp c15
        refine vx_go hC hFt hini (vx_ends hC hr hlk) jc_In_stringSize13 29 (by decide) rfl ?_
        refine And.intro (trivial) (And.intro ?_ (And.intro (Nat.le_refl _) (Nat.le_refl _)))
        rw [dg_10 (by rcases h3 with z | z; omega; rw [show i = 10 by omega] at z; exact z)]
        exact And.intro rfl rfl
      · skip
        have c15 : ¬ 10 ≤ i := fun z => c15 ((nI_leI (a := 10) (by omega) (by omega)).mpr z)
        have hp9 : 10 ^ i ≤ 10 ^ 9 := Nat.pow_le_pow_right (by decide) (by omega)
        have hpe := h5 (by omega)
        subst hpe
        refine And.intro (fun c18 => ?_) (fun c18 => ?_)
        · skip
          have c18 : 10 ^ i ≤ v := (sb_nle hv (by omega)).mp c18
          refine vx_go hC hFt hini (vx_ends hC hr hlk) jc_In_stringSize13 23 (by decide) rfl ?_
          refine Vx.subL (lv' := [(0, .int (-nI v)), (1, .int 0), (2, .int (10 * (-nI (10 ^ i)))), (3, .int (nI i + 1))]) [2, 3, 1, 0] rfl ?_
          rw [nI_1]
          exact ih (10 - (i + 1)) (by omega) (i + 1) _ (by omega) (by omega) (Or.inr (by rw [Nat.add_sub_cancel]; exact c18)) (fun _ => by rw [ng10, Nat.pow_succ, Nat.mul_comm]) rfl
        · skip
          have c18 : v < 10 ^ i := Nat.not_le.mp (fun z => c18 ((sb_nle hv (by omega)).mpr z))
          refine And.intro (trivial) (And.intro ?_ (And.intro (Nat.le_refl _) (Nat.le_refl _)))
          rw [dg_at h1 (by omega) h3 c18, Int32.add_zero]
          exact And.intro rfl rfl
/-- what getChars has laid so far: the digits of w9 are those of w and the tail, which lies from q on -/
def gcI (a : Nat → Int32) (w9 p w q : Nat) (a2 : Nat → Int32) : Prop := ∃ tl : List Nat, dec w9 = dec w ++ tl ∧ q + tl.length = p ∧ (∀ j, j < q ∨ p ≤ j → a2 j = a j) ∧ (∀ i, i < tl.length → a2 (q + i) = sb_b (tl.getD i 0)) ∧ (sb_Fit a → sb_Fit a2)
def gcP (a : Nat → Int32) (w9 p : Nat) (a2 : Nat → Int32) : Prop := (∀ j, j < p - (dec w9).length ∨ p ≤ j → a2 j = a j) ∧ (∀ i, i < (dec w9).length → a2 (p - (dec w9).length + i) = sb_b ((dec w9).getD i 0)) ∧ (sb_Fit a → sb_Fit a2)
theorem gc_two {a a2 : Nat → Int32} {w9 p w q : Nat} (h : gcI a w9 p w q a2) (h1 : 100 ≤ w) (h2 : w < 2 ^ 31) (hq : 2 ≤ q) : gcI a w9 p (w / 100) (q - 2) (upd (upd a2 (q - 1) (sb_b (48 + w % 100 % 10))) (q - 2) (sb_b (48 + w % 100 / 10))) := by
  obtain ⟨tl, e1, e2, e3, e4, e5⟩ := h
  refine ⟨[48 + w % 100 / 10, 48 + w % 100 % 10] ++ tl, by rw [e1, dec_100 h1 h2, List.append_assoc], by rw [List.length_append]; show q - 2 + (2 + tl.length) = p; omega, fun j hj => ?_, fun i hi => ?_, fun hf => sb_fitU (sb_fitU (e5 hf) (sb_fitB _)) (sb_fitB _)⟩
  · rw [pk_un (by omega), pk_un (by omega)]; exact e3 j (by omega)
  · match i, hi with
    | 0, _ => rw [Nat.add_zero, pk_us]; rfl
    | 1, _ => rw [pk_un (by omega), show q - 2 + 1 = q - 1 by omega, pk_us]; rfl
    | i + 2, hi => rw [pk_un (by omega), pk_un (by omega), show q - 2 + (i + 2) = q + i by omega]; exact e4 i (by rw [List.length_append] at hi; have : i + 2 < 2 + tl.length := hi; omega)
theorem gc_fin {a a2 : Nat → Int32} {w9 p w q : Nat} {B : List Nat} {a3 : Nat → Int32} (h : gcI a w9 p w q a2) (hB : dec w = B) (hq : B.length ≤ q) (h1 : ∀ j, j < q - B.length ∨ q ≤ j → a3 j = a2 j) (h2 : ∀ i, i < B.length → a3 (q - B.length + i) = sb_b (B.getD i 0)) (h3 : sb_Fit a2 → sb_Fit a3) : gcP a w9 p a3 := by
  obtain ⟨tl, e1, e2, e3, e4, e5⟩ := h
  rw [hB] at e1
  have hl : (dec w9).length = B.length + tl.length := by rw [e1, List.length_append]
  refine ⟨fun j hj => ?_, fun i hi => ?_, fun hf => h3 (e5 hf)⟩
  · rw [h1 j (by omega)]; exact e3 j (by omega)
  · by_cases e : i < B.length
    · rw [show p - (dec w9).length + i = q - B.length + i by omega, h2 i e, e1, List.getD_eq_getElem?_getD, List.getD_eq_getElem?_getD, List.getElem?_append_left e]
    · rw [show p - (dec w9).length + i = q + (i - B.length) by omega, h1 _ (by omega), e4 _ (by omega), e1, List.getD_eq_getElem?_getD, List.getD_eq_getElem?_getD, List.getElem?_append_right (by omega)]
theorem gc_one {a a2 : Nat → Int32} {w9 p w q : Nat} (h : gcI a w9 p w q a2) (h1 : w < 10) (hq : 1 ≤ q) : gcP a w9 p (upd a2 (q - 1) (sb_b (48 + w % 10))) := by
  refine gc_fin h (dec_lo h1) hq (fun j hj => pk_un (by have : j < q - 1 ∨ q ≤ j := hj; omega)) (fun i hi => ?_) (fun hf => sb_fitU hf (sb_fitB _))
  have hi : i < 1 := hi
  obtain rfl : i = 0 := by omega
  show upd a2 (q - 1) _ (q - 1 + 0) = _
  rw [Nat.add_zero, pk_us, Nat.mod_eq_of_lt h1]; rfl
theorem gc_2 {a a2 : Nat → Int32} {w9 p w q : Nat} (h : gcI a w9 p w q a2) (h1 : 10 ≤ w) (h2 : w < 100) (hq : 2 ≤ q) : gcP a w9 p (upd (upd a2 (q - 1) (sb_b (48 + w % 10))) (q - 2) (sb_b (48 + w / 10))) := by
  refine gc_fin h (dec_2 h1 h2) hq (fun j hj => ?_) (fun i hi => ?_) (fun hf => sb_fitU (sb_fitU hf (sb_fitB _)) (sb_fitB _))
  · have hj : j < q - 2 ∨ q ≤ j := hj
    rw [pk_un (by omega), pk_un (by omega)]
  · have hi : i < 2 := hi
    show upd _ _ _ (q - 2 + i) = _
    rcases (show i = 0 ∨ i = 1 by omega) with rfl | rfl
    · rw [Nat.add_zero, pk_us]; rfl
    · rw [pk_un (by omega), show q - 2 + 1 = q - 1 by omega, pk_us]; rfl
theorem gcI_len {a a2 : Nat → Int32} {w9 p w q : Nat} (h : gcI a w9 p w q a2) (hp : (dec w9).length ≤ p) : (dec w).length ≤ q := by
  obtain ⟨tl, e1, e2, -⟩ := h
  rw [e1, List.length_append] at hp
  omega
theorem nn_w (w : Nat) : -(-nI w) = nI w := Int32.neg_neg
theorem m1_q {q : Nat} (h : 1 ≤ q) : nI q + (-1) = nI (q - 1) := sb_m1 (by omega)
theorem m1_q2 {q : Nat} (h : 2 ≤ q) : nI (q - 1) + (-1) = nI (q - 2) := sb_m1 (by omega)
set_option maxRecDepth 100000 in
set_option maxHeartbeats 4000000 in
theorem c_In_getChars12 (l : Launch) (D : va_G) (tys : List (ClassId × FieldType)) (tc : Nat → ClassId) (hty : ∀ i : Nat, i < 4 → tys[i]? = some (tc i, vx_ty i)) (v M9 : Nat) (a : Nat → Int32) (w9 p9 : Nat) (hw9 : w9 < 2 ^ 31) (hm : p9 ≤ M9 ∧ M9 < 2 ^ 31) (hlen : (dec w9).length ≤ p9) : Kt l y_In_getChars12 (yw y_In_getChars12 b_In_getChars12 7 (some .int)) 0 0 0 0 D cls tys dgF [.int (nI w9), .int (nI p9), .ref v] [(v, .inl (tc 1, M9, .inl a))] (fun r w => (∃ z, r = some (.int z)) ∧ ∃ a2, w = [(v, .inl (tc 1, M9, .inl a2))] ∧ gcP a w9 p9 a2) := by
  refine Kt.of dgF_ro (by decide) rfl hty (Nat.le_of_ble_eq_true rfl) ?_
  intro p e s m args below meth c0 A hC hr hlk hnm hF
  have hFt : vx_Ft y_In_getChars12.cls (yw y_In_getChars12 b_In_getChars12 7 (some .int)) cls cty [] := (fun q h => by cases h)
  have hini : false = true → meth.name = "<init>" := fun h => by cases h
  obtain ⟨d1, d2, ⟨hd1, ht1⟩, hd2, ht2⟩ := hF
  refine vx_gon hC hFt hini (vx_ends hC hr hlk) jc_In_getChars12 0 13 (by decide) rfl ?_
  refine And.intro (fun c3 => ?_) (fun c3 => ?_)
  · skip
    refine vx_gon hC hFt hini (vx_ends hC hr hlk) jc_In_getChars12 6 7 (by decide) rfl ?_
    refine And.intro (fun c9 => ?_) (fun c9 => ?_)
    · skip
      exact absurd rfl c9
    · skip
      refine Vx.subL (lv' := [(0, .int (-nI w9)), (1, .int (nI p9)), (2, .ref v), (5, .int (nI p9)), (6, .int 0)]) [0, 3, 4, 2, 1] rfl ?_
      obtain ⟨w, hw0⟩ : ∃ w : Nat, w = w9 := ⟨_, rfl⟩
      obtain ⟨q, hq0⟩ : ∃ q : Nat, q = p9 := ⟨_, rfl⟩
      obtain ⟨a2, ha0⟩ : ∃ a2, a2 = a := ⟨_, rfl⟩
      refine Vx.eqs rfl (lv2 := [(0, .int (-nI w)), (1, .int (nI p9)), (2, .ref v), (5, .int (nI q)), (6, .int 0)]) (by rw [hw0, hq0]) rfl (w2 := [(v, .inl (tc 1, M9, .inl a2))]) (by rw [ha0]) ?_
      have hg : gcI a w9 p9 w q a2 := ⟨[], by rw [hw0, List.append_nil], by rw [hq0]; rfl, fun j _ => by rw [ha0], (fun i hi => absurd hi (Nat.not_lt_zero _)), fun hf => by rw [ha0]; exact hf⟩
      have hw : w < 2 ^ 31 := by omega
      have hqp : q ≤ p9 := by omega
      clear hw0 hq0 ha0
      induction hn : w using Nat.strongRecOn generalizing w q a2 with
      | _ m9 ih =>
        subst hn
        have hlq := gcI_len hg hlen
        have hlw : 1 ≤ (dec w).length := by rw [dec_dg w hw]; exact (sb_dg_in w).1
        refine vx_go hC hFt hini (vx_ends hC hr hlk) jc_In_getChars12 13 (by decide) rfl ?_
        refine And.intro (fun c15 => ?_) (fun c15 => ?_)
        · skip
          have c15 : w < 100 := (sb_nlt (a := 100) (by decide) hw).mp c15
          have hl1 := dec_dg w hw
          have hl2 := (sb_dg_in w).1
          refine vx_go hC hFt hini (vx_ends hC hr hlk) jc_In_getChars12 43 (by decide) rfl ?_
          refine ⟨_, ⟨"java/lang/Integer", "DigitOnes", "[B", "java/lang/Integer", hd1, Or.inl (hC.2.2.2.2.1 _ (List.mem_cons_of_mem _ wf_In_83)), fun _ z => z⟩, ?_⟩
          refine ⟨_, _, ht1, (show vp_in (-(-nI w)) 100 by rw [nn_w]; exact vp_in_nI c15 (by decide)), ?_⟩
          rw [nn_w, nI_clamp (n := w) (by omega), m1_q (by omega)]
          refine And.intro rfl (And.intro rfl (And.intro (vp_in_nI (by omega) hm.2) ?_))
          rw [vb_b]
          rw [nI_clamp (n := q - 1) (by omega)]
          refine And.intro (fun c53 => ?_) (fun c53 => ?_)
          · skip
            have c53 : w < 10 := by
              have := (sb_nle (b := 9) hw (by decide)).mp
              rcases Nat.lt_or_ge w 10 with z | z
              · exact z
              · exact absurd c53 (fun y => by have := (sb_nle (a := 9) (b := w) (by decide) hw).mp y; omega)
            refine vx_go hC hFt hini (vx_ends hC hr hlk) jc_In_getChars12 62 (by decide) rfl ?_
            refine And.intro (fun c63 => ?_) (fun c63 => ?_)
            · skip
              refine vx_go hC hFt hini (vx_ends hC hr hlk) jc_In_getChars12 69 (by decide) rfl ?_
              refine And.intro (trivial) (And.intro ?_ (And.intro (Nat.le_refl _) (Nat.le_refl _)))
              exact ⟨⟨_, rfl⟩, _, rfl, gc_one hg c53 (by omega)⟩
            · skip
              exact absurd rfl c63
          · skip
            have c53 : 10 ≤ w := by
              rcases Nat.lt_or_ge w 10 with z | z
              · exact absurd ((sb_nle (a := 9) (b := w) (by decide) hw).mpr (by omega)) c53
              · exact z
            have hq2 : 2 ≤ q := by
              rw [dec_2 c53 c15] at hlq
              exact hlq
            refine ⟨_, ⟨"java/lang/Integer", "DigitTens", "[B", "java/lang/Integer", hd2, Or.inl (hC.2.2.2.2.1 _ (List.mem_cons_of_mem _ wf_In_87)), fun _ z => z⟩, ?_⟩
            refine ⟨_, _, ht2, (show vp_in (-(-nI w)) 100 by rw [nn_w]; exact vp_in_nI c15 (by decide)), ?_⟩
            rw [nn_w, nI_clamp (n := w) (by omega), m1_q2 (by omega)]
            refine And.intro rfl (And.intro rfl (And.intro (vp_in_nI (by omega) hm.2) ?_))
            rw [vb_b]
            rw [nI_clamp (n := q - 2) (by omega)]
            refine And.intro (fun c63 => ?_) (fun c63 => ?_)
            · skip
              refine vx_go hC hFt hini (vx_ends hC hr hlk) jc_In_getChars12 69 (by decide) rfl ?_
              refine And.intro (trivial) (And.intro ?_ (And.intro (Nat.le_refl _) (Nat.le_refl _)))
              exact ⟨⟨_, rfl⟩, _, rfl, gc_2 hg c53 c15 (by omega)⟩
            · skip
              exact absurd rfl c63
        · skip
          have c15 : ¬ w < 100 := fun z => c15 ((sb_nlt (a := 100) (by decide) hw).mpr z)
          have hq2 : 2 ≤ q := by
            have := sb_dg100 (w := w) (by omega) hw
            have := dec_dg w hw
            omega
          refine And.intro (by decide) ?_
          rw [sb_ndiv hw]
          refine ⟨_, ⟨"java/lang/Integer", "DigitOnes", "[B", "java/lang/Integer", hd1, Or.inl (hC.2.2.2.2.1 _ (List.mem_cons_of_mem _ wf_In_83)), fun _ z => z⟩, ?_⟩
          refine ⟨_, _, ht1, (show vp_in ((-nI (w / 100)) * 100 - (-nI w)) 100 by rw [sb_nrem hw]; exact vp_in_nI (Nat.mod_lt _ (by decide)) (by decide)), ?_⟩
          rw [sb_nrem hw, nI_clamp (n := w % 100) (by omega), m1_q (by omega)]
          refine And.intro rfl (And.intro rfl (And.intro (vp_in_nI (by omega) hm.2) ?_))
          rw [vb_b]
          rw [nI_clamp (n := q - 1) (by omega)]
          refine ⟨_, ⟨"java/lang/Integer", "DigitTens", "[B", "java/lang/Integer", hd2, Or.inl (hC.2.2.2.2.1 _ (List.mem_cons_of_mem _ wf_In_87)), fun _ z => z⟩, ?_⟩
          refine ⟨_, _, ht2, vp_in_nI (Nat.mod_lt _ (by decide)) (by decide), ?_⟩
          rw [nI_clamp (n := w % 100) (by omega), m1_q2 (by omega)]
          refine And.intro rfl (And.intro rfl (And.intro (vp_in_nI (by omega) hm.2) ?_))
          rw [vb_b]
          rw [nI_clamp (n := q - 2) (by omega)]
          refine Vx.subL (lv' := [(0, .int (-nI (w / 100))), (1, .int (nI p9)), (2, .ref v), (5, .int (nI (q - 2))), (6, .int 0)]) [1, 4, 5, 0, 6] rfl ?_
          exact ih (w / 100) (by omega) (w / 100) (q - 2) _ (gc_two hg (by omega) hw hq2) (by omega) (by omega) rfl
  · skip
    exact absurd (nI_pos' hw9) c3
