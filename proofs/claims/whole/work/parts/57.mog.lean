/-! THE REFERENCE: feeding, forms, dates, by program (wip/whole/gen/p57.py) -/
/-- character k of what is fed -/
def cb (ch : Int64) (k : Nat) : Nat := (ch.toBitVec.toNat >>> (8 * k)) % 256
theorem t255 (w i : Nat) (hw : 8 < w) : (BitVec.ofNat w 255).getLsbD i = decide (i < 8) := by
  rw [BitVec.getLsbD_ofNat, show 255 = 2 ^ 8 - 1 from rfl, Nat.testBit_two_pow_sub_one]
  by_cases h : i < 8
  · simp [h]; omega
  · simp [h]
theorem cb_ref (v : BitVec 64) (q : Nat) (hq : q ≤ 56) : v.sshiftRight q &&& BitVec.ofNat 64 255 = BitVec.ofNat 64 ((v.toNat >>> q) % 256) := by
  apply BitVec.eq_of_getLsbD_eq
  intro i hi
  rw [BitVec.getLsbD_and, t255 64 i (by decide), BitVec.getLsbD_ofNat, show 256 = 2 ^ 8 from rfl, Nat.testBit_mod_two_pow, Nat.testBit_shiftRight, BitVec.getLsbD_sshiftRight]
  by_cases h : i < 8
  · simp [h, hi, BitVec.getLsbD, show q + i < 64 by omega, show ¬ 64 ≤ i by omega]
  · simp [h]
theorem cb_r {ch : Int64} {k : Nat} (h : k < 8) : (ch >>> (((8 : Int32) * nI k).toInt64 &&& 63)) &&& 255 = lN (cb ch k) := by
  have hk : k = 0 ∨ k = 1 ∨ k = 2 ∨ k = 3 ∨ k = 4 ∨ k = 5 ∨ k = 6 ∨ k = 7 := by omega
  have key : ∀ q : Nat, q ≤ 56 → ∀ y : Int64, (y.toBitVec.smod 64).toNat = q → (ch >>> y) &&& 255 = lN ((ch.toBitVec.toNat >>> q) % 256) := by
    intro q hq y hy
    apply Int64.toBitVec_inj.mp
    rw [Int64.toBitVec_and, Int64.toBitVec_shiftRight, BitVec.sshiftRight_eq', hy]
    exact cb_ref _ q hq
  rcases hk with rfl | rfl | rfl | rfl | rfl | rfl | rfl | rfl <;> exact key _ (by decide) _ (by decide)
theorem cb_lt {ch : Int64} {k : Nat} : cb ch k < 256 := Nat.mod_lt _ (by decide)
def chq (ch : Int64) : Nat → Nat → List Nat
  | 0, _ => []
  | n + 1, k => if cb ch k = 0 then [] else cb ch k :: chq ch n (k + 1)
/-- the characters of what is fed -/
def chL (ch : Int64) : List Nat := chq ch 8 0
theorem chq_len {ch : Int64} : ∀ (q k n : Nat), (∀ j, k ≤ j → j < k + n → cb ch j ≠ 0) → n ≤ q → (n = q ∨ cb ch (k + n) = 0) → (chq ch q k).length = n
  | 0, k, n, _, h2, _ => by rw [chq]; simp; omega
  | q + 1, k, n, h1, h2, h3 => by
    rw [chq]
    by_cases e : n = 0
    · subst e
      rw [if_pos (show cb ch k = 0 from h3.elim (fun z => by omega) (fun z => z))]; rfl
    · rw [if_neg (h1 k (Nat.le_refl _) (by omega)), List.length_cons, chq_len q (k + 1) (n - 1) (fun j a b => h1 j (by omega) (by omega)) (by omega) (h3.elim (fun z => Or.inl (by omega)) (fun z => Or.inr (by rw [show k + 1 + (n - 1) = k + n by omega]; exact z)))]
      omega
theorem chq_get {ch : Int64} : ∀ (q k j : Nat), j < (chq ch q k).length → (chq ch q k).getD j 0 = cb ch (k + j) ∧ cb ch (k + j) ≠ 0
  | 0, k, j, h => by rw [chq] at h; simp at h
  | q + 1, k, j, h => by
    rw [chq] at h ⊢
    by_cases e : cb ch k = 0
    · rw [if_pos e] at h; simp at h
    · rw [if_neg e] at h ⊢
      cases j with
      | zero => exact ⟨rfl, e⟩
      | succ j =>
        rw [List.length_cons] at h
        have := chq_get (ch := ch) q (k + 1) j (by omega)
        rw [show k + 1 + j = k + (j + 1) by omega] at this
        exact this
theorem chL_len {ch : Int64} {n : Nat} (h1 : ∀ j, j < n → cb ch j ≠ 0) (h2 : n ≤ 8) (h3 : n = 8 ∨ cb ch n = 0) : (chL ch).length = n := chq_len 8 0 n (fun j _ b => h1 j (by omega)) h2 (by rw [Nat.zero_add]; exact h3)
theorem chL_get {ch : Int64} {j : Nat} (h : j < (chL ch).length) : (chL ch).getD j 0 = cb ch j ∧ cb ch j ≠ 0 := by
  have := chq_get 8 0 j h
  rwa [Nat.zero_add] at this
theorem chq_le {ch : Int64} : ∀ (q k : Nat), (chq ch q k).length ≤ q
  | 0, k => by rw [chq]; simp
  | q + 1, k => by
    rw [chq]
    split
    · simp
    · rw [List.length_cons]; have := chq_le (ch := ch) q (k + 1); omega
theorem chL_le {ch : Int64} : (chL ch).length ≤ 8 := chq_le 8 0
theorem chL_T {ch : Int64} {z : Nat} (h : z ∈ chL ch) : 0 < z ∧ z < 256 := by
  obtain ⟨j, hj, rfl⟩ := List.getElem_of_mem h
  have := chL_get hj
  rw [List.getD_eq_getElem?_getD, List.getElem?_eq_getElem hj] at this
  have h2 : (chL ch)[j] = cb ch j := this.1
  rw [h2]
  exact ⟨Nat.pos_of_ne_zero this.2, cb_lt⟩
/-- may it be fed -/
def fdB (tx : Nat → List Nat) (fd : Int32) (ch : Int64) : Bool := decide (0 ≤ fd ∧ fd ≤ 7 ∧ (tx fd.toNatClampNeg).length + (chL ch).length ≤ 96)
def txU (tx : Nat → List Nat) (fd : Int32) (ch : Int64) (g : Nat) : List Nat := if g = fd.toNatClampNeg then tx g ++ chL ch else tx g
theorem isT_app {A B : List Nat} (h1 : isT A) (h2 : ∀ z ∈ B, 0 < z ∧ z < 256) (h : A.length + B.length ≤ 96) : isT (A ++ B) := ⟨by rw [List.length_append]; exact h, fun z hz => by
  rcases List.mem_append.mp hz with y | y
  · exact h1.2 z y
  · exact h2 z y⟩
set_option maxRecDepth 100000 in
set_option maxHeartbeats 4000000 in
theorem c_Mo_feed (l : Launch) (D : va_G) (tys : List (ClassId × FieldType)) (tc : Nat → ClassId) (hty : ∀ i : Nat, i < 4 → tys[i]? = some (tc i, vx_ty i)) (h : Nat) (ar : Nat → Nat) (now : Int64) (sc : Nat → Int32) (ai : Nat → Nat → Int32) (al : Nat → Nat → Int64) (tx : Nat → List Nat) (hx : ∀ G, G < 8 → mdT ai G (tx G)) (fd : Int32) (ch : Int64) : Kt l y_Mo_feed (yw y_Mo_feed b_Mo_feed 6 (some .int)) 0 0 0 0 D cls tys (fun _ _ _ => True) [.ref h, .int fd, .long ch] (mdW tc h ar now sc ai al) (fun r w => r = some (.int (if fdB tx fd ch = true then nI ((tx fd.toNatClampNeg).length + (chL ch).length) else -1)) ∧ (fdB tx fd ch = false → w = (mdW tc h ar now sc ai al)) ∧ (fdB tx fd ch = true → ∃ a2, w = mdW tc h ar now sc a2 al ∧ (∀ k, k ≠ 7 → k ≠ 8 → a2 k = ai k) ∧ ∀ g, g < 8 → mdT a2 g (txU tx fd ch g))) := by
  refine Kt.of ro_true (by decide) rfl hty (Nat.le_of_ble_eq_true rfl) ?_
  intro p e s m args below meth c0 A hC hr hlk hnm hF
  have hFt : vx_Ft y_Mo_feed.cls (yw y_Mo_feed b_Mo_feed 6 (some .int)) cls cty ft_Mo := ft_of (fun w h => List.mem_cons_of_mem _ h) fl_Mo_in ft_Mo_b
  have hini : false = true → meth.name = "<init>" := fun h => by cases h
  refine vx_cut (α := Unit) 15 (fun u => ¬ fd < 0 ∧ fd ≤ 7 ∧ fd = nI fd.toNatClampNeg ∧ fd.toNatClampNeg < 8) (fun u => [(0, .ref h), (1, .int fd), (2, .long ch), (4, .int (nI 0))]) (fun u => []) (fun u => (mdW tc h ar now sc ai al)) (fun hJ9 => ?_) ?_
  · skip
    refine vx_gon hC hFt hini (vx_ends hC hr hlk) jc_Mo_feed 0 9 (by decide) rfl ?_
    refine And.intro (fun c1 => ?_) (fun c1 => ?_)
    · skip
      refine vx_gon hC hFt hini (vx_ends hC hr hlk) jc_Mo_feed 5 4 (by decide) rfl ?_
      refine And.intro (trivial) (And.intro ?_ (And.intro (Nat.le_refl _) (Nat.le_refl _)))
      rw [show fdB tx fd ch = false from decide_eq_false (fun z => absurd z.1 (Int32.not_le.mpr c1))]
      exact ⟨rfl, fun _ => rfl, fun z => by cases z⟩
    · skip
      refine And.intro (fun c4 => ?_) (fun c4 => ?_)
      · skip
        refine vx_gon hC hFt hini (vx_ends hC hr hlk) jc_Mo_feed 7 2 (by decide) rfl ?_
        refine Vx.subL (lv' := [(0, .ref h), (1, .int fd), (2, .long ch), (4, .int (nI 0))]) [1, 2, 3, 0] rfl ?_
        obtain ⟨hfn, hf31⟩ := i_nat c1
        have hG : fd.toNatClampNeg < 8 := by
          have c4 : fd ≤ nI 7 := c4
          rw [hfn] at c4
          have := (nI_leI (a := fd.toNatClampNeg) (b := 7) hf31 (by decide)).mp c4
          omega
        exact hJ9 () ⟨c1, c4, hfn, hG⟩
      · skip
        refine And.intro (trivial) (And.intro ?_ (And.intro (Nat.le_refl _) (Nat.le_refl _)))
        rw [show fdB tx fd ch = false from decide_eq_false (fun z => c4 z.2.1)]
        exact ⟨rfl, fun _ => rfl, fun z => by cases z⟩
  · skip
    rintro u9 ⟨c1, c4, hfn, hG⟩
    clear u9
    have hxG := hx fd.toNatClampNeg hG
    have hTl := hxG.2.2.2.1
    obtain ⟨n, hn0⟩ : ∃ n : Nat, n = 0 := ⟨_, rfl⟩
    refine Vx.eqs rfl (lv2 := [(0, .ref h), (1, .int fd), (2, .long ch), (4, .int (nI n))]) (by rw [hn0]) rfl rfl ?_
    have hnz : ∀ j, j < n → cb ch j ≠ 0 := fun j hj => by omega
    have hn8 : n ≤ 8 := by omega
    clear hn0
    induction hm : 8 - n using Nat.strongRecOn generalizing n with
    | _ m9 ih =>
      refine vx_gon hC hFt hini (vx_ends hC hr hlk) jc_Mo_feed 9 15 (by decide) rfl ?_
      refine And.intro (fun c11 => ?_) (fun c11 => ?_)
      · skip
        have c11 := (nI_leI (a := 8) (b := n) (by omega) (by omega)).mp c11
        have hcl := chL_len hnz hn8 (Or.inl (by omega))
        clear ih
        refine vx_gon hC hFt hini (vx_ends hC hr hlk) jc_Mo_feed 24 12 (by decide) rfl ?_
        refine And.intro rfl ?_
        refine And.intro rfl (And.intro rfl (And.intro (by rw [hfn]; exact vp_in_nI hG (by decide)) ?_))
        rw [hxG.2.1]
        refine And.intro (fun c31 => ?_) (fun c31 => ?_)
        · skip
          have c31 : (tx fd.toNatClampNeg).length + n ≤ 96 := by
            have c31 : nI (tx fd.toNatClampNeg).length + nI n ≤ nI 96 := c31
            rw [nI_add] at c31
            exact (nI_leI (by omega) (by omega)).mp c31
          refine vx_gon hC hFt hini (vx_ends hC hr hlk) jc_Mo_feed 34 2 (by decide) rfl ?_
          refine Vx.subL (lv' := [(0, .ref h), (1, .int fd), (2, .long ch), (4, .int (nI n)), (5, .int (nI 0))]) [1, 2, 3, 4, 0] rfl ?_
          obtain ⟨k, hk0⟩ : ∃ k : Nat, k = 0 := ⟨_, rfl⟩
          obtain ⟨a4, ha40⟩ : ∃ a4, a4 = ai := ⟨_, rfl⟩
          refine Vx.eqs rfl (lv2 := [(0, .ref h), (1, .int fd), (2, .long ch), (4, .int (nI n)), (5, .int (nI k))]) (by rw [hk0]) rfl (w2 := mdW tc h ar now sc a4 al) (by rw [ha40]) ?_
          have ha4 : ∀ q, q ≠ 7 → a4 q = ai q := by rw [ha40]; exact fun _ _ => rfl
          have hb4 : ∀ j, (∀ j2, j2 < k → j ≠ 96 * fd.toNatClampNeg + (tx fd.toNatClampNeg).length + j2) → a4 7 j = ai 7 j := by rw [ha40]; exact fun _ _ => rfl
          have hc4 : ∀ j, j < k → a4 7 (96 * fd.toNatClampNeg + (tx fd.toNatClampNeg).length + j) = nI (cb ch j) := fun j hj => by omega
          have hkn : k ≤ n := by omega
          clear hk0 ha40 hm
          induction hm2 : n - k using Nat.strongRecOn generalizing k a4 with
          | _ m8 ih2 =>
            refine vx_go hC hFt hini (vx_ends hC hr hlk) jc_Mo_feed 36 (by decide) rfl ?_
            refine And.intro (fun c38 => ?_) (fun c38 => ?_)
            · skip
              have c38 := (nI_leI (a := n) (b := k) (by omega) (by omega)).mp c38
              refine vx_go hC hFt hini (vx_ends hC hr hlk) jc_Mo_feed 62 (by decide) rfl ?_
              refine And.intro rfl ?_
              refine And.intro rfl (And.intro rfl ?_)
              refine And.intro rfl (And.intro rfl (And.intro (by rw [hfn]; exact vp_in_nI hG (by decide)) ?_))
              rw [show a4 8 fd.toNatClampNeg = nI (tx fd.toNatClampNeg).length by rw [ha4 8 (by decide), hxG.2.1]]
              refine And.intro rfl (And.intro rfl (And.intro (by rw [hfn]; exact vp_in_nI hG (by decide)) ?_))
              refine And.intro rfl ?_
              refine And.intro rfl (And.intro rfl (And.intro (by rw [hfn]; exact vp_in_nI hG (by decide)) ?_))
              refine And.intro (trivial) (And.intro ?_ (And.intro (Nat.le_refl _) (Nat.le_refl _)))
              rw [show fdB tx fd ch = true from decide_eq_true ⟨Int32.not_lt.mp c1, c4, by rw [hcl]; exact c31⟩]
              refine ⟨?_, (fun z => by cases z), fun _ => ⟨ap a4 8 (upd (a4 8) fd.toNatClampNeg (nI (tx fd.toNatClampNeg).length + nI n)), rfl, fun q h7 h8 => (ap_n h8).trans (ha4 q h7), fun g hg => ?_⟩⟩
              · show some (Value.int (upd (a4 8) fd.toNatClampNeg (nI (tx fd.toNatClampNeg).length + nI n) fd.toNatClampNeg)) = some (Value.int (nI ((tx fd.toNatClampNeg).length + (chL ch).length)))
                rw [pk_us, nI_add, hcl]
              · have hxg := hx g hg
                unfold txU
                by_cases e : g = fd.toNatClampNeg
                · rw [if_pos e]
                  subst e
                  refine ⟨hg, ?_, fun j hj => ?_, isT_app hxg.2.2.2 (fun z hz => chL_T hz) (by rw [hcl]; exact c31)⟩
                  · rw [ap_s, pk_us, nI_add, List.length_append, hcl]
                  · rw [ap_n (by decide), gd_app]
                    rw [List.length_append, hcl] at hj
                    by_cases e2 : j < (tx fd.toNatClampNeg).length
                    · rw [if_pos e2, hb4 _ (fun j2 hj2 => by omega)]; exact hxg.2.2.1 j e2
                    · rw [if_neg e2, (chL_get (by omega)).1, ← hc4 (j - (tx fd.toNatClampNeg).length) (by omega), show 96 * fd.toNatClampNeg + (tx fd.toNatClampNeg).length + (j - (tx fd.toNatClampNeg).length) = 96 * fd.toNatClampNeg + j by omega]
                · rw [if_neg e]
                  have hgl := hxg.2.2.2.1
                  refine ⟨hg, ?_, fun j hj => ?_, hxg.2.2.2⟩
                  · rw [ap_s, pk_un e, ha4 8 (by decide)]; exact hxg.2.1
                  · rw [ap_n (by decide), hb4 _ (fun j2 hj2 => by omega)]; exact hxg.2.2.1 j hj
            · skip
              have c38 : ¬ (n ≤ k) := fun z => c38 ((nI_leI (a := n) (b := k) (by omega) (by omega)).mpr z)
              refine And.intro rfl ?_
              refine And.intro rfl ?_
              refine And.intro rfl (And.intro rfl (And.intro (by rw [hfn]; exact vp_in_nI hG (by decide)) ?_))
              rw [ha4 8 (by decide), hxG.2.1]
              refine And.intro (Or.inr (Or.inl ⟨_, rfl, hC.2.2.2.2.1 _ (List.mem_cons_of_mem _ wc_Mo_103)⟩)) ?_
              have hix : (96 : Int32) * fd + nI (tx fd.toNatClampNeg).length + nI k = nI (96 * fd.toNatClampNeg + (tx fd.toNatClampNeg).length + k) := by
                rw [show (96 : Int32) * fd = nI (96 * fd.toNatClampNeg) by rw [← pk_mul, ← hfn]; rfl, nI_add, nI_add]
              refine And.intro rfl (And.intro rfl (And.intro (show vp_in ((96 : Int32) * fd + nI (tx fd.toNatClampNeg).length + nI k) 768 by rw [hix]; exact vp_in_nI (by omega) (by decide)) ?_))
              refine Vx.subL (lv' := [(0, .ref h), (1, .int fd), (2, .long ch), (4, .int (nI n)), (5, .int (nI k + 1))]) [1, 2, 3, 4, 0] rfl ?_
              refine Vx.eqs rfl (lv2 := [(0, .ref h), (1, .int fd), (2, .long ch), (4, .int (nI n)), (5, .int (nI (k + 1)))]) (by rw [nI_1]) rfl (w2 := mdW tc h ar now sc (ap a4 7 (upd (a4 7) (96 * fd.toNatClampNeg + (tx fd.toNatClampNeg).length + k) (nI (cb ch k)))) al) (by rw [hix, nI_clamp (by omega), cb_r (by omega), lN_i]; rfl) ?_
              exact ih2 (n - (k + 1)) (by omega) (k + 1) (ap a4 7 (upd (a4 7) (96 * fd.toNatClampNeg + (tx fd.toNatClampNeg).length + k) (nI (cb ch k)))) (fun q hq => (ap_n hq).trans (ha4 q hq)) (fun j hj => by rw [ap_s, pk_un (hj k (by omega))]; exact hb4 j (fun j2 hj2 => hj j2 (by omega))) (fun j hj => by
                rw [ap_s]
                by_cases e : j = k
                · rw [e]; exact pk_us
                · rw [pk_un (by omega)]; exact hc4 j (by omega)) (by omega) rfl
        · skip
          have c31 : ¬ (tx fd.toNatClampNeg).length + n ≤ 96 := fun z => c31 (show nI (tx fd.toNatClampNeg).length + nI n ≤ nI 96 by rw [nI_add]; exact (nI_leI (by omega) (by omega)).mpr z)
          refine And.intro (trivial) (And.intro ?_ (And.intro (Nat.le_refl _) (Nat.le_refl _)))
          rw [show fdB tx fd ch = false from decide_eq_false (fun z => c31 (by rw [← hcl]; exact z.2.2))]
          exact ⟨rfl, fun _ => rfl, fun z => by cases z⟩
      · skip
        have c11 : ¬ (8 ≤ n) := fun z => c11 ((nI_leI (a := 8) (b := n) (by omega) (by omega)).mpr z)
        refine And.intro (Or.inr (Or.inl ⟨_, rfl, hC.2.2.2.2.1 _ (List.mem_cons_of_mem _ wc_Mo_103)⟩)) ?_
        refine And.intro (fun c21 => ?_) (fun c21 => ?_)
        · skip
          have c21 : cb ch n = 0 := by
            have c21 : lg_cmp ((ch >>> (((8 : Int32) * nI n).toInt64 &&& 63)) &&& 255) 0 = 0 := c21
            rw [cb_r (by omega)] at c21
            have := lg0.mp c21
            exact Classical.byContradiction (fun z => absurd this (lN_ne0 (Nat.pos_of_ne_zero z) cb_lt))
          have hcl := chL_len hnz hn8 (Or.inr c21)
          clear ih
          refine vx_gon hC hFt hini (vx_ends hC hr hlk) jc_Mo_feed 24 12 (by decide) rfl ?_
          refine And.intro rfl ?_
          refine And.intro rfl (And.intro rfl (And.intro (by rw [hfn]; exact vp_in_nI hG (by decide)) ?_))
          rw [hxG.2.1]
          refine And.intro (fun c31 => ?_) (fun c31 => ?_)
          · skip
            have c31 : (tx fd.toNatClampNeg).length + n ≤ 96 := by
              have c31 : nI (tx fd.toNatClampNeg).length + nI n ≤ nI 96 := c31
              rw [nI_add] at c31
              exact (nI_leI (by omega) (by omega)).mp c31
            refine vx_gon hC hFt hini (vx_ends hC hr hlk) jc_Mo_feed 34 2 (by decide) rfl ?_
            refine Vx.subL (lv' := [(0, .ref h), (1, .int fd), (2, .long ch), (4, .int (nI n)), (5, .int (nI 0))]) [1, 2, 3, 4, 0] rfl ?_
            obtain ⟨k, hk0⟩ : ∃ k : Nat, k = 0 := ⟨_, rfl⟩
            obtain ⟨a4, ha40⟩ : ∃ a4, a4 = ai := ⟨_, rfl⟩
            refine Vx.eqs rfl (lv2 := [(0, .ref h), (1, .int fd), (2, .long ch), (4, .int (nI n)), (5, .int (nI k))]) (by rw [hk0]) rfl (w2 := mdW tc h ar now sc a4 al) (by rw [ha40]) ?_
            have ha4 : ∀ q, q ≠ 7 → a4 q = ai q := by rw [ha40]; exact fun _ _ => rfl
            have hb4 : ∀ j, (∀ j2, j2 < k → j ≠ 96 * fd.toNatClampNeg + (tx fd.toNatClampNeg).length + j2) → a4 7 j = ai 7 j := by rw [ha40]; exact fun _ _ => rfl
            have hc4 : ∀ j, j < k → a4 7 (96 * fd.toNatClampNeg + (tx fd.toNatClampNeg).length + j) = nI (cb ch j) := fun j hj => by omega
            have hkn : k ≤ n := by omega
            clear hk0 ha40 hm
            induction hm2 : n - k using Nat.strongRecOn generalizing k a4 with
            | _ m8 ih2 =>
              refine vx_go hC hFt hini (vx_ends hC hr hlk) jc_Mo_feed 36 (by decide) rfl ?_
              refine And.intro (fun c38 => ?_) (fun c38 => ?_)
              · skip
                have c38 := (nI_leI (a := n) (b := k) (by omega) (by omega)).mp c38
                refine vx_go hC hFt hini (vx_ends hC hr hlk) jc_Mo_feed 62 (by decide) rfl ?_
                refine And.intro rfl ?_
                refine And.intro rfl (And.intro rfl ?_)
                refine And.intro rfl (And.intro rfl (And.intro (by rw [hfn]; exact vp_in_nI hG (by decide)) ?_))
                rw [show a4 8 fd.toNatClampNeg = nI (tx fd.toNatClampNeg).length by rw [ha4 8 (by decide), hxG.2.1]]
                refine And.intro rfl (And.intro rfl (And.intro (by rw [hfn]; exact vp_in_nI hG (by decide)) ?_))
                refine And.intro rfl ?_
                refine And.intro rfl (And.intro rfl (And.intro (by rw [hfn]; exact vp_in_nI hG (by decide)) ?_))
                refine And.intro (trivial) (And.intro ?_ (And.intro (Nat.le_refl _) (Nat.le_refl _)))
                rw [show fdB tx fd ch = true from decide_eq_true ⟨Int32.not_lt.mp c1, c4, by rw [hcl]; exact c31⟩]
                refine ⟨?_, (fun z => by cases z), fun _ => ⟨ap a4 8 (upd (a4 8) fd.toNatClampNeg (nI (tx fd.toNatClampNeg).length + nI n)), rfl, fun q h7 h8 => (ap_n h8).trans (ha4 q h7), fun g hg => ?_⟩⟩
                · show some (Value.int (upd (a4 8) fd.toNatClampNeg (nI (tx fd.toNatClampNeg).length + nI n) fd.toNatClampNeg)) = some (Value.int (nI ((tx fd.toNatClampNeg).length + (chL ch).length)))
                  rw [pk_us, nI_add, hcl]
                · have hxg := hx g hg
                  unfold txU
                  by_cases e : g = fd.toNatClampNeg
                  · rw [if_pos e]
                    subst e
                    refine ⟨hg, ?_, fun j hj => ?_, isT_app hxg.2.2.2 (fun z hz => chL_T hz) (by rw [hcl]; exact c31)⟩
                    · rw [ap_s, pk_us, nI_add, List.length_append, hcl]
                    · rw [ap_n (by decide), gd_app]
                      rw [List.length_append, hcl] at hj
                      by_cases e2 : j < (tx fd.toNatClampNeg).length
                      · rw [if_pos e2, hb4 _ (fun j2 hj2 => by omega)]; exact hxg.2.2.1 j e2
                      · rw [if_neg e2, (chL_get (by omega)).1, ← hc4 (j - (tx fd.toNatClampNeg).length) (by omega), show 96 * fd.toNatClampNeg + (tx fd.toNatClampNeg).length + (j - (tx fd.toNatClampNeg).length) = 96 * fd.toNatClampNeg + j by omega]
                  · rw [if_neg e]
                    have hgl := hxg.2.2.2.1
                    refine ⟨hg, ?_, fun j hj => ?_, hxg.2.2.2⟩
                    · rw [ap_s, pk_un e, ha4 8 (by decide)]; exact hxg.2.1
                    · rw [ap_n (by decide), hb4 _ (fun j2 hj2 => by omega)]; exact hxg.2.2.1 j hj
              · skip
                have c38 : ¬ (n ≤ k) := fun z => c38 ((nI_leI (a := n) (b := k) (by omega) (by omega)).mpr z)
                refine And.intro rfl ?_
                refine And.intro rfl ?_
                refine And.intro rfl (And.intro rfl (And.intro (by rw [hfn]; exact vp_in_nI hG (by decide)) ?_))
                rw [ha4 8 (by decide), hxG.2.1]
                refine And.intro (Or.inr (Or.inl ⟨_, rfl, hC.2.2.2.2.1 _ (List.mem_cons_of_mem _ wc_Mo_103)⟩)) ?_
                have hix : (96 : Int32) * fd + nI (tx fd.toNatClampNeg).length + nI k = nI (96 * fd.toNatClampNeg + (tx fd.toNatClampNeg).length + k) := by
                  rw [show (96 : Int32) * fd = nI (96 * fd.toNatClampNeg) by rw [← pk_mul, ← hfn]; rfl, nI_add, nI_add]
                refine And.intro rfl (And.intro rfl (And.intro (show vp_in ((96 : Int32) * fd + nI (tx fd.toNatClampNeg).length + nI k) 768 by rw [hix]; exact vp_in_nI (by omega) (by decide)) ?_))
                refine Vx.subL (lv' := [(0, .ref h), (1, .int fd), (2, .long ch), (4, .int (nI n)), (5, .int (nI k + 1))]) [1, 2, 3, 4, 0] rfl ?_
                refine Vx.eqs rfl (lv2 := [(0, .ref h), (1, .int fd), (2, .long ch), (4, .int (nI n)), (5, .int (nI (k + 1)))]) (by rw [nI_1]) rfl (w2 := mdW tc h ar now sc (ap a4 7 (upd (a4 7) (96 * fd.toNatClampNeg + (tx fd.toNatClampNeg).length + k) (nI (cb ch k)))) al) (by rw [hix, nI_clamp (by omega), cb_r (by omega), lN_i]; rfl) ?_
                exact ih2 (n - (k + 1)) (by omega) (k + 1) (ap a4 7 (upd (a4 7) (96 * fd.toNatClampNeg + (tx fd.toNatClampNeg).length + k) (nI (cb ch k)))) (fun q hq => (ap_n hq).trans (ha4 q hq)) (fun j hj => by rw [ap_s, pk_un (hj k (by omega))]; exact hb4 j (fun j2 hj2 => hj j2 (by omega))) (fun j hj => by
                  rw [ap_s]
                  by_cases e : j = k
                  · rw [e]; exact pk_us
                  · rw [pk_un (by omega)]; exact hc4 j (by omega)) (by omega) rfl
          · skip
            have c31 : ¬ (tx fd.toNatClampNeg).length + n ≤ 96 := fun z => c31 (show nI (tx fd.toNatClampNeg).length + nI n ≤ nI 96 by rw [nI_add]; exact (nI_leI (by omega) (by omega)).mpr z)
            refine And.intro (trivial) (And.intro ?_ (And.intro (Nat.le_refl _) (Nat.le_refl _)))
            rw [show fdB tx fd ch = false from decide_eq_false (fun z => c31 (by rw [← hcl]; exact z.2.2))]
            exact ⟨rfl, fun _ => rfl, fun z => by cases z⟩
        · skip
          have c21 : cb ch n ≠ 0 := fun z => c21 (show lg_cmp ((ch >>> (((8 : Int32) * nI n).toInt64 &&& 63)) &&& 255) 0 = 0 by rw [cb_r (by omega), z]; rfl)
          refine Vx.subL (lv' := [(0, .ref h), (1, .int fd), (2, .long ch), (4, .int (nI n + 1))]) [1, 2, 3, 0] rfl ?_
          rw [nI_1]
          exact ih (8 - (n + 1)) (by omega) (n + 1) (fun j hj => by
            by_cases e : j = n
            · rw [e]; exact c21
            · exact hnz j (by omega)) (by omega) rfl
def dvS (ly : Nat) (tx : Nat → List Nat) (fd : Int32) : Option Nat := if fd < 4 ∨ 6 < fd then none else dtO ly (tx fd.toNatClampNeg)
def fmS (ly : Nat) (tx : Nat → List Nat) (fd : Int32) : Bool := if fd < 0 ∨ 7 < fd then false else
  if fd.toNatClampNeg = 0 then (accL (mnL 0) (snL 0) (pnL 0) (vnL 0) 97 0 0 0 (tx 0)).isSome else
  if fd.toNatClampNeg = 1 then (lanL (coL 0) (beL 0) 97 0 0 0 (tx 1)).isSome else
  if fd.toNatClampNeg = 2 then (tgsL [] (tx 2)).isSome else
  if fd.toNatClampNeg = 3 then (tgsL [] (tx 3)).isSome else
  if fd.toNatClampNeg = 7 then (rngL (tx 7)).isSome else
  if fd.toNatClampNeg = 6 then (lonT [] (tx 6)).isSome || (dtO ly (tx 6)).isSome else
  (dtO ly (tx fd.toNatClampNeg)).isSome
theorem fmS_nil {ly : Nat} {tx : Nat → List Nat} {fd : Int32} (h : tx fd.toNatClampNeg = []) : fmS ly tx fd = false := by
  have k1 : dtO ly [] = none := rfl
  unfold fmS
  split
  · rfl
  · split
    · rename_i e; rw [e] at h; rw [h]; rfl
    · split
      · rename_i e; rw [e] at h; rw [h]; rfl
      · split
        · rename_i e; rw [e] at h; rw [h]; rfl
        · split
          · rename_i e; rw [e] at h; rw [h]; rfl
          · split
            · rename_i e; rw [e] at h; rw [h]; rfl
            · split
              · rename_i e; rw [e] at h; rw [h]; rfl
              · rw [h]; rfl
set_option maxRecDepth 100000 in
set_option maxHeartbeats 4000000 in
theorem c_Mo_date (l : Launch) (D : va_G) (tys : List (ClassId × FieldType)) (tc : Nat → ClassId) (hty : ∀ i : Nat, i < 4 → tys[i]? = some (tc i, vx_ty i)) (h : Nat) (ar : Nat → Nat) (now : Int64) (sc : Nat → Int32) (ai : Nat → Nat → Int32) (al : Nat → Nat → Int64) (N : Nat) (rp : List Rp) (me : Int32) (tx : Nat → List Nat) (hR : mdR now sc ai al N rp me tx) (fd : Int32) : Kt l y_Mo_date (yw y_Mo_date b_Mo_date 2 (some .long)) 6 139 0 0 D cls tys (fun _ _ _ => True) [.ref h, .int fd] (mdW tc h ar now sc ai al) (fun r w => r = some (.long (lI (dvS (yrN N + 50) tx fd))) ∧ ∃ s2, w = mdW tc h ar now s2 ai al ∧ gq sc s2) := by
  refine Kt.of ro_true (by decide) rfl hty (Nat.le_of_ble_eq_true rfl) ?_
  intro p e s m args below meth c0 A hC hr hlk hnm hF
  have hFt : vx_Ft y_Mo_date.cls (yw y_Mo_date b_Mo_date 2 (some .long)) cls cty ft_Mo := ft_of (fun w h => List.mem_cons_of_mem _ h) fl_Mo_in ft_Mo_b
  have hini : false = true → meth.name = "<init>" := fun h => by cases h
  obtain ⟨hN, hnow, hWd, hrp, h1c, h8m, hx⟩ := id hR
  refine vx_go hC hFt hini (vx_ends hC hr hlk) jc_Mo_date 0 (by decide) rfl ?_
  refine And.intro (fun c2 => ?_) (fun c2 => ?_)
  · skip
    refine vx_go hC hFt hini (vx_ends hC hr hlk) jc_Mo_date 10 (by decide) rfl ?_
    refine And.intro (Or.inr (Or.inl ⟨_, rfl, hC.2.2.2.2.1 _ (List.mem_cons_of_mem _ wc_Mo_267)⟩)) ?_
    refine And.intro (trivial) (And.intro ?_ (And.intro (Nat.le_refl _) (Nat.le_refl _)))
    rw [dvS, if_pos (Or.inl c2)]
    exact ⟨rfl, sc, rfl, gq.refl⟩
  · skip
    refine And.intro (fun c5 => ?_) (fun c5 => ?_)
    · skip
      refine vx_go hC hFt hini (vx_ends hC hr hlk) jc_Mo_date 10 (by decide) rfl ?_
      refine And.intro (Or.inr (Or.inl ⟨_, rfl, hC.2.2.2.2.1 _ (List.mem_cons_of_mem _ wc_Mo_267)⟩)) ?_
      refine And.intro (trivial) (And.intro ?_ (And.intro (Nat.le_refl _) (Nat.le_refl _)))
      rw [dvS, if_pos (Or.inr c5)]
      exact ⟨rfl, sc, rfl, gq.refl⟩
    · skip
      obtain ⟨hfn, hf31⟩ := i_nat (i := fd) (fun z => c2 (Int32.lt_trans z (by decide)))
      have hG : fd.toNatClampNeg < 8 := by
        have c5 : ¬ nI 6 < fd := c5
        rw [hfn] at c5
        have h9 : ¬ 6 < fd.toNatClampNeg := fun z => c5 ((nI_ltI (a := 6) (b := fd.toNatClampNeg) (by decide) hf31).mpr z)
        omega
      refine mo_call hC (c_Mo_dateOf l D tys tc hty h ar now sc ai al fd.toNatClampNeg (tx fd.toNatClampNeg) (hx fd.toNatClampNeg hG) N hN hnow) wm_Mo_dateOf wl_Mo_316 wi_Mo_dateOf ws_Mo_Mo_dateOf ⟨by decide, by decide⟩ rfl (show [Value.int fd, Value.ref h] = [Value.int (nI fd.toNatClampNeg), Value.ref h] by rw [← hfn]) (Nat.le_of_ble_eq_true rfl) ⟨Nat.zero_le _, Nat.zero_le _⟩ (fun r' w1 hp => ?_)
      obtain ⟨rfl, s2, rfl, hg2⟩ := hp
      refine vx_go hC hFt hini (vx_ends hC hr hlk) jc_Mo_date 11 (by decide) rfl ?_
      refine And.intro (trivial) (And.intro ?_ (And.intro (Nat.le_refl _) (Nat.le_refl _)))
      rw [dvS, if_neg (fun z => z.elim c2 c5)]
      exact ⟨rfl, s2, rfl, hg2⟩
section
variable {p : Program} {l : Launch} {e : Env} {R : Room} {s : State} {m : MethodId} {args : Array Value} {below : List Frame} {meth : Method} {c : Code} {cc : ByteArray} {nL : Nat} {D : va_G} {tys : List (ClassId × FieldType)} {A : Nat → Prop} {tc : Nat → ClassId} {Q : State → Prop} {st : List Value} {k n : Nat} {ws : va_W} {own : String} {Ts : List Cond} {cl : List vw_C}
theorem vx_tbl (hC : Cx p s m args c cc nL own Ts D cl tys A tc) {pc : Nat} {dflt lo hi : Int} {offs : Array Int} {len : Nat} (hd : decode cc pc = .ok (.tableswitch dflt lo hi offs, len)) {v : Int32} {off : Int} (tgt : Nat) (h1 : ¬ v.toInt < lo) (h2 : ¬ hi < v.toInt) (ho : offs[(v.toInt - lo).toNat]? = some off) (ht : (pc : Int) + off = (tgt : Int)) {lv : wq_L} (h : Vx p l e R s m args below meth c nL D cl A Q tgt lv st ws k n) : Vx p l e R s m args below meth c nL D cl A Q pc lv (.int v :: st) ws k n :=
  fun H locs ls hP hD hS hl => lv_tableIn hC.1 hC.2.1 hd h1 h2 ho ht (h H locs ls hP hD hS hl)
theorem vx_tblO (hC : Cx p s m args c cc nL own Ts D cl tys A tc) {pc : Nat} {dflt lo hi : Int} {offs : Array Int} {len : Nat} (hd : decode cc pc = .ok (.tableswitch dflt lo hi offs, len)) {v : Int32} (tgt : Nat) (h : v.toInt < lo ∨ hi < v.toInt) (ht : (pc : Int) + dflt = (tgt : Int)) {lv : wq_L} (hv : Vx p l e R s m args below meth c nL D cl A Q tgt lv st ws k n) : Vx p l e R s m args below meth c nL D cl A Q pc lv (.int v :: st) ws k n :=
  fun H locs ls hP hD hS hl => lv_tableOut hC.1 hC.2.1 hd h ht (hv H locs ls hP hD hS hl)
end
theorem iI_some {v : Option Nat} (hv : ∀ a, v = some a → a < 2 ^ 31) : (iI v < 0 ↔ v = none) := by
  cases v with
  | none => exact ⟨fun _ => rfl, fun _ => by decide⟩
  | some a => exact ⟨fun z => absurd z (nI_pos (hv a rfl)), fun z => by cases z⟩
theorem tgV_some {str wk : Bool} {v : Option (Bool × Bool × Bool)} : tgV none str wk v < 0 ↔ v = none := by
  cases v with
  | none => exact ⟨fun _ => rfl, fun _ => (show (-1 : Int32) < 0 by decide)⟩
  | some v =>
    obtain ⟨a, b, c⟩ := v
    refine ⟨fun z => ?_, fun z => by cases z⟩
    exfalso
    revert z
    show ¬ bI _ < 0
    generalize (a || fdN none str wk b c) = q
    cases q <;> decide
theorem lon_iff {T : List Nat} : (lonT [] T).isSome = ((tgt (gp T)).1 && (gp (tgt (gp T)).2.2.1).isEmpty) := by
  unfold lonT
  cases h1 : (tgt (gp T)).1 with
  | false => rfl
  | true =>
    rw [if_pos rfl]
    by_cases h2 : gp (tgt (gp T)).2.2.1 = []
    · rw [if_pos h2, h2]; rfl
    · rw [if_neg h2]
      cases h3 : gp (tgt (gp T)).2.2.1 with
      | nil => exact absurd h3 h2
      | cons a b => rfl
set_option maxRecDepth 100000 in
set_option maxHeartbeats 4000000 in
theorem c_Mo_formed (l : Launch) (D : va_G) (tys : List (ClassId × FieldType)) (tc : Nat → ClassId) (hty : ∀ i : Nat, i < 4 → tys[i]? = some (tc i, vx_ty i)) (h : Nat) (ar : Nat → Nat) (now : Int64) (sc : Nat → Int32) (ai : Nat → Nat → Int32) (al : Nat → Nat → Int64) (N : Nat) (rp : List Rp) (me : Int32) (tx : Nat → List Nat) (hR : mdR now sc ai al N rp me tx) (fd : Int32) : Kt l y_Mo_formed (yw y_Mo_formed b_Mo_formed 2 (some .boolean)) 7 159 0 0 D cls tys (fun _ _ _ => True) [.ref h, .int fd] (mdW tc h ar now sc ai al) (fun r w => r = some (.int (bI (fmS (yrN N + 50) tx fd))) ∧ ∃ s2 a2, w = mdW tc h ar now s2 a2 al ∧ hq sc s2 ∧ aq ai a2) := by
  refine Kt.of ro_true (by decide) rfl hty (Nat.le_of_ble_eq_true rfl) ?_
  intro p e s m args below meth c0 A hC hr hlk hnm hF
  have hFt : vx_Ft y_Mo_formed.cls (yw y_Mo_formed b_Mo_formed 2 (some .boolean)) cls cty ft_Mo := ft_of (fun w h => List.mem_cons_of_mem _ h) fl_Mo_in ft_Mo_b
  have hini : false = true → meth.name = "<init>" := fun h => by cases h
  obtain ⟨hN, hnow, hWd, hrp, h1c, h8m, hx⟩ := id hR
  refine vx_gon hC hFt hini (vx_ends hC hr hlk) jc_Mo_formed 0 12 (by decide) rfl ?_
  refine And.intro (fun c1 => ?_) (fun c1 => ?_)
  · skip
    refine vx_gon hC hFt hini (vx_ends hC hr hlk) jc_Mo_formed 9 3 (by decide) rfl ?_
    refine And.intro (rfl) (And.intro ?_ (And.intro (Nat.le_refl _) (Nat.le_refl _)))
    rw [show fmS (yrN N + 50) tx fd = false from if_pos (Or.inl c1)]
    exact ⟨rfl, sc, ai, rfl, hq.refl, aq.refl⟩
  · skip
    refine And.intro (fun c4 => ?_) (fun c4 => ?_)
    · skip
      refine vx_gon hC hFt hini (vx_ends hC hr hlk) jc_Mo_formed 9 3 (by decide) rfl ?_
      refine And.intro (rfl) (And.intro ?_ (And.intro (Nat.le_refl _) (Nat.le_refl _)))
      rw [show fmS (yrN N + 50) tx fd = false from if_pos (Or.inr c4)]
      exact ⟨rfl, sc, ai, rfl, hq.refl, aq.refl⟩
    · skip
      obtain ⟨hfn, hf31⟩ := i_nat c1
      have hG : fd.toNatClampNeg < 8 := by
        have c4 : ¬ nI 7 < fd := c4
        rw [hfn] at c4
        have h9 : ¬ 7 < fd.toNatClampNeg := fun z => c4 ((nI_ltI (a := 7) (b := fd.toNatClampNeg) (by decide) hf31).mpr z)
        omega
      refine mo_call hC (c_Mo_there l D tys tc hty h ar now sc ai al fd.toNatClampNeg (tx fd.toNatClampNeg) hG (hx fd.toNatClampNeg hG).2.2.2 (hx fd.toNatClampNeg hG).2.1) wm_Mo_there wl_Mo_223 wi_Mo_there ws_Mo_Mo_there ⟨by decide, by decide⟩ rfl (show [Value.int fd, Value.ref h] = [Value.int (nI fd.toNatClampNeg), Value.ref h] by rw [← hfn]) (Nat.le_of_ble_eq_true rfl) ⟨Nat.zero_le _, Nat.zero_le _⟩ (fun r' w1 hp => ?_)
      obtain ⟨rfl, rfl⟩ := hp
      refine And.intro (fun c8 => ?_) (fun c8 => ?_)
      · skip
        refine vx_gon hC hFt hini (vx_ends hC hr hlk) jc_Mo_formed 11 1 (by decide) rfl ?_
        refine Vx.subL (lv' := [(0, .ref h), (1, .int fd)]) [0, 1] rfl ?_
        have hdec := vx_dec jc_Mo_formed 12 _ (by decide) rfl
        rcases (show fd.toNatClampNeg = 0 ∨ fd.toNatClampNeg = 1 ∨ fd.toNatClampNeg = 2 ∨ fd.toNatClampNeg = 3 ∨ fd.toNatClampNeg = 4 ∨ fd.toNatClampNeg = 5 ∨ fd.toNatClampNeg = 6 ∨ fd.toNatClampNeg = 7 by omega) with e9 | e9 | e9 | e9 | e9 | e9 | e9 | e9
        · have hfm : fmS (yrN N + 50) tx fd = (accL (mnL 0) (snL 0) (pnL 0) (vnL 0) 97 0 0 0 (tx 0)).isSome := by rw [fmS, if_neg (fun z => z.elim c1 c4), if_pos e9]
          have hfd : fd = 0 := by rw [hfn, e9]; rfl
          subst hfd
          refine vx_tbl hC hdec 68 (off := 47) (by decide) (by decide) rfl rfl ?_
          refine vx_go hC hFt hini (vx_ends hC hr hlk) jc_Mo_formed 13 (by decide) rfl ?_
          refine mo_call hC (c_Mo_accepted l D tys tc hty h ar now sc ai al (tx 0) (hx 0 (by decide)) 0 (by decide) hWd) wm_Mo_accepted wl_Mo_226 wi_Mo_accepted ws_Mo_Mo_accepted ⟨by decide, by decide⟩ rfl rfl (Nat.le_of_ble_eq_true rfl) ⟨Nat.zero_le _, Nat.zero_le _⟩ (fun r' w1 hp => ?_)
          obtain ⟨rfl, s2, rfl, hg2⟩ := hp
          refine And.intro (fun c16 => ?_) (fun c16 => ?_)
          · skip
            have c16 : accL (mnL 0) (snL 0) (pnL 0) (vnL 0) 97 0 0 0 (tx 0) = none := (iI_some (fun a ha => by have := accL_le (Nat.zero_le _) ha; omega)).mp c16
            refine vx_go hC hFt hini (vx_ends hC hr hlk) jc_Mo_formed 19 (by decide) rfl ?_
            refine And.intro (rfl) (And.intro ?_ (And.intro (Nat.le_refl _) (Nat.le_refl _)))
            rw [hfm, c16]
            exact ⟨rfl, s2, ai, rfl, hg2.hq, aq.refl⟩
          · skip
            obtain ⟨v9, c16⟩ : ∃ v9, accL (mnL 0) (snL 0) (pnL 0) (vnL 0) 97 0 0 0 (tx 0) = some v9 := by
              cases h9 : accL (mnL 0) (snL 0) (pnL 0) (vnL 0) 97 0 0 0 (tx 0) with
              | none => exact absurd ((iI_some (fun a ha => by have := accL_le (Nat.zero_le _) ha; omega)).mpr h9) c16
              | some v9 => exact ⟨v9, rfl⟩
            refine vx_go hC hFt hini (vx_ends hC hr hlk) jc_Mo_formed 20 (by decide) rfl ?_
            refine And.intro (rfl) (And.intro ?_ (And.intro (Nat.le_refl _) (Nat.le_refl _)))
            rw [hfm, c16]
            exact ⟨rfl, s2, ai, rfl, hg2.hq, aq.refl⟩
        · have hfm : fmS (yrN N + 50) tx fd = (lanL (coL 0) (beL 0) 97 0 0 0 (tx 1)).isSome := by rw [fmS, if_neg (fun z => z.elim c1 c4), if_neg (by omega), if_pos e9]
          have hfd : fd = 1 := by rw [hfn, e9]; rfl
          subst hfd
          refine vx_tbl hC hdec 82 (off := 61) (by decide) (by decide) rfl rfl ?_
          refine vx_go hC hFt hini (vx_ends hC hr hlk) jc_Mo_formed 21 (by decide) rfl ?_
          refine mo_call hC (c_Mo_spoken l D tys tc hty h ar now sc ai al (tx 1) (hx 1 (by decide)) 0 (by decide) hWd) wm_Mo_spoken wl_Mo_229 wi_Mo_spoken ws_Mo_Mo_spoken ⟨by decide, by decide⟩ rfl rfl (Nat.le_of_ble_eq_true rfl) ⟨Nat.zero_le _, Nat.zero_le _⟩ (fun r' w1 hp => ?_)
          obtain ⟨rfl, s2, rfl, hg2⟩ := hp
          refine And.intro (fun c24 => ?_) (fun c24 => ?_)
          · skip
            have c24 : lanL (coL 0) (beL 0) 97 0 0 0 (tx 1) = none := (iI_some (fun a ha => by have := lanL_le (Nat.zero_le _) ha; omega)).mp c24
            refine vx_go hC hFt hini (vx_ends hC hr hlk) jc_Mo_formed 27 (by decide) rfl ?_
            refine And.intro (rfl) (And.intro ?_ (And.intro (Nat.le_refl _) (Nat.le_refl _)))
            rw [hfm, c24]
            exact ⟨rfl, s2, ai, rfl, hg2.hq, aq.refl⟩
          · skip
            obtain ⟨v9, c24⟩ : ∃ v9, lanL (coL 0) (beL 0) 97 0 0 0 (tx 1) = some v9 := by
              cases h9 : lanL (coL 0) (beL 0) 97 0 0 0 (tx 1) with
              | none => exact absurd ((iI_some (fun a ha => by have := lanL_le (Nat.zero_le _) ha; omega)).mpr h9) c24
              | some v9 => exact ⟨v9, rfl⟩
            refine vx_go hC hFt hini (vx_ends hC hr hlk) jc_Mo_formed 28 (by decide) rfl ?_
            refine And.intro (rfl) (And.intro ?_ (And.intro (Nat.le_refl _) (Nat.le_refl _)))
            rw [hfm, c24]
            exact ⟨rfl, s2, ai, rfl, hg2.hq, aq.refl⟩
        · have hfm : fmS (yrN N + 50) tx fd = (tgsL [] (tx 2)).isSome := by rw [fmS, if_neg (fun z => z.elim c1 c4), if_neg (by omega), if_neg (by omega), if_pos e9]
          have hfd : fd = 2 := by rw [hfn, e9]; rfl
          subst hfd
          refine vx_tbl hC hdec 96 (off := 75) (by decide) (by decide) rfl rfl ?_
          refine vx_go hC hFt hini (vx_ends hC hr hlk) jc_Mo_formed 29 (by decide) rfl ?_
          refine mo_call hC (c_Mo_tags l D tys tc hty h ar now sc ai al 2 (tx 2) (hx 2 (by decide)) none true false 0 [] (fun i hi => by cases hi)) wm_Mo_tags wl_Mo_322 wi_Mo_tags ws_Mo_Mo_tags ⟨by decide, by decide⟩ rfl rfl (Nat.le_of_ble_eq_true rfl) ⟨Nat.zero_le _, Nat.zero_le _⟩ (fun r' w1 hp => ?_)
          obtain ⟨rfl, s2, rfl, hg2⟩ := hp
          refine And.intro (fun c34 => ?_) (fun c34 => ?_)
          · skip
            have c34 : tgsL [] (tx 2) = none := tgV_some.mp c34
            refine vx_go hC hFt hini (vx_ends hC hr hlk) jc_Mo_formed 37 (by decide) rfl ?_
            refine And.intro (rfl) (And.intro ?_ (And.intro (Nat.le_refl _) (Nat.le_refl _)))
            rw [hfm, c34]
            exact ⟨rfl, s2, ai, rfl, hg2.hq, aq.refl⟩
          · skip
            obtain ⟨v9, c34⟩ : ∃ v9, tgsL [] (tx 2) = some v9 := by
              cases h9 : tgsL [] (tx 2) with
              | none => exact absurd (tgV_some.mpr h9) c34
              | some v9 => exact ⟨v9, rfl⟩
            refine vx_go hC hFt hini (vx_ends hC hr hlk) jc_Mo_formed 38 (by decide) rfl ?_
            refine And.intro (rfl) (And.intro ?_ (And.intro (Nat.le_refl _) (Nat.le_refl _)))
            rw [hfm, c34]
            exact ⟨rfl, s2, ai, rfl, hg2.hq, aq.refl⟩
        · have hfm : fmS (yrN N + 50) tx fd = (tgsL [] (tx 3)).isSome := by rw [fmS, if_neg (fun z => z.elim c1 c4), if_neg (by omega), if_neg (by omega), if_neg (by omega), if_pos e9]
          have hfd : fd = 3 := by rw [hfn, e9]; rfl
          subst hfd
          refine vx_tbl hC hdec 112 (off := 91) (by decide) (by decide) rfl rfl ?_
          refine vx_go hC hFt hini (vx_ends hC hr hlk) jc_Mo_formed 39 (by decide) rfl ?_
          refine mo_call hC (c_Mo_tags l D tys tc hty h ar now sc ai al 3 (tx 3) (hx 3 (by decide)) none false false 0 [] (fun i hi => by cases hi)) wm_Mo_tags wl_Mo_322 wi_Mo_tags ws_Mo_Mo_tags ⟨by decide, by decide⟩ rfl rfl (Nat.le_of_ble_eq_true rfl) ⟨Nat.zero_le _, Nat.zero_le _⟩ (fun r' w1 hp => ?_)
          obtain ⟨rfl, s2, rfl, hg2⟩ := hp
          refine And.intro (fun c44 => ?_) (fun c44 => ?_)
          · skip
            have c44 : tgsL [] (tx 3) = none := tgV_some.mp c44
            refine vx_go hC hFt hini (vx_ends hC hr hlk) jc_Mo_formed 47 (by decide) rfl ?_
            refine And.intro (rfl) (And.intro ?_ (And.intro (Nat.le_refl _) (Nat.le_refl _)))
            rw [hfm, c44]
            exact ⟨rfl, s2, ai, rfl, hg2.hq, aq.refl⟩
          · skip
            obtain ⟨v9, c44⟩ : ∃ v9, tgsL [] (tx 3) = some v9 := by
              cases h9 : tgsL [] (tx 3) with
              | none => exact absurd (tgV_some.mpr h9) c44
              | some v9 => exact ⟨v9, rfl⟩
            refine vx_go hC hFt hini (vx_ends hC hr hlk) jc_Mo_formed 48 (by decide) rfl ?_
            refine And.intro (rfl) (And.intro ?_ (And.intro (Nat.le_refl _) (Nat.le_refl _)))
            rw [hfm, c44]
            exact ⟨rfl, s2, ai, rfl, hg2.hq, aq.refl⟩
        · have hfm : fmS (yrN N + 50) tx fd = (dtO (yrN N + 50) (tx 4)).isSome := by rw [fmS, if_neg (fun z => z.elim c1 c4), if_neg (by omega), if_neg (by omega), if_neg (by omega), if_neg (by omega), if_neg (by omega), if_neg (by omega), e9]
          have hfd : fd = 4 := by rw [hfn, e9]; rfl
          subst hfd
          refine vx_tbl hC hdec 133 (off := 112) (by decide) (by decide) rfl rfl ?_
          refine vx_go hC hFt hini (vx_ends hC hr hlk) jc_Mo_formed 52 (by decide) rfl ?_
          refine mo_call hC (c_Mo_dateOf l D tys tc hty h ar now sc ai al 4 (tx 4) (hx 4 (by decide)) N hN hnow) wm_Mo_dateOf wl_Mo_316 wi_Mo_dateOf ws_Mo_Mo_dateOf ⟨by decide, by decide⟩ rfl rfl (Nat.le_of_ble_eq_true rfl) ⟨Nat.zero_le _, Nat.zero_le _⟩ (fun r' w1 hp => ?_)
          obtain ⟨rfl, s2, rfl, hg2⟩ := hp
          refine And.intro (fun c57 => ?_) (fun c57 => ?_)
          · skip
            have c57 : ∃ v9, dtO (yrN N + 50) (tx 4) = some v9 := by
              cases h9 : dtO (yrN N + 50) (tx 4) with
              | none => exact absurd (lc_lt.mpr ((lI_lt0 dtO_lt).mpr h9)) (Int32.not_lt.mpr c57)
              | some v9 => exact ⟨v9, rfl⟩
            refine vx_go hC hFt hini (vx_ends hC hr hlk) jc_Mo_formed 64 (by decide) rfl ?_
            refine vx_go hC hFt hini (vx_ends hC hr hlk) jc_Mo_formed 67 (by decide) rfl ?_
            refine And.intro (rfl) (And.intro ?_ (And.intro (Nat.le_refl _) (Nat.le_refl _)))
            obtain ⟨v9, c57⟩ := c57
            rw [hfm, c57]
            exact ⟨rfl, s2, ai, rfl, hg2.hq, aq.refl⟩
          · skip
            have c57 : dtO (yrN N + 50) (tx 4) = none := (lI_lt0 dtO_lt).mp (lc_lt.mp (Int32.not_le.mp c57))
            refine And.intro (fun c60 => ?_) (fun c60 => ?_)
            · skip
              refine vx_go hC hFt hini (vx_ends hC hr hlk) jc_Mo_formed 66 (by decide) rfl ?_
              refine And.intro (rfl) (And.intro ?_ (And.intro (Nat.le_refl _) (Nat.le_refl _)))
              rw [hfm, c57]
              exact ⟨rfl, s2, ai, rfl, hg2.hq, aq.refl⟩
            · skip
              exact absurd c60 (by decide)
        · have hfm : fmS (yrN N + 50) tx fd = (dtO (yrN N + 50) (tx 5)).isSome := by rw [fmS, if_neg (fun z => z.elim c1 c4), if_neg (by omega), if_neg (by omega), if_neg (by omega), if_neg (by omega), if_neg (by omega), if_neg (by omega), e9]
          have hfd : fd = 5 := by rw [hfn, e9]; rfl
          subst hfd
          refine vx_tbl hC hdec 133 (off := 112) (by decide) (by decide) rfl rfl ?_
          refine vx_go hC hFt hini (vx_ends hC hr hlk) jc_Mo_formed 52 (by decide) rfl ?_
          refine mo_call hC (c_Mo_dateOf l D tys tc hty h ar now sc ai al 5 (tx 5) (hx 5 (by decide)) N hN hnow) wm_Mo_dateOf wl_Mo_316 wi_Mo_dateOf ws_Mo_Mo_dateOf ⟨by decide, by decide⟩ rfl rfl (Nat.le_of_ble_eq_true rfl) ⟨Nat.zero_le _, Nat.zero_le _⟩ (fun r' w1 hp => ?_)
          obtain ⟨rfl, s2, rfl, hg2⟩ := hp
          refine And.intro (fun c57 => ?_) (fun c57 => ?_)
          · skip
            have c57 : ∃ v9, dtO (yrN N + 50) (tx 5) = some v9 := by
              cases h9 : dtO (yrN N + 50) (tx 5) with
              | none => exact absurd (lc_lt.mpr ((lI_lt0 dtO_lt).mpr h9)) (Int32.not_lt.mpr c57)
              | some v9 => exact ⟨v9, rfl⟩
            refine vx_go hC hFt hini (vx_ends hC hr hlk) jc_Mo_formed 64 (by decide) rfl ?_
            refine vx_go hC hFt hini (vx_ends hC hr hlk) jc_Mo_formed 67 (by decide) rfl ?_
            refine And.intro (rfl) (And.intro ?_ (And.intro (Nat.le_refl _) (Nat.le_refl _)))
            obtain ⟨v9, c57⟩ := c57
            rw [hfm, c57]
            exact ⟨rfl, s2, ai, rfl, hg2.hq, aq.refl⟩
          · skip
            have c57 : dtO (yrN N + 50) (tx 5) = none := (lI_lt0 dtO_lt).mp (lc_lt.mp (Int32.not_le.mp c57))
            refine And.intro (fun c60 => ?_) (fun c60 => ?_)
            · skip
              refine vx_go hC hFt hini (vx_ends hC hr hlk) jc_Mo_formed 66 (by decide) rfl ?_
              refine And.intro (rfl) (And.intro ?_ (And.intro (Nat.le_refl _) (Nat.le_refl _)))
              rw [hfm, c57]
              exact ⟨rfl, s2, ai, rfl, hg2.hq, aq.refl⟩
            · skip
              exact absurd c60 (by decide)
        · have hfm : fmS (yrN N + 50) tx fd = ((lonT [] (tx 6)).isSome || (dtO (yrN N + 50) (tx 6)).isSome) := by rw [fmS, if_neg (fun z => z.elim c1 c4), if_neg (by omega), if_neg (by omega), if_neg (by omega), if_neg (by omega), if_neg (by omega), if_pos e9]
          have hfd : fd = 6 := by rw [hfn, e9]; rfl
          subst hfd
          refine vx_tbl hC hdec 133 (off := 112) (by decide) (by decide) rfl rfl ?_
          refine vx_go hC hFt hini (vx_ends hC hr hlk) jc_Mo_formed 52 (by decide) rfl ?_
          refine mo_call hC (c_Mo_dateOf l D tys tc hty h ar now sc ai al 6 (tx 6) (hx 6 (by decide)) N hN hnow) wm_Mo_dateOf wl_Mo_316 wi_Mo_dateOf ws_Mo_Mo_dateOf ⟨by decide, by decide⟩ rfl rfl (Nat.le_of_ble_eq_true rfl) ⟨Nat.zero_le _, Nat.zero_le _⟩ (fun r' w1 hp => ?_)
          obtain ⟨rfl, s2, rfl, hg2⟩ := hp
          refine And.intro (fun c57 => ?_) (fun c57 => ?_)
          · skip
            have c57 : ∃ v9, dtO (yrN N + 50) (tx 6) = some v9 := by
              cases h9 : dtO (yrN N + 50) (tx 6) with
              | none => exact absurd (lc_lt.mpr ((lI_lt0 dtO_lt).mpr h9)) (Int32.not_lt.mpr c57)
              | some v9 => exact ⟨v9, rfl⟩
            refine vx_go hC hFt hini (vx_ends hC hr hlk) jc_Mo_formed 64 (by decide) rfl ?_
            refine vx_go hC hFt hini (vx_ends hC hr hlk) jc_Mo_formed 67 (by decide) rfl ?_
            refine And.intro (rfl) (And.intro ?_ (And.intro (Nat.le_refl _) (Nat.le_refl _)))
            obtain ⟨v9, c57⟩ := c57
            rw [hfm, c57, show ∀ z : Bool, (z || (some v9).isSome) = true from fun z => Bool.or_true z]
            exact ⟨rfl, s2, ai, rfl, hg2.hq, aq.refl⟩
          · skip
            have c57 : dtO (yrN N + 50) (tx 6) = none := (lI_lt0 dtO_lt).mp (lc_lt.mp (Int32.not_le.mp c57))
            refine And.intro (fun c60 => ?_) (fun c60 => ?_)
            · skip
              exact absurd rfl c60
            · skip
              refine mo_call hC (c_Mo_loneTag l D tys tc hty h ar now s2 ai al (tx 6) (hx 6 (by decide))) wm_Mo_loneTag wl_Mo_396 wi_Mo_loneTag ws_Mo_Mo_loneTag ⟨by decide, by decide⟩ rfl rfl (Nat.le_of_ble_eq_true rfl) ⟨Nat.zero_le _, Nat.zero_le _⟩ (fun r' w1 hp => ?_)
              obtain ⟨rfl, s3, rfl, hg3⟩ := hp
              have hlon := lon_iff (T := tx 6)
              refine And.intro (fun c63 => ?_) (fun c63 => ?_)
              · skip
                have c63 : ((tgt (gp (tx 6))).1 && (gp (tgt (gp (tx 6))).2.2.1).isEmpty) = false := bI_eq c63
                refine vx_go hC hFt hini (vx_ends hC hr hlk) jc_Mo_formed 66 (by decide) rfl ?_
                refine And.intro (rfl) (And.intro ?_ (And.intro (Nat.le_refl _) (Nat.le_refl _)))
                rw [hfm, c57, hlon, c63]
                exact ⟨rfl, s3, ai, rfl, (hg2.trans hg3).hq, aq.refl⟩
              · skip
                have c63 : ((tgt (gp (tx 6))).1 && (gp (tgt (gp (tx 6))).2.2.1).isEmpty) = true := bI_ne c63
                refine vx_go hC hFt hini (vx_ends hC hr hlk) jc_Mo_formed 67 (by decide) rfl ?_
                refine And.intro (rfl) (And.intro ?_ (And.intro (Nat.le_refl _) (Nat.le_refl _)))
                rw [hfm, c57, hlon, c63]
                exact ⟨rfl, s3, ai, rfl, (hg2.trans hg3).hq, aq.refl⟩
        · have hfm : fmS (yrN N + 50) tx fd = (rngL (tx 7)).isSome := by rw [fmS, if_neg (fun z => z.elim c1 c4), if_neg (by omega), if_neg (by omega), if_neg (by omega), if_neg (by omega), if_pos e9]
          have hfd : fd = 7 := by rw [hfn, e9]; rfl
          subst hfd
          refine vx_tbl hC hdec 128 (off := 107) (by decide) (by decide) rfl rfl ?_
          refine vx_go hC hFt hini (vx_ends hC hr hlk) jc_Mo_formed 49 (by decide) rfl ?_
          refine mo_call hC (c_Mo_ranges l D tys tc hty h ar now sc ai al (tx 7) (hx 7 (by decide))) wm_Mo_ranges wl_Mo_329 wi_Mo_ranges ws_Mo_Mo_ranges ⟨by decide, by decide⟩ rfl rfl (Nat.le_of_ble_eq_true rfl) ⟨Nat.zero_le _, Nat.zero_le _⟩ (fun r' w1 hp => ?_)
          obtain ⟨rfl, s2, a2, rfl, hg2, ha2, _⟩ := hp
          refine And.intro ((bI_narrow _)) (And.intro ?_ (And.intro (Nat.le_refl _) (Nat.le_refl _)))
          rw [hfm]
          exact ⟨rfl, s2, a2, rfl, hg2, ha2⟩
      · skip
        have c8 : tx fd.toNatClampNeg = [] := List.eq_nil_of_length_eq_zero (Nat.eq_zero_of_not_pos (of_decide_eq_false (bI_eq (c8))))
        refine And.intro (rfl) (And.intro ?_ (And.intro (Nat.le_refl _) (Nat.le_refl _)))
        rw [show fmS (yrN N + 50) tx fd = false from fmS_nil c8]
        exact ⟨rfl, sc, ai, rfl, hq.refl, aq.refl⟩
