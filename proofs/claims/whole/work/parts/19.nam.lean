/-! NAMES OF THREE LETTERS; OPEN: by program (wip/whole/gen/p19.py) -/
def nms : List Nat → Nat → Nat → Nat → Nat → Option Nat
  | a :: b :: c :: W, x, y, z, k => if x = a ∧ y = b ∧ z = c then some k else nms W x y z (k + 1)
  | _, _, _, _, _ => none
/-- which of the names W comes next -/
def nmAt (W rs : List Nat) : Option Nat × List Nat := match rs with
  | x :: y :: z :: r => (match nms W x y z 0 with
    | some k => (some k, r)
    | none => (none, x :: y :: z :: r))
  | rs => (none, rs)
theorem nmAt_short {W rs : List Nat} (h : ¬ 3 ≤ rs.length) : nmAt W rs = (none, rs) := by
  match rs, h with
  | [], _ => rfl
  | [_], _ => rfl
  | [_, _], _ => rfl
  | _ :: _ :: _ :: _, h => exact absurd (by simp) h
theorem sfx3 {T : List Nat} {x y z : Nat} {r : List Nat} (h : x :: y :: z :: r <:+ T) : T.length - (x :: y :: z :: r).length + 3 = T.length - r.length ∧ T.length - (x :: y :: z :: r).length + 2 < T.length ∧ T.getD (T.length - (x :: y :: z :: r).length) 0 = x ∧ T.getD (T.length - (x :: y :: z :: r).length + 1) 0 = y ∧ T.getD (T.length - (x :: y :: z :: r).length + 2) 0 = z ∧ (x ∈ T ∧ y ∈ T ∧ z ∈ T) ∧ r <:+ T := by
  obtain ⟨t, rfl⟩ := h
  have h1 : (t ++ x :: y :: z :: r).length - (x :: y :: z :: r).length = t.length := by simp
  rw [h1]
  refine ⟨by simp <;> omega, by simp <;> omega, by simp, ?_, ?_, ⟨by simp, by simp, by simp⟩, ⟨t ++ [x, y, z], by simp⟩⟩
  · simp [List.getD_eq_getElem?_getD, List.getElem?_append_right]
  · simp [List.getD_eq_getElem?_getD, List.getElem?_append_right]
theorem rd_step3 {tc : Nat → ClassId} {ci h ra sa : Nat} {ex : List Value} {T r : List Nat} {x y z : Nat} {sd : Nat → Int32} {ss : Nat} (g4 : T.length - (x :: y :: z :: r).length + 3 = T.length - r.length) : [((h, .inr (ci, .ref ra :: .int (nI T.length) :: .int (nI (T.length - (x :: y :: z :: r).length) + 3) :: .ref sa :: .int (nI ss) :: ex)) : Nat × va_E), (sa, .inl (tc 0, 96, .inl sd))] = rdW tc ci h ra sa ex T r sd ss := by
  rw [show (3 : Int32) = nI 3 from rfl, nI_add, g4]; rfl
theorem sub_len {a b : Nat} (h : b ≤ a) : nI a - nI (a - b) = nI b := by rw [pk_sub (by omega)]; congr 1; omega
theorem nms_hit {W : List Nat} {k x y z : Nat} (h : 3 * k + 2 < W.length) (h1 : x = W.getD (3 * k) 0) (h2 : y = W.getD (3 * k + 1) 0) (h3 : z = W.getD (3 * k + 2) 0) : nms (W.drop (3 * k)) x y z k = some k := by
  rw [drop_get (by omega), drop_get (by omega), drop_get (by omega), nms, if_pos ⟨h1, h2, h3⟩]
theorem nms_miss {W : List Nat} {k x y z : Nat} (h : 3 * k + 2 < W.length) (h1 : ¬ (x = W.getD (3 * k) 0 ∧ y = W.getD (3 * k + 1) 0 ∧ z = W.getD (3 * k + 2) 0)) : nms (W.drop (3 * k)) x y z k = nms (W.drop (3 * (k + 1))) x y z (k + 1) := by
  rw [drop_get (by omega), drop_get (by omega), drop_get (by omega), nms, if_neg h1]
  rfl
theorem nms_end {W : List Nat} {k x y z : Nat} (h : W.length ≤ 3 * k + 2) : nms (W.drop (3 * k)) x y z k = none := by
  rcases Nat.lt_or_ge (3 * k) W.length with h1 | h1
  · rw [drop_get h1]
    rcases Nat.lt_or_ge (3 * k + 1) W.length with h2 | h2
    · rw [drop_get h2, drop_end (by omega)]; rfl
    · rw [drop_end h2]; rfl
  · rw [drop_end h1]; rfl
set_option maxRecDepth 100000 in
set_option maxHeartbeats 4000000 in
theorem c_Rd_takeName (l : Launch) (D : va_G) (tys : List (ClassId × FieldType)) (tc : Nat → ClassId) (hty : ∀ i : Nat, i < 4 → tys[i]? = some (tc i, vx_ty i)) (ci : Nat) (hci : ci < 5) (h ra sa : Nat) (ex : List Value) (T rs : List Nat) (sd : Nat → Int32) (ss : Nat) (hT : isT T) (hs : rs <:+ T) (a : Nat) (W : List Nat) (hWW : isW W) (hW8 : W.length ≤ 1000) : Kt l y_Rd_takeName (yw y_Rd_takeName b_Rd_takeName 4 (some .int)) 4 85 0 0 D cls tys (fun A U H => rdF ra T A U H ∧ tF a W A U H) [.ref h, .ref a] (rdW tc ci h ra sa ex T rs sd ss) (fun r w => r = some (.int (iI (nmAt W rs).1)) ∧ w = rdW tc ci h ra sa ex T (nmAt W rs).2 sd ss) := by
  refine Kt.of (ro_and (rdF_ro ra T) (tF_ro a W)) (by decide) rfl hty (Nat.le_of_ble_eq_true rfl) ?_
  intro p e s m args below meth c0 A hC hr hlk hnm hF
  have hFt : vx_Ft y_Rd_takeName.cls (yw y_Rd_takeName b_Rd_takeName 4 (some .int)) cls cty ft_Rd := ft_of (fun w h => List.mem_cons_of_mem _ h) fl_Rd_in ft_Rd_b
  have hini : false = true → meth.name = "<init>" := fun h => by cases h
  have hF0 := hF.1
  have hFt0 := hF.2
  have hO := hF.2.2.1
  obtain ⟨N, f, hrow, hN, hf⟩ := hF.1
  have hTl := hT.1
  have hWl := hWW.1
  have hW9 := hW8
  rcases (show ci = 0 ∨ ci = 1 ∨ ci = 2 ∨ ci = 3 ∨ ci = 4 by omega) with rfl | rfl | rfl | rfl | rfl
  all_goals
    refine vx_gon hC hFt hini (vx_ends hC hr hlk) jc_Rd_takeName 0 11 (by decide) rfl ?_
    refine And.intro rfl ?_
    refine And.intro rfl ?_
    refine And.intro (fun c6 => ?_) (fun c6 => ?_)
    · skip
      have hle := sfx_le hs
      rw [sub_len hle] at c6
      have c6 := (nI_leI (a := 3) (b := rs.length) (by omega) (by omega)).mp c6
      obtain ⟨x0, x1, x2, r, rfl⟩ : ∃ x0 x1 x2 r, rs = x0 :: x1 :: x2 :: r := by
        match rs, c6 with
        | x0 :: x1 :: x2 :: r, _ => exact ⟨x0, x1, x2, r, rfl⟩
        | [], c6 => simp at c6
        | [_], c6 => simp at c6
        | [_, _], c6 => simp at c6
      obtain ⟨v4, v5, v0, v1, v2, ⟨m0, m1, m2⟩, v6⟩ := sfx3 hs
      have l0 := hT.2 _ m0
      have l1 := hT.2 _ m1
      have l2 := hT.2 _ m2
      generalize hres2 : nms W x0 x1 x2 0 = RES2
      refine vx_gon hC hFt hini (vx_ends hC hr hlk) jc_Rd_takeName 9 2 (by decide) rfl ?_
      refine Vx.subL (lv' := [(0, .ref h), (1, .ref a), (2, .int (nI 0))]) [1, 2, 0] rfl ?_
      obtain ⟨k, hk⟩ : ∃ k : Nat, k = 0 := ⟨_, rfl⟩
      refine Vx.eqs rfl (lv2 := [(0, .ref h), (1, .ref a), (2, .int (nI (3 * k)))]) (by rw [hk]) rfl rfl ?_
      have hres : nms (W.drop (3 * k)) x0 x1 x2 k = RES2 := by rw [hk]; exact hres2
      have hkl : 3 * k ≤ W.length + 2 := by omega
      clear hk
      induction hlen : W.length + 3 - 3 * k using Nat.strongRecOn generalizing k with
      | _ n ih =>
        refine vx_go hC hFt hini (vx_ends hC hr hlk) jc_Rd_takeName 11 (by decide) rfl ?_
        refine callv0 hC (c_St_length54 l D tys tc hty a W hWW) hFt0 hO wm_St_length54 wl_Rd_45 wi_St_length54 ws_St_St_length54 ⟨by decide, by decide⟩ rfl rfl (Nat.le_of_ble_eq_true rfl) ⟨Nat.zero_le _, Nat.zero_le _⟩ (fun r' hp => ?_)
        subst hp
        refine And.intro (fun c16 => ?_) (fun c16 => ?_)
        · skip
          rw [show ((0, 0, 0, 2, 0) : wq_A).2.2.2.1 = nI 2 from rfl, nI_add] at c16
          have c16 := (nI_leI (a := W.length) (b := (3 * k + 2)) (by omega) (by omega)).mp c16
          refine vx_go hC hFt hini (vx_ends hC hr hlk) jc_Rd_takeName 70 (by decide) rfl ?_
          refine And.intro (trivial) (And.intro ?_ (And.intro (Nat.le_refl _) (Nat.le_refl _)))
          simp only [nmAt]
          rw [hres2, ← hres, nms_end c16]
          exact And.intro rfl rfl
        · skip
          rw [show ((0, 0, 0, 2, 0) : wq_A).2.2.2.1 = nI 2 from rfl, nI_add] at c16
          have c16 : ¬ (W.length ≤ (3 * k + 2)) := fun z => c16 ((nI_leI (a := W.length) (b := (3 * k + 2)) (by omega) (by omega)).mpr z)
          refine And.intro rfl ?_
          refine And.intro rfl ?_
          refine ⟨N, f, hrow, vp_in_nI (by omega) hN.2, ?_⟩
          rw [nI_clamp (by omega), hf _ (by omega), v0]
          refine callv0 hC (c_St_charAt56 l D tys tc hty a W hWW (3 * k) (by omega)) hFt0 hO wm_St_charAt56 wl_Rd_51 wi_St_charAt56 ws_St_St_charAt56 ⟨by decide, by decide⟩ rfl rfl (Nat.le_of_ble_eq_true rfl) ⟨Nat.zero_le _, Nat.zero_le _⟩ (fun r' hp => ?_)
          subst hp
          refine And.intro (fun c25 => ?_) (fun c25 => ?_)
          · skip
            have c25 : ¬ (x0 = W.getD (3 * k) 0) := fun z => c25 (by rw [z])
            refine vx_go hC hFt hini (vx_ends hC hr hlk) jc_Rd_takeName 41 (by decide) rfl ?_
            refine And.intro (fun c44 => ?_) (fun c44 => ?_)
            · skip
              refine vx_go hC hFt hini (vx_ends hC hr hlk) jc_Rd_takeName 68 (by decide) rfl ?_
              refine Vx.subL (lv' := [(0, .ref h), (1, .ref a), (2, .int (nI (3 * k) + 3))]) [2, 3, 0] rfl ?_
              refine Vx.eqs rfl (by rw [show (3 : Int32) = nI 3 from rfl, nI_add]; rfl) rfl rfl (ih (W.length + 3 - 3 * (k + 1)) (by omega) (k + 1) ?_ (by omega) rfl)
              rw [← hres, nms_miss (by omega) (fun z => c25 z.1)]
            · skip
              exact absurd rfl c44
          · skip
            have c25 : x0 = W.getD (3 * k) 0 := (nI_eq (by omega) (by have := gd_lt hWW (3 * k); omega)).mp c25
            refine And.intro rfl ?_
            refine And.intro rfl ?_
            refine ⟨N, f, hrow, ?_, ?_⟩
            · rw [show ((0, 0, 0, 1, 0) : wq_A).2.2.2.1 = nI 1 from rfl, nI_add]; exact vp_in_nI (by omega) hN.2
            rw [show ((0, 0, 0, 1, 0) : wq_A).2.2.2.1 = nI 1 from rfl, nI_add, nI_clamp (by omega), hf _ (by omega), v1]
            refine callv0 hC (c_St_charAt56 l D tys tc hty a W hWW (3 * k + 1) (by omega)) hFt0 hO wm_St_charAt56 wl_Rd_51 wi_St_charAt56 ws_St_St_charAt56 ⟨by decide, by decide⟩ rfl (congrArg (fun z => [Value.int z, Value.ref a, Value.int (nI x1)]) (nI_add (3 * k) 1)) (Nat.le_of_ble_eq_true rfl) ⟨Nat.zero_le _, Nat.zero_le _⟩ (fun r' hp => ?_)
            subst hp
            refine And.intro (fun c38 => ?_) (fun c38 => ?_)
            · skip
              have c38 : ¬ (x1 = W.getD (3 * k + 1) 0) := fun z => c38 (by rw [z])
              refine vx_go hC hFt hini (vx_ends hC hr hlk) jc_Rd_takeName 41 (by decide) rfl ?_
              refine And.intro (fun c44 => ?_) (fun c44 => ?_)
              · skip
                refine vx_go hC hFt hini (vx_ends hC hr hlk) jc_Rd_takeName 68 (by decide) rfl ?_
                refine Vx.subL (lv' := [(0, .ref h), (1, .ref a), (2, .int (nI (3 * k) + 3))]) [2, 3, 0] rfl ?_
                refine Vx.eqs rfl (by rw [show (3 : Int32) = nI 3 from rfl, nI_add]; rfl) rfl rfl (ih (W.length + 3 - 3 * (k + 1)) (by omega) (k + 1) ?_ (by omega) rfl)
                rw [← hres, nms_miss (by omega) (fun z => c38 z.2.1)]
              · skip
                exact absurd rfl c44
            · skip
              have c38 : x1 = W.getD (3 * k + 1) 0 := (nI_eq (by omega) (by have := gd_lt hWW (3 * k + 1); omega)).mp c38
              refine vx_go hC hFt hini (vx_ends hC hr hlk) jc_Rd_takeName 42 (by decide) rfl ?_
              refine And.intro (fun c44 => ?_) (fun c44 => ?_)
              · skip
                exact absurd c44 (by decide)
              · skip
                refine And.intro rfl ?_
                refine And.intro rfl ?_
                refine ⟨N, f, hrow, ?_, ?_⟩
                · rw [show ((0, 0, 0, 2, 0) : wq_A).2.2.2.1 = nI 2 from rfl, nI_add]; exact vp_in_nI (by omega) hN.2
                rw [show ((0, 0, 0, 2, 0) : wq_A).2.2.2.1 = nI 2 from rfl, nI_add, nI_clamp (by omega), hf _ (by omega), v2]
                refine callv0 hC (c_St_charAt56 l D tys tc hty a W hWW (3 * k + 2) (by omega)) hFt0 hO wm_St_charAt56 wl_Rd_51 wi_St_charAt56 ws_St_St_charAt56 ⟨by decide, by decide⟩ rfl (congrArg (fun z => [Value.int z, Value.ref a, Value.int (nI x2)]) (nI_add (3 * k) 2)) (Nat.le_of_ble_eq_true rfl) ⟨Nat.zero_le _, Nat.zero_le _⟩ (fun r' hp => ?_)
                subst hp
                refine And.intro (fun c57 => ?_) (fun c57 => ?_)
                · skip
                  have c57 : ¬ (x2 = W.getD (3 * k + 2) 0) := fun z => c57 (by rw [z])
                  refine vx_go hC hFt hini (vx_ends hC hr hlk) jc_Rd_takeName 68 (by decide) rfl ?_
                  refine Vx.subL (lv' := [(0, .ref h), (1, .ref a), (2, .int (nI (3 * k) + 3))]) [2, 3, 0] rfl ?_
                  refine Vx.eqs rfl (by rw [show (3 : Int32) = nI 3 from rfl, nI_add]; rfl) rfl rfl (ih (W.length + 3 - 3 * (k + 1)) (by omega) (k + 1) ?_ (by omega) rfl)
                  rw [← hres, nms_miss (by omega) (fun z => c57 z.2.2)]
                · skip
                  have c57 : x2 = W.getD (3 * k + 2) 0 := (nI_eq (by omega) (by have := gd_lt hWW (3 * k + 2); omega)).mp c57
                  refine And.intro rfl ?_
                  refine And.intro rfl ?_
                  refine And.intro rfl (And.intro (And.intro rfl rfl) ?_)
                  refine And.intro (by decide) ?_
                  refine And.intro (trivial) (And.intro ?_ (And.intro (Nat.le_refl _) (Nat.le_refl _)))
                  simp only [nmAt]
                  rw [hres2, ← hres, nms_hit (by omega) c25 c38 c57]
                  refine And.intro ?_ (rd_step3 v4)
                  show some (Value.int (nI (3 * k) / nI 3)) = some (Value.int (nI k))
                  rw [pk_div (by omega) (by decide) (by decide), Nat.mul_div_cancel_left k (by decide)]
    · skip
      have hle := sfx_le hs
      rw [sub_len hle] at c6
      have c6 : ¬ (3 ≤ rs.length) := fun z => c6 ((nI_leI (a := 3) (b := rs.length) (by omega) (by omega)).mpr z)
      refine And.intro (trivial) (And.intro ?_ (And.intro (Nat.le_refl _) (Nat.le_refl _)))
      rw [nmAt_short c6]
      exact And.intro rfl rfl
