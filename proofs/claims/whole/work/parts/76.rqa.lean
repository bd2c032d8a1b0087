/-! THE CLASS: a request is fed, by program (wip/whole/gen/p76.py) -/
def rwU (rw9 : Nat → Nat → Int32) (G : Nat) (f : Nat → Int32) : Nat → Nat → Int32 := fun g => if g = G then f else rw9 g
section
variable {tc : Nat → ClassId} {tcA : ClassId} {q za ta : Nat} {ro : Nat → Nat} {me : Int32} {zs : Nat → Int32} {rw9 : Nat → Nat → Int32} {G : Nat} {f : Nat → Int32}
theorem rqW_at (h : G < 8) : (rqW tc tcA q za ta ro me zs rw9)[3 + G]? = some (ro G, .inl (tc 0, 96, .inl (rw9 G))) := by
  rcases (show G = 0 ∨ G = 1 ∨ G = 2 ∨ G = 3 ∨ G = 4 ∨ G = 5 ∨ G = 6 ∨ G = 7 by omega) with rfl | rfl | rfl | rfl | rfl | rfl | rfl | rfl <;> rfl
theorem rqW_set (h : G < 8) : (rqW tc tcA q za ta ro me zs rw9).set (3 + G) (ro G, .inl (tc 0, 96, .inl f)) = rqW tc tcA q za ta ro me zs (rwU rw9 G f) := by
  rcases (show G = 0 ∨ G = 1 ∨ G = 2 ∨ G = 3 ∨ G = 4 ∨ G = 5 ∨ G = 6 ∨ G = 7 by omega) with rfl | rfl | rfl | rfl | rfl | rfl | rfl | rfl <;> rfl
theorem rwU_rwU {g : Nat → Int32} : rwU (rwU rw9 G f) G g = rwU rw9 G g := by
  funext j
  unfold rwU
  split <;> rfl
theorem rwU_id : rwU rw9 G (rw9 G) = rw9 := by
  funext j
  unfold rwU
  split
  · rename_i e; rw [e]
  · rfl
theorem rwU_eq : rwU rw9 G f G = f := if_pos rfl
end
theorem rqA_app {zs : Nat → Int32} {rw9 : Nat → Nat → Int32} {tx : Nat → List Nat} {G : Nat} {ch : Int64} {f : Nat → Int32} (h : rqA zs rw9 tx) (hG : G < 8) (hl : (tx G).length + (chL ch).length ≤ 96) (h1 : ∀ j, j < (tx G).length → f j = rw9 G j) (h2 : ∀ i, i < (chL ch).length → f ((tx G).length + i) = nI (cb ch i)) : rqA (upd zs G (nI ((tx G).length + (chL ch).length))) (rwU rw9 G f) (txU tx (nI G) ch) := by
  intro g hg
  have hc : (nI G).toNatClampNeg = G := nI_clamp (by omega)
  unfold txU
  rw [hc]
  by_cases e : g = G
  · subst e
    rw [if_pos rfl, pk_us, rwU_eq]
    refine ⟨by rw [List.length_append], isT_app (h g hg).2.1 (fun z hz => chL_T hz) hl, fun j hj => ?_⟩
    by_cases e2 : j < (tx g).length
    · rw [h1 j e2, (h g hg).2.2 j e2, List.getD_eq_getElem?_getD, List.getD_eq_getElem?_getD, List.getElem?_append_left e2]
    · rw [List.length_append] at hj
      have h3 := h2 (j - (tx g).length) (by omega)
      rw [show (tx g).length + (j - (tx g).length) = j by omega] at h3
      rw [h3, List.getD_eq_getElem?_getD, List.getElem?_append_right (by omega), ← List.getD_eq_getElem?_getD, (chL_get (by omega)).1]
  · rw [if_neg e, pk_un e]
    unfold rwU
    rw [if_neg e]
    exact h g hg
theorem nI_lt8 {fd : Int32} (h0 : ¬ fd < 0) (h : fd < 8) : ∃ G : Nat, G < 8 ∧ fd = nI G := by
  obtain ⟨h1, h2⟩ := i_nat h0
  refine ⟨fd.toNatClampNeg, ?_, h1⟩
  rw [h1] at h
  exact (nI_ltI (b := 8) h2 (by omega)).mp h
set_option maxRecDepth 100000 in
set_option maxHeartbeats 4000000 in
theorem c_Rq_append (l : Launch) (D : va_G) (tys : List (ClassId × FieldType)) (tc : Nat → ClassId) (hty : ∀ i : Nat, i < 4 → tys[i]? = some (tc i, vx_ty i)) (tcA : ClassId) (htA : tys[5]? = some (tcA, .array .int)) (q za ta : Nat) (ro : Nat → Nat) (me : Int32) (zs : Nat → Int32) (rw9 : Nat → Nat → Int32) (tx : Nat → List Nat) (hA : rqA zs rw9 tx) (fd : Int32) (ch : Int64) : Kt l y_Rq_append (yw y_Rq_append b_Rq_append 7 (some .int)) 2 44 0 0 D cls tys (fun _ _ _ => True) [.ref q, .int fd, .long ch] (rqW tc tcA q za ta ro me zs rw9) (fun r w => r = some (.int (if fdB tx fd ch = true then nI ((tx fd.toNatClampNeg).length + (chL ch).length) else -1)) ∧ ∃ zs2 rw2, w = (rqW tc tcA q za ta ro me zs2 rw2) ∧ rqA zs2 rw2 (if fdB tx fd ch = true then txU tx fd ch else tx)) := by
  refine Kt.of ro_true (by decide) rfl hty (Nat.le_of_ble_eq_true rfl) ?_
  intro p e s m args below meth c0 A hC hr hlk hnm hF
  have hFt : vx_Ft y_Rq_append.cls (yw y_Rq_append b_Rq_append 7 (some .int)) cls cty ft_Rq := ft_of (fun w h => List.mem_cons_of_mem _ h) fl_Rq_in ft_Rq_b
  have hini : false = true → meth.name = "<init>" := fun h => by cases h
  refine vx_gon hC hFt hini (vx_ends hC hr hlk) jc_Rq_append 0 24 (by decide) rfl ?_
  refine And.intro (fun c1 => ?_) (fun c1 => ?_)
  · skip
    refine vx_gon hC hFt hini (vx_ends hC hr hlk) jc_Rq_append 5 19 (by decide) rfl ?_
    refine And.intro (trivial) (And.intro ?_ (And.intro (Nat.le_refl _) (Nat.le_refl _)))
    have hB : fdB tx fd ch = false := by
      unfold fdB
      rw [decide_eq_false (fun z => absurd z.1 (Int32.not_le.mpr c1))]
    rw [hB, if_neg (by decide), if_neg (by decide)]
    exact ⟨rfl, zs, rw9, rfl, hA⟩
  · skip
    refine And.intro (fun c4 => ?_) (fun c4 => ?_)
    · skip
      obtain ⟨G, hG, rfl⟩ := nI_lt8 c1 c4
      have hcl : (nI G).toNatClampNeg = G := nI_clamp (by omega)
      have hl96 := (hA G hG).2.1.1
      have hc8 := chL_le (ch := ch)
      refine vx_gon hC hFt hini (vx_ends hC hr hlk) jc_Rq_append 7 17 (by decide) rfl ?_
      refine calls0 hC (c_Rq_countOf l D tys tc hty ch) trivial wm_Rq_countOf wl_Rq_24 wt_Rq_countOf ⟨by decide, by decide⟩ rfl rfl (Nat.le_of_ble_eq_true rfl) ⟨Nat.zero_le _, Nat.zero_le _⟩ (fun r' hp => ?_)
      subst hp
      refine And.intro rfl ?_
      refine And.intro rfl (And.intro rfl (And.intro (vp_in_nI hG (by decide)) ?_))
      rw [hcl, (hA G hG).1]
      refine And.intro (fun c19 => ?_) (fun c19 => ?_)
      · skip
        have c19 : (tx G).length + (chL ch).length ≤ 96 := by
          rw [nI_add] at c19
          exact (nI_leI (b := 96) (by omega) (by omega)).mp c19
        refine vx_gon hC hFt hini (vx_ends hC hr hlk) jc_Rq_append 22 2 (by decide) rfl ?_
        refine Vx.subL (lv' := [(0, .ref q), (1, .int (nI G)), (2, .long ch), (4, .int (nI (chL ch).length)), (5, .int (nI (tx G).length)), (6, .int (nI 0))]) [3, 4, 5, 2, 1, 0] rfl ?_
        obtain ⟨k, hk0⟩ : ∃ k : Nat, k = 0 := ⟨_, rfl⟩
        obtain ⟨f, hf0⟩ : ∃ f, f = rw9 G := ⟨_, rfl⟩
        refine Vx.eqs rfl (lv2 := [(0, .ref q), (1, .int (nI G)), (2, .long ch), (4, .int (nI (chL ch).length)), (5, .int (nI (tx G).length)), (6, .int (nI k))]) (by rw [hk0]) rfl (w2 := (rqW tc tcA q za ta ro me zs (rwU rw9 G f))) (by rw [hf0, rwU_id]) ?_
        have hf1 : ∀ j, j < (tx G).length → f j = rw9 G j := fun j _ => by rw [hf0]
        have hf2 : ∀ i, i < k → f ((tx G).length + i) = nI (cb ch i) := fun i hi => by omega
        have hkl : k ≤ (chL ch).length := by omega
        clear hk0 hf0
        induction hn : (chL ch).length - k using Nat.strongRecOn generalizing k f with
        | _ m9 ih =>
          refine vx_go hC hFt hini (vx_ends hC hr hlk) jc_Rq_append 24 (by decide) rfl ?_
          refine And.intro (fun c26 => ?_) (fun c26 => ?_)
          · skip
            have c26 : (chL ch).length ≤ k := (nI_leI (by omega) (by omega)).mp c26
            refine vx_go hC hFt hini (vx_ends hC hr hlk) jc_Rq_append 40 (by decide) rfl ?_
            refine And.intro rfl ?_
            refine And.intro rfl (And.intro rfl (And.intro (vp_in_nI hG (by decide)) ?_))
            rw [hcl]
            refine And.intro (trivial) (And.intro ?_ (And.intro (Nat.le_refl _) (Nat.le_refl _)))
            have hB : fdB tx (nI G) ch = true := by
              unfold fdB
              rw [hcl, decide_eq_true ⟨nI_le (Nat.zero_le _) (by omega), nI_le (b := 7) (by omega) (by omega), c19⟩]
            rw [hB, if_pos rfl, if_pos rfl]
            refine ⟨by rw [nI_add], _, _, rfl, ?_⟩
            rw [nI_add]
            refine rqA_app hA hG c19 hf1 (fun i hi => hf2 i (by omega))
          · skip
            have c26 : ¬ (chL ch).length ≤ k := fun z => c26 ((nI_leI (by omega) (by omega)).mpr z)
            refine And.intro rfl ?_
            refine sx_aaO hC 2 5 rfl htA rfl (vp_in_nI hG (by decide)) rfl ?_
            rw [hcl]
            refine calls0 hC (c_Rq_characterOf l D tys tc hty ch k (by omega)) trivial wm_Rq_characterOf wl_Rq_28 wt_Rq_characterOf ⟨by decide, by decide⟩ rfl rfl (Nat.le_of_ble_eq_true rfl) ⟨Nat.zero_le _, Nat.zero_le _⟩ (fun r' hp => ?_)
            subst hp
            rw [nI_add]
            refine sx_iastO hC (3 + G) (rqW_at hG) (vp_in_nI (by omega) (by decide)) ?_
            rw [nI_clamp (n := (tx G).length + k) (by omega), rqW_set hG, rwU_rwU, rwU_eq]
            refine Vx.subL (lv' := [(0, .ref q), (1, .int (nI G)), (2, .long ch), (4, .int (nI (chL ch).length)), (5, .int (nI (tx G).length)), (6, .int (nI k + 1))]) [1, 2, 3, 4, 5, 0] rfl ?_
            rw [nI_1]
            exact ih ((chL ch).length - (k + 1)) (by omega) (k + 1) (upd f ((tx G).length + k) (nI (cb ch k))) (fun j hj => by rw [pk_un (by omega)]; exact hf1 j hj) (fun i hi => by
              by_cases e : i = k
              · rw [e]; exact pk_us
              · rw [pk_un (by omega)]; exact hf2 i (by omega)) (by omega) rfl
      · skip
        have c19 : ¬ (tx G).length + (chL ch).length ≤ 96 := fun z => c19 (by rw [nI_add]; exact nI_le (b := 96) z (by omega))
        refine And.intro (trivial) (And.intro ?_ (And.intro (Nat.le_refl _) (Nat.le_refl _)))
        have hB : fdB tx (nI G) ch = false := by
          unfold fdB
          rw [hcl, decide_eq_false (fun z => c19 z.2.2)]
        rw [hB, if_neg (by decide), if_neg (by decide)]
        exact ⟨rfl, zs, rw9, rfl, hA⟩
    · skip
      refine And.intro (trivial) (And.intro ?_ (And.intro (Nat.le_refl _) (Nat.le_refl _)))
      have hB : fdB tx fd ch = false := by
        unfold fdB
        rw [decide_eq_false (fun z => absurd (Int32.lt_of_le_of_lt z.2.1 (by decide)) c4)]
      rw [hB, if_neg (by decide), if_neg (by decide)]
      exact ⟨rfl, zs, rw9, rfl, hA⟩
