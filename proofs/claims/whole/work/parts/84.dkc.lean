/-! THE CLASS: the code for a representation, the choice, respond, by program (wip/whole/gen/p84.py) -/
theorem ro_ex {α : Type} {G : α → (Nat → Prop) → State → Heap → Prop} (hG : ∀ i, RO (G i)) : RO (fun A U H => ∃ i, G i A U H) := ⟨fun A u U H ha h => by obtain ⟨i, hi⟩ := h; exact ⟨i, (hG i).1 A u U H ha hi⟩, fun A U H H1 hq h => by obtain ⟨i, hi⟩ := h; exact ⟨i, (hG i).2.1 A U H H1 hq hi⟩, fun A B U H hq h => by obtain ⟨i, hi⟩ := h; exact ⟨i, (hG i).2.2 A B U H hq hi⟩⟩
theorem ro_pure {P : Prop} : RO (fun _ _ _ => P) := ⟨fun _ _ _ _ _ h => h, fun _ _ _ _ _ h => h, fun _ _ _ _ _ h => h⟩
/-- the shelf, only read: sa i is representation i -/
def shF (b sa : Nat → Nat) (rp : List Rp) (K : Nat → Nat) : (Nat → Prop) → State → Heap → Prop := fun A U H => ∃ sv : Nat → Option Nat, (∀ i, i < rp.length → sv i = some (sa i)) ∧ va_T (.object "OriginDesk$Representation") (b 1) 4 (fun j => va_rf (sv j)) A U H ∧ ∀ i, i < rp.length → rpF (sa i) i K (rp.getD i (0, 0, 0, 0, false, 0)) A U H
theorem shF_ro (b sa : Nat → Nat) (rp : List Rp) (K : Nat → Nat) : RO (shF b sa rp K) := ro_ex (fun sv => ro_and ro_pure (ro_and ro_T (ro_all (fun i => rpF_ro _ _ _ _))))
def rpsOk (rp : List Rp) : Prop := rp.length ≤ 4 ∧ ∀ r ∈ rp, rpOk r
theorem rps_get {rp : List Rp} (h : rpsOk rp) {i : Nat} (hi : i < rp.length) : rpOk (rp.getD i (0, 0, 0, 0, false, 0)) := by
  rw [List.getD_eq_getElem?_getD, List.getElem?_eq_getElem hi]
  exact h.2 _ (List.getElem_mem hi)
theorem chz_drop {tx : Nat → List Nat} {rp : List Rp} {k : Nat} {bo : Option Nat} {q : Int32} (h : k < rp.length) : chz ((rp.drop k).map fun r => nI (scS tx r)) k bo q = if q < nI (scS tx (rp.getD k (0, 0, 0, 0, false, 0))) then chz ((rp.drop (k + 1)).map fun r => nI (scS tx r)) (k + 1) (some k) (nI (scS tx (rp.getD k (0, 0, 0, 0, false, 0)))) else chz ((rp.drop (k + 1)).map fun r => nI (scS tx r)) (k + 1) bo q := by
  have hg : rp.getD k (0, 0, 0, 0, false, 0) = rp[k] := by rw [List.getD_eq_getElem?_getD, List.getElem?_eq_getElem h]; rfl
  rw [List.drop_eq_getElem_cons h, List.map_cons, chz, hg]
def raX (tc : Nat → ClassId) (h ra sa fa la : Nat) (z1 z2 : Int32) (sd : Nat → Int32) (ss : Nat) (sp kp : Int32) (f1 f2 : Nat → Int32) : va_W := [(h, .inr (4, [.ref ra, .int z1, .int z2, .ref sa, .int (nI ss), .ref fa, .ref la, .int sp, .int kp])), (sa, .inl (tc 0, 96, .inl sd)), (fa, .inl (tc 0, 4, .inl f1)), (la, .inl (tc 0, 4, .inl f2))]
set_option maxRecDepth 100000 in
set_option maxHeartbeats 4000000 in
theorem c_Ra_overlap2 (l : Launch) (D : va_G) (tys : List (ClassId × FieldType)) (tc : Nat → ClassId) (hty : ∀ i : Nat, i < 4 → tys[i]? = some (tc i, vx_ty i)) (h ra sa fa la : Nat) (z1 z2 : Int32) (sd : Nat → Int32) (ss : Nat) (sp : Int32) (kp : List (Nat × Nat)) (f1 f2 : Nat → Int32) (hkp : kpA f1 f2 kp) : Kt l y_Ra_overlap (yw y_Ra_overlap b_Ra_overlap 3 (some .boolean)) 0 0 0 0 D cls tys (fun _ _ _ => True) [.ref h] (raX tc h ra sa fa la z1 z2 sd ss (sp) (nI kp.length) f1 f2) (fun r w => r = some (.int (bI (ovl kp))) ∧ w = (raX tc h ra sa fa la z1 z2 sd ss (sp) (nI kp.length) f1 f2)) := by
  refine Kt.of ro_true (by decide) rfl hty (Nat.le_of_ble_eq_true rfl) ?_
  intro p e s m args below meth c0 A hC hr hlk hnm hF
  have hFt : vx_Ft y_Ra_overlap.cls (yw y_Ra_overlap b_Ra_overlap 3 (some .boolean)) cls cty ft_Ra := ft_of (fun w h => List.mem_cons_of_mem _ h) fl_Ra_in ft_Ra_b
  have hini : false = true → meth.name = "<init>" := fun h => by cases h
  have hk4 := hkp.1
  refine vx_gon hC hFt hini (vx_ends hC hr hlk) jc_Ra_overlap 0 2 (by decide) rfl ?_
  refine Vx.subL (lv' := [(0, .ref h), (1, .int (nI 1))]) [1, 0] rfl ?_
  obtain ⟨i, hi0⟩ : ∃ i : Nat, i = 1 := ⟨_, rfl⟩
  refine Vx.eqs rfl (lv2 := [(0, .ref h), (1, .int (nI i))]) (by rw [hi0]) rfl rfl ?_
  have hinv : ¬ ovP kp i 0 := by
    rw [hi0]
    rintro ⟨a, b, z1, z2, _⟩
    omega
  have hil : i ≤ 5 := by omega
  clear hi0
  induction hn : 5 - i using Nat.strongRecOn generalizing i with
  | _ n ih =>
    refine vx_gon hC hFt hini (vx_ends hC hr hlk) jc_Ra_overlap 2 6 (by decide) rfl ?_
    refine And.intro rfl ?_
    refine And.intro (fun c5 => ?_) (fun c5 => ?_)
    · skip
      have c5 : kp.length ≤ i := (nI_leI (by omega) (by omega)).mp c5
      refine vx_go hC hFt hini (vx_ends hC hr hlk) jc_Ra_overlap 35 (by decide) rfl ?_
      refine And.intro (rfl) (And.intro ?_ (And.intro (Nat.le_refl _) (Nat.le_refl _)))
      have : ovl kp = false := by
        cases hv : ovl kp with
        | false => rfl
        | true =>
          exfalso
          obtain ⟨i2, j2, z1, z2, z3⟩ := ovl_iff.mp hv
          exact hinv ⟨i2, j2, z1, by omega, z3⟩
      rw [this]
      exact And.intro rfl rfl
    · skip
      have c5 : ¬ kp.length ≤ i := fun z => c5 ((nI_leI (by omega) (by omega)).mpr z)
      refine Vx.subL (lv' := [(0, .ref h), (1, .int (nI i)), (2, .int (nI 0))]) [1, 2, 0] rfl ?_
      obtain ⟨j, hj0⟩ : ∃ j : Nat, j = 0 := ⟨_, rfl⟩
      refine Vx.eqs rfl (lv2 := [(0, .ref h), (1, .int (nI i)), (2, .int (nI j))]) (by rw [hj0]) rfl rfl ?_
      replace hinv : ¬ ovP kp i j := by rw [hj0]; exact hinv
      have hjl : j ≤ i := by omega
      clear hj0
      induction hn2 : i - j using Nat.strongRecOn generalizing j with
      | _ n2 ih2 =>
        refine vx_go hC hFt hini (vx_ends hC hr hlk) jc_Ra_overlap 8 (by decide) rfl ?_
        refine And.intro (fun c10 => ?_) (fun c10 => ?_)
        · skip
          have c10 : i ≤ j := (nI_leI (by omega) (by omega)).mp c10
          refine vx_go hC hFt hini (vx_ends hC hr hlk) jc_Ra_overlap 33 (by decide) rfl ?_
          refine Vx.subL (lv' := [(0, .ref h), (1, .int (nI i + 1))]) [1, 0] rfl ?_
          rw [nI_1]
          exact ih (5 - (i + 1)) (by omega) (i + 1) (fun z => hinv (by rw [show j = i by omega]; exact ovP_i.mp z)) (by omega) rfl
        · skip
          have c10 : ¬ i ≤ j := fun z => c10 ((nI_leI (by omega) (by omega)).mpr z)
          have c10 : j < i := by omega
          refine And.intro rfl ?_
          refine And.intro rfl (And.intro rfl (And.intro (vp_in_nI (show i < 4 by omega) (by decide)) ?_))
          rw [nI_clamp (by omega), (hkp.2 i (by omega)).1]
          refine And.intro rfl ?_
          refine And.intro rfl (And.intro rfl (And.intro (vp_in_nI (show j < 4 by omega) (by decide)) ?_))
          rw [nI_clamp (by omega), (hkp.2 j (by omega)).2.1]
          refine And.intro (fun c19 => ?_) (fun c19 => ?_)
          · skip
            have c19 : ¬ (kp.getD i (0, 0)).1 ≤ (kp.getD j (0, 0)).2 := fun z => absurd ((nI_ltI (a := (kp.getD j (0, 0)).2) (b := (kp.getD i (0, 0)).1) (by have := (hkp.2 j (by omega)).2.2; omega) (by have := (hkp.2 i (by omega)).2.2; omega)).mp c19) (by omega)
            refine vx_go hC hFt hini (vx_ends hC hr hlk) jc_Ra_overlap 31 (by decide) rfl ?_
            refine Vx.subL (lv' := [(0, .ref h), (1, .int (nI i)), (2, .int (nI j + 1))]) [1, 2, 0] rfl ?_
            rw [nI_1]
            exact ih2 (i - (j + 1)) (by omega) (j + 1) (fun z => ((ovP_j c10).mp z).elim hinv (fun y => c19 y.1)) (by omega) rfl
          · skip
            have c19 : (kp.getD i (0, 0)).1 ≤ (kp.getD j (0, 0)).2 := Nat.le_of_not_lt (fun z => c19 ((nI_ltI (a := (kp.getD j (0, 0)).2) (b := (kp.getD i (0, 0)).1) (by have := (hkp.2 j (by omega)).2.2; omega) (by have := (hkp.2 i (by omega)).2.2; omega)).mpr z))
            refine And.intro rfl ?_
            refine And.intro rfl (And.intro rfl (And.intro (vp_in_nI (show j < 4 by omega) (by decide)) ?_))
            rw [nI_clamp (by omega), (hkp.2 j (by omega)).1]
            refine And.intro rfl ?_
            refine And.intro rfl (And.intro rfl (And.intro (vp_in_nI (show i < 4 by omega) (by decide)) ?_))
            rw [nI_clamp (by omega), (hkp.2 i (by omega)).2.1]
            refine And.intro (fun c28 => ?_) (fun c28 => ?_)
            · skip
              have c28 : ¬ (kp.getD j (0, 0)).1 ≤ (kp.getD i (0, 0)).2 := fun z => absurd ((nI_ltI (a := (kp.getD i (0, 0)).2) (b := (kp.getD j (0, 0)).1) (by have := (hkp.2 i (by omega)).2.2; omega) (by have := (hkp.2 j (by omega)).2.2; omega)).mp c28) (by omega)
              refine vx_go hC hFt hini (vx_ends hC hr hlk) jc_Ra_overlap 31 (by decide) rfl ?_
              refine Vx.subL (lv' := [(0, .ref h), (1, .int (nI i)), (2, .int (nI j + 1))]) [1, 2, 0] rfl ?_
              rw [nI_1]
              exact ih2 (i - (j + 1)) (by omega) (j + 1) (fun z => ((ovP_j c10).mp z).elim hinv (fun y => c28 y.2)) (by omega) rfl
            · skip
              have c28 : (kp.getD j (0, 0)).1 ≤ (kp.getD i (0, 0)).2 := Nat.le_of_not_lt (fun z => c28 ((nI_ltI (a := (kp.getD i (0, 0)).2) (b := (kp.getD j (0, 0)).1) (by have := (hkp.2 i (by omega)).2.2; omega) (by have := (hkp.2 j (by omega)).2.2; omega)).mpr z))
              refine And.intro (rfl) (And.intro ?_ (And.intro (Nat.le_refl _) (Nat.le_refl _)))
              rw [show ovl kp = true from ovl_iff.mpr ⟨i, j, c10, Or.inl (by omega), ⟨c19, c28⟩⟩]
              exact And.intro rfl rfl
def j_Dk_codeForR : wq_J := [(.aload_n 0, (0, 0, 0, 0, 0)), (.aload_n 1, (0, 0, 0, 0, 0)), (.invokevirtual 204, (0, 0, 0, 0, 0)), (.ifCond .eq 7, (0, 12, 0, 0, 0)), (.sipush 412, (0, 0, 0, 412, 0)), (.ireturn, (0, 0, 0, 0, 0)), (.aload_n 0, (0, 0, 0, 0, 0)), (.aload_n 1, (0, 0, 0, 0, 0)), (.invokevirtual 208, (0, 0, 0, 0, 0)), (.ifCond .eq 7, (0, 24, 0, 0, 0)), (.sipush 304, (0, 0, 0, 304, 0)), (.ireturn, (0, 0, 0, 0, 0)), (.aload_n 0, (0, 0, 0, 0, 0)), (.getfield 18, (1, 0, 2, 0, 0)), (.getfield 113, (2, 0, 0, 0, 0)), (.ifCond .ne 29, (0, 60, 0, 0, 0)), (.aload_n 0, (0, 0, 0, 0, 0)), (.getfield 46, (1, 0, 7, 0, 0)), (.aload_n 0, (0, 0, 0, 0, 0)), (.getfield 18, (1, 0, 2, 0, 0)), (.aload_n 1, (0, 0, 0, 0, 0)), (.getfield 211, (2, 0, 0, 0, 0)), (.invokevirtual 188, (0, 0, 0, 0, 0)), (.ifCond .eq 11, (0, 60, 0, 0, 0)), (.aload_n 0, (0, 0, 0, 0, 0)), (.aload_n 1, (0, 0, 0, 0, 0)), (.invokevirtual 214, (0, 0, 0, 0, 0)), (.ifCond .ne 7, (0, 64, 0, 0, 0)), (.sipush 200, (0, 0, 0, 200, 0)), (.ireturn, (0, 0, 0, 0, 0)), (.aload_n 0, (0, 0, 0, 0, 0)), (.getfield 46, (1, 0, 7, 0, 0)), (.getfield 217, (1, 5, 7, 0, 0)), (.iconst 4, (0, 0, 0, 4, 0)), (.if_icmp .gt 13, (0, 85, 0, 0, 0)), (.aload_n 0, (0, 0, 0, 0, 0)), (.getfield 46, (1, 0, 7, 0, 0)), (.invokevirtual 220, (0, 0, 0, 0, 0)), (.ifCond .eq 7, (0, 89, 0, 0, 0)), (.sipush 200, (0, 0, 0, 200, 0)), (.ireturn, (0, 0, 0, 0, 0)), (.aload_n 0, (0, 0, 0, 0, 0)), (.getfield 46, (1, 0, 7, 0, 0)), (.getfield 224, (1, 5, 8, 0, 0)), (.ifCond .ne 9, (0, 105, 0, 0, 0)), (.sipush 416, (0, 0, 0, 416, 0)), (.goto 6, (0, 108, 0, 0, 0)), (.sipush 206, (0, 0, 0, 206, 0)), (.ireturn, (0, 0, 0, 0, 0))]
theorem jc_Dk_codeForR : wq_c b_Dk_codeFor 2 j_Dk_codeForR 0 = true := by decide +kernel
set_option maxRecDepth 100000 in
set_option maxHeartbeats 4000000 in
theorem c_Dk_codeFor (l : Launch) (D : va_G) (tys : List (ClassId × FieldType)) (tc : Nat → ClassId) (hty : ∀ i : Nat, i < 4 → tys[i]? = some (tc i, vx_ty i)) (b ro : Nat → Nat) (cn : Int32) (tx : Nat → List Nat) (hx : ∀ G, G < 8 → isT (tx G)) (K : Nat → Nat) (me : Int32) (a9 num : Nat) (r9 : Rp) (hr9 : rpOk r9) (ly : Nat) (hly : ly < 10000) (u3 u4 : RSt) (ho3 : okR b ro 2 u3.1) (ho4 : okR b ro 3 u4.1) (u5 : RSt) (kp : List (Nat × Nat)) (g1 g2 : Nat → Int32) (ho5 : okR b ro 4 u5.1) (hkp : kpA g1 g2 kp) : Kt l y_Dk_codeFor (yw y_Dk_codeFor b_Dk_codeFor 2 (some .int)) 9 196 0 0 D cls tys (fun A U H => qF b ro tx K me A U H ∧ rpF a9 num K r9 A U H) [.ref (b 0), .ref a9] ([dkC b cn] ++ tgW tc b u3 ++ daW tc b ly u4 ++ rnW tc b u5 kp g1 g2) (fun r w => r = some (.int (nI (if 0 < (cnS ly tx r9) then (cnS ly tx r9) else (rgS ly me tx r9).1))) ∧ ∃ t3 t4 t5 kp2 k1 k2, w = ([dkC b cn] ++ tgW tc b t3 ++ daW tc b ly t4 ++ rnW tc b t5 kp2 k1 k2) ∧ okR b ro 2 t3.1 ∧ okR b ro 3 t4.1 ∧ okR b ro 4 t5.1 ∧ kpA k1 k2 kp2 ∧ ((if 0 < (cnS ly tx r9) then (cnS ly tx r9) else (rgS ly me tx r9).1) = 206 → kp2 = (if 0 < (cnS ly tx r9) then [] else (rgS ly me tx r9).2))) := by
  refine Kt.of (ro_and (qF_ro b ro tx K me) (rpF_ro a9 num K r9)) (by decide) rfl hty (Nat.le_of_ble_eq_true rfl) ?_
  intro p e s m args below meth c0 A hC hr hlk hnm hF
  have hFt : vx_Ft y_Dk_codeFor.cls (yw y_Dk_codeFor b_Dk_codeFor 2 (some .int)) cls cty ft_Dk := ft_of (fun w h => List.mem_cons_of_mem _ h) fl_Dk_in ft_Dk_b
  have hini : false = true → meth.name = "<init>" := fun h => by cases h
  refine vx_go hC hFt hini (vx_ends hC hr hlk) jc_Dk_codeForR 0 (by decide) rfl ?_
  refine dx_call (wr := rnW tc b u5 kp g1 g2) (wc := ([dkC b cn] ++ tgW tc b u3 ++ daW tc b ly u4)) hC (c_Dk_isRefused l D tys tc hty b ro cn tx hx K me a9 num r9 hr9 ly hly u3 u4 ho3 ho4) hF (cw_V wm_Dk_isRefused wl_Dk_204 wi_Dk_isRefused ws_Dk_Dk_isRefused hC.2.2.2.2.1 ⟨by decide, by decide⟩) [0, 1, 2, 3, 4] [5, 6, 7, 8] rfl rfl rfl rfl (by decide) rfl rfl rfl rfl rfl (Nat.le_of_ble_eq_true rfl) ⟨by decide, by decide⟩ (fun r' w' hp => ?_)
  obtain ⟨rfl, q3, q4, rfl, hq3, hq4⟩ := hp
  refine ⟨[4, 5, 6, 7, 8, 0, 1, 2, 3], [dkC b cn] ++ tgW tc b q3 ++ daW tc b ly q4 ++ rnW tc b u5 kp g1 g2, rfl, rfl, ?_⟩
  refine And.intro (fun c3 => ?_) (fun c3 => ?_)
  · skip
    have c3 : rfS ly tx r9 = false := bI_eq c3
    refine vx_go hC hFt hini (vx_ends hC hr hlk) jc_Dk_codeForR 6 (by decide) rfl ?_
    refine dx_call (wr := rnW tc b u5 kp g1 g2) (wc := ([dkC b cn] ++ tgW tc b q3 ++ daW tc b ly q4)) hC (c_Dk_isUnchanged l D tys tc hty b ro cn tx hx K me a9 num r9 hr9 ly hly q3 q4 hq3 hq4) hF (cw_V wm_Dk_isUnchanged wl_Dk_208 wi_Dk_isUnchanged ws_Dk_Dk_isUnchanged hC.2.2.2.2.1 ⟨by decide, by decide⟩) [0, 1, 2, 3, 4] [5, 6, 7, 8] rfl rfl rfl rfl (by decide) rfl rfl rfl rfl rfl (Nat.le_of_ble_eq_true rfl) ⟨by decide, by decide⟩ (fun r' w' hp => ?_)
    obtain ⟨rfl, q5, q6, rfl, hq5, hq6⟩ := hp
    refine ⟨[4, 5, 6, 7, 8, 0, 1, 2, 3], [dkC b cn] ++ tgW tc b q5 ++ daW tc b ly q6 ++ rnW tc b u5 kp g1 g2, rfl, rfl, ?_⟩
    refine And.intro (fun c9 => ?_) (fun c9 => ?_)
    · skip
      have c9 : unS ly tx r9 = false := bI_eq c9
      refine vx_go hC hFt hini (vx_ends hC hr hlk) jc_Dk_codeForR 12 (by decide) rfl ?_
      refine And.intro rfl ?_
      refine ⟨_, ⟨"OriginDesk$Request", "method", "I", "OriginDesk$Request", hF.1.2.2.1, Or.inl (hC.2.2.2.2.1 _ (List.mem_cons_of_mem _ wf_Dk_113)), fun _ z => z⟩, ?_⟩
      refine And.intro (fun c15 => ?_) (fun c15 => ?_)
      · skip
        have c15 : ¬ me = 0 := c15
        refine vx_go hC hFt hini (vx_ends hC hr hlk) jc_Dk_codeForR 28 (by decide) rfl ?_
        refine And.intro (trivial) (And.intro ?_ (And.intro (Nat.le_refl _) (Nat.le_refl _)))
        have h0 : (cnS ly tx r9) = 0 := by
          unfold cnS
          rw [if_neg (by rw [c3]; exact fun z => by cases z), if_neg (by rw [c9]; exact fun z => by cases z)]
        have hrg : (rgS ly me tx r9) = (200, []) := by
          unfold rgS
          rw [if_pos c15]
        have hcd : (if 0 < (cnS ly tx r9) then (cnS ly tx r9) else (rgS ly me tx r9).1) = 200 := by rw [h0, hrg]; rfl
        rw [hcd]
        exact ⟨rfl, q5, q6, u5, kp, g1, g2, rfl, hq5, hq6, ho5, hkp, fun z => absurd z (by decide)⟩
      · skip
        have c15 : me = 0 := c15
        refine And.intro rfl ?_
        refine And.intro rfl ?_
        refine ⟨_, ⟨"OriginDesk$Representation", "size", "I", "OriginDesk$Representation", hF.2.1.2.2, Or.inl (hC.2.2.2.2.1 _ (List.mem_cons_of_mem _ wf_Dk_211)), fun _ z => z⟩, ?_⟩
        refine dx_call (wr := ([dkC b cn] ++ tgW tc b q5 ++ daW tc b ly q6)) (wc := rnW tc b u5 kp g1 g2) hC (c_Ra_read l D tys tc hty (b 7) u5.1 (b 17) (b 18) (b 19) (u5.2.2.1 0) (u5.2.2.1 1) u5.2.2.2 u5.2.1 (b 2) ro tx hx K (u5.2.2.1 2) (nI kp.length) g1 g2 r9.2.2.1 hr9.2.2.1) ⟨hF.1.1, qR hF.1 (i := 4) (by decide) ho5, hF.1.2.1.1⟩ (cw_V wm_Ra_read wl_Dk_188 wi_Ra_read ws_Ra_Ra_read hC.2.2.2.2.1 ⟨by decide, by decide⟩) [5, 6, 7, 8] [0, 1, 2, 3, 4] rfl rfl rfl rfl (by decide) rfl rfl rfl rfl rfl (Nat.le_of_ble_eq_true rfl) ⟨by decide, by decide⟩ (fun r' w' hp => ?_)
        obtain ⟨rfl, rc2, w1, w2, sc2, sf2, sp2, kp2, k1, k2, rfl, hok5, hkp2, hv5⟩ := hp
        refine ⟨[0, 1, 2, 3, 4, 5, 6, 7, 8], [dkC b cn] ++ tgW tc b q5 ++ daW tc b ly q6 ++ rnW tc b (rc2, sc2, zf [w1, w2, sp2], sf2) kp2 k1 k2, rfl, rfl, ?_⟩
        refine And.intro (fun c23 => ?_) (fun c23 => ?_)
        · skip
          have c23 : rngL (tx 7) = none := isN c23
          refine vx_go hC hFt hini (vx_ends hC hr hlk) jc_Dk_codeForR 28 (by decide) rfl ?_
          refine And.intro (trivial) (And.intro ?_ (And.intro (Nat.le_refl _) (Nat.le_refl _)))
          have h0 : (cnS ly tx r9) = 0 := by
            unfold cnS
            rw [if_neg (by rw [c3]; exact fun z => by cases z), if_neg (by rw [c9]; exact fun z => by cases z)]
          have hrg : (rgS ly me tx r9) = (200, []) := by
            unfold rgS
            rw [if_neg (fun z => z c15), c23]
            split <;> rfl
          have hcd : (if 0 < (cnS ly tx r9) then (cnS ly tx r9) else (rgS ly me tx r9).1) = 200 := by rw [h0, hrg]; rfl
          rw [hcd]
          exact ⟨rfl, q5, q6, (rc2, sc2, zf [w1, w2, sp2], sf2), kp2, k1, k2, rfl, hq5, hq6, okN ho5 hok5 (by decide), hkp2, fun z => absurd z (by decide)⟩
        · skip
          obtain ⟨A9, c23⟩ := isS (show ¬ bI (rngL (tx 7)).isSome = 0 from c23)
          obtain ⟨hs9, hl9, hk9⟩ := hv5 A9 c23
          refine dx_call (wr := rnW tc b (rc2, sc2, zf [w1, w2, sp2], sf2) kp2 k1 k2) (wc := ([dkC b cn] ++ tgW tc b q5 ++ daW tc b ly q6)) hC (c_Dk_isRangeWanted l D tys tc hty b ro cn tx hx K me a9 num r9 hr9 ly hly q5 q6 hq5 hq6) hF (cw_V wm_Dk_isRangeWanted wl_Dk_214 wi_Dk_isRangeWanted ws_Dk_Dk_isRangeWanted hC.2.2.2.2.1 ⟨by decide, by decide⟩) [0, 1, 2, 3, 4] [5, 6, 7, 8] rfl rfl rfl rfl (by decide) rfl rfl rfl rfl rfl (Nat.le_of_ble_eq_true rfl) ⟨by decide, by decide⟩ (fun r' w' hp => ?_)
          obtain ⟨rfl, q7, q8, rfl, hq7, hq8⟩ := hp
          refine ⟨[4, 5, 6, 7, 8, 0, 1, 2, 3], [dkC b cn] ++ tgW tc b q7 ++ daW tc b ly q8 ++ rnW tc b (rc2, sc2, zf [w1, w2, sp2], sf2) kp2 k1 k2, rfl, rfl, ?_⟩
          refine And.intro (fun c27 => ?_) (fun c27 => ?_)
          · skip
            have c27 : irS ly (tagL r9.2.2.2.1) r9.2.2.2.2.1 r9.2.2.2.2.2 (tx 6) = true := bI_ne c27
            refine vx_go hC hFt hini (vx_ends hC hr hlk) jc_Dk_codeForR 30 (by decide) rfl ?_
            refine And.intro rfl ?_
            refine And.intro rfl ?_
            refine And.intro (fun c34 => ?_) (fun c34 => ?_)
            · skip
              have c34 : 4 < A9.length := by
                have z9 : nI 4 < sp2 := c34
                rw [hs9] at z9
                exact (nI_ltI (a := 4) (by decide) (by omega)).mp z9
              refine vx_go hC hFt hini (vx_ends hC hr hlk) jc_Dk_codeForR 39 (by decide) rfl ?_
              refine And.intro (trivial) (And.intro ?_ (And.intro (Nat.le_refl _) (Nat.le_refl _)))
              have h0 : (cnS ly tx r9) = 0 := by
                unfold cnS
                rw [if_neg (by rw [c3]; exact fun z => by cases z), if_neg (by rw [c9]; exact fun z => by cases z)]
              have hrg : (rgS ly me tx r9) = (200, []) := by
                unfold rgS
                rw [if_neg (fun z => z c15), if_neg (by rw [c27]; exact fun z => by cases z), c23]
                exact if_pos c34
              have hcd : (if 0 < (cnS ly tx r9) then (cnS ly tx r9) else (rgS ly me tx r9).1) = 200 := by rw [h0, hrg]; rfl
              rw [hcd]
              exact ⟨rfl, q7, q8, (rc2, sc2, zf [w1, w2, sp2], sf2), kp2, k1, k2, rfl, hq7, hq8, okN ho5 hok5 (by decide), hkp2, fun z => absurd z (by decide)⟩
            · skip
              have c34 : ¬ 4 < A9.length := fun z => c34 (show nI 4 < sp2 by rw [hs9]; exact (nI_ltI (a := 4) (by decide) (by omega)).mpr z)
              have hk9 : kp2 = A9.filterMap (rsv r9.2.2.1) := by
                rw [hk9]
                exact List.take_of_length_le (by have := List.length_filterMap_le (rsv r9.2.2.1) A9; omega)
              refine And.intro rfl ?_
              refine dx_call (wr := ([dkC b cn] ++ tgW tc b q7 ++ daW tc b ly q8)) (wc := rnW tc b (rc2, sc2, zf [w1, w2, sp2], sf2) kp2 k1 k2) hC (c_Ra_overlap2 l D tys tc hty (b 7) rc2 (b 17) (b 18) (b 19) w1 w2 sf2 sc2 sp2 kp2 k1 k2 hkp2) trivial (cw_V wm_Ra_overlap wl_Dk_220 wi_Ra_overlap ws_Ra_Ra_overlap hC.2.2.2.2.1 ⟨by decide, by decide⟩) [5, 6, 7, 8] [0, 1, 2, 3, 4] rfl rfl rfl rfl (by decide) rfl rfl rfl rfl rfl (Nat.le_of_ble_eq_true rfl) ⟨by decide, by decide⟩ (fun r' w' hp => ?_)
              obtain ⟨rfl, rfl⟩ := hp
              refine ⟨[0, 1, 2, 3, 4, 5, 6, 7, 8], [dkC b cn] ++ tgW tc b q7 ++ daW tc b ly q8 ++ rnW tc b (rc2, sc2, zf [w1, w2, sp2], sf2) kp2 k1 k2, rfl, rfl, ?_⟩
              refine And.intro (fun c38 => ?_) (fun c38 => ?_)
              · skip
                have c38 : ovl kp2 = false := bI_eq c38
                refine vx_go hC hFt hini (vx_ends hC hr hlk) jc_Dk_codeForR 41 (by decide) rfl ?_
                refine And.intro rfl ?_
                refine And.intro rfl ?_
                refine And.intro (fun c44 => ?_) (fun c44 => ?_)
                · skip
                  have c44 : ¬ kp2 = [] := fun z => c44 (by rw [z]; rfl)
                  refine vx_go hC hFt hini (vx_ends hC hr hlk) jc_Dk_codeForR 47 (by decide) rfl ?_
                  refine And.intro (trivial) (And.intro ?_ (And.intro (Nat.le_refl _) (Nat.le_refl _)))
                  have h0 : (cnS ly tx r9) = 0 := by
                    unfold cnS
                    rw [if_neg (by rw [c3]; exact fun z => by cases z), if_neg (by rw [c9]; exact fun z => by cases z)]
                  have hrg : (rgS ly me tx r9) = (206, kp2) := by
                    unfold rgS
                    rw [if_neg (fun z => z c15), if_neg (by rw [c27]; exact fun z => by cases z), c23]
                    show (if 4 < A9.length then _ else _) = _
                    rw [if_neg c34, ← hk9]
                    rw [if_neg (by rw [c38]; exact fun z => by cases z)]
                    exact if_neg c44
                  have hcd : (if 0 < (cnS ly tx r9) then (cnS ly tx r9) else (rgS ly me tx r9).1) = 206 := by rw [h0, hrg]; rfl
                  rw [hcd]
                  exact ⟨rfl, q7, q8, (rc2, sc2, zf [w1, w2, sp2], sf2), kp2, k1, k2, rfl, hq7, hq8, okN ho5 hok5 (by decide), hkp2, fun _ => by rw [h0, hrg]; rfl⟩
                · skip
                  have c44 : kp2 = [] := List.eq_nil_of_length_eq_zero ((nI_eq (b := 0) (by have := hkp2.1; omega) (by omega)).mp c44)
                  refine vx_go hC hFt hini (vx_ends hC hr hlk) jc_Dk_codeForR 48 (by decide) rfl ?_
                  refine And.intro (trivial) (And.intro ?_ (And.intro (Nat.le_refl _) (Nat.le_refl _)))
                  have h0 : (cnS ly tx r9) = 0 := by
                    unfold cnS
                    rw [if_neg (by rw [c3]; exact fun z => by cases z), if_neg (by rw [c9]; exact fun z => by cases z)]
                  have hrg : (rgS ly me tx r9) = (416, []) := by
                    unfold rgS
                    rw [if_neg (fun z => z c15), if_neg (by rw [c27]; exact fun z => by cases z), c23]
                    show (if 4 < A9.length then _ else _) = _
                    rw [if_neg c34, ← hk9]
                    rw [if_neg (by rw [c38]; exact fun z => by cases z)]
                    exact if_pos c44
                  have hcd : (if 0 < (cnS ly tx r9) then (cnS ly tx r9) else (rgS ly me tx r9).1) = 416 := by rw [h0, hrg]; rfl
                  rw [hcd]
                  exact ⟨rfl, q7, q8, (rc2, sc2, zf [w1, w2, sp2], sf2), kp2, k1, k2, rfl, hq7, hq8, okN ho5 hok5 (by decide), hkp2, fun z => absurd z (by decide)⟩
              · skip
                have c38 : ovl kp2 = true := bI_ne c38
                refine And.intro (trivial) (And.intro ?_ (And.intro (Nat.le_refl _) (Nat.le_refl _)))
                have h0 : (cnS ly tx r9) = 0 := by
                  unfold cnS
                  rw [if_neg (by rw [c3]; exact fun z => by cases z), if_neg (by rw [c9]; exact fun z => by cases z)]
                have hrg : (rgS ly me tx r9) = (200, []) := by
                  unfold rgS
                  rw [if_neg (fun z => z c15), if_neg (by rw [c27]; exact fun z => by cases z), c23]
                  show (if 4 < A9.length then _ else _) = _
                  rw [if_neg c34, ← hk9]
                  exact if_pos c38
                have hcd : (if 0 < (cnS ly tx r9) then (cnS ly tx r9) else (rgS ly me tx r9).1) = 200 := by rw [h0, hrg]; rfl
                rw [hcd]
                exact ⟨rfl, q7, q8, (rc2, sc2, zf [w1, w2, sp2], sf2), kp2, k1, k2, rfl, hq7, hq8, okN ho5 hok5 (by decide), hkp2, fun z => absurd z (by decide)⟩
          · skip
            have c27 : irS ly (tagL r9.2.2.2.1) r9.2.2.2.2.1 r9.2.2.2.2.2 (tx 6) = false := bI_eq c27
            refine And.intro (trivial) (And.intro ?_ (And.intro (Nat.le_refl _) (Nat.le_refl _)))
            have h0 : (cnS ly tx r9) = 0 := by
              unfold cnS
              rw [if_neg (by rw [c3]; exact fun z => by cases z), if_neg (by rw [c9]; exact fun z => by cases z)]
            have hrg : (rgS ly me tx r9) = (200, []) := by
              unfold rgS
              rw [if_neg (fun z => z c15), if_pos c27]
            have hcd : (if 0 < (cnS ly tx r9) then (cnS ly tx r9) else (rgS ly me tx r9).1) = 200 := by rw [h0, hrg]; rfl
            rw [hcd]
            exact ⟨rfl, q7, q8, (rc2, sc2, zf [w1, w2, sp2], sf2), kp2, k1, k2, rfl, hq7, hq8, okN ho5 hok5 (by decide), hkp2, fun z => absurd z (by decide)⟩
    · skip
      have c9 : unS ly tx r9 = true := bI_ne c9
      refine And.intro (trivial) (And.intro ?_ (And.intro (Nat.le_refl _) (Nat.le_refl _)))
      have h0 : (cnS ly tx r9) = 304 := by
        unfold cnS
        rw [if_neg (by rw [c3]; exact fun z => by cases z), if_pos c9]
      have hcd : (if 0 < (cnS ly tx r9) then (cnS ly tx r9) else (rgS ly me tx r9).1) = 304 := by rw [h0]; rfl
      rw [hcd]
      exact ⟨rfl, q5, q6, u5, kp, g1, g2, rfl, hq5, hq6, ho5, hkp, fun z => absurd z (by decide)⟩
  · skip
    have c3 : rfS ly tx r9 = true := bI_ne c3
    refine And.intro (trivial) (And.intro ?_ (And.intro (Nat.le_refl _) (Nat.le_refl _)))
    have h0 : (cnS ly tx r9) = 412 := if_pos c3
    have hcd : (if 0 < (cnS ly tx r9) then (cnS ly tx r9) else (rgS ly me tx r9).1) = 412 := by rw [h0]; rfl
    rw [hcd]
    exact ⟨rfl, q3, q4, u5, kp, g1, g2, rfl, hq3, hq4, ho5, hkp, fun z => absurd z (by decide)⟩
set_option maxRecDepth 100000 in
set_option maxHeartbeats 4000000 in
theorem c_Dk_choose (l : Launch) (D : va_G) (tys : List (ClassId × FieldType)) (tc : Nat → ClassId) (hty : ∀ i : Nat, i < 4 → tys[i]? = some (tc i, vx_ty i)) (b ro : Nat → Nat) (tx : Nat → List Nat) (hx : ∀ G, G < 8 → isT (tx G)) (K : Nat → Nat) (me : Int32) (sa : Nat → Nat) (rp : List Rp) (hrp : rpsOk rp) (u1 u2 : RSt) (ho1 : okR b ro 0 u1.1) (ho2 : okR b ro 1 u2.1) : Kt l y_Dk_choose (yw y_Dk_choose b_Dk_choose 6 (Option.some (Jvm.ClassFile.FieldType.object "OriginDesk$Representation"))) 9 197 0 0 D cls tys (fun A U H => qF b ro tx K me A U H ∧ shF b sa rp K A U H) [.ref (b 0)] ([dkC b (nI rp.length)] ++ acW tc b u1 ++ laW tc b u2) (fun r w => r = some (va_rf ((chS tx rp).map sa)) ∧ ∃ q1 q2, w = ([dkC b (nI rp.length)] ++ acW tc b q1 ++ laW tc b q2) ∧ okR b ro 0 q1.1 ∧ okR b ro 1 q2.1) := by
  refine Kt.of (ro_and (qF_ro b ro tx K me) (shF_ro b sa rp K)) (by decide) rfl hty (Nat.le_of_ble_eq_true rfl) ?_
  intro p e s m args below meth c0 A hC hr hlk hnm hF
  have hFt : vx_Ft y_Dk_choose.cls (yw y_Dk_choose b_Dk_choose 6 (Option.some (Jvm.ClassFile.FieldType.object "OriginDesk$Representation"))) cls cty ft_Dk := ft_of (fun w h => List.mem_cons_of_mem _ h) fl_Dk_in ft_Dk_b
  have hini : false = true → meth.name = "<init>" := fun h => by cases h
  have hr4 := hrp.1
  obtain ⟨sv, hse, hsv, hrf⟩ := hF.2
  refine vx_gon hC hFt hini (vx_ends hC hr hlk) jc_Dk_choose 0 6 (by decide) rfl ?_
  refine Vx.subL (lv' := [(0, .ref (b 0)), (1, va_rf ((none : Option Nat).map sa)), (2, .int ((0 : Int32))), (3, .int (nI 0))]) [3, 2, 1, 0] rfl ?_
  obtain ⟨k, hk0⟩ : ∃ k : Nat, k = 0 := ⟨_, rfl⟩
  obtain ⟨bo, hb0⟩ : ∃ bo : Option Nat, bo = none := ⟨_, rfl⟩
  obtain ⟨q, hq0⟩ : ∃ q : Int32, q = 0 := ⟨_, rfl⟩
  refine Vx.eqs rfl (lv2 := [(0, .ref (b 0)), (1, va_rf (bo.map sa)), (2, .int (q)), (3, .int (nI k))]) (by rw [hk0, hb0, hq0]) rfl rfl ?_
  have hinv : chz ((rp.drop k).map fun r => nI (scS tx r)) k bo q = chS tx rp := by rw [hk0, hb0, hq0]; rfl
  have hkl : k ≤ rp.length := by omega
  clear hk0 hb0 hq0
  induction hn : rp.length - k using Nat.strongRecOn generalizing k bo q u1 u2 with
  | _ m9 ih =>
    refine vx_gon hC hFt hini (vx_ends hC hr hlk) jc_Dk_choose 6 26 (by decide) rfl ?_
    refine And.intro rfl ?_
    refine And.intro (fun c9 => ?_) (fun c9 => ?_)
    · skip
      have c9 : rp.length ≤ k := (nI_leI (by omega) (by omega)).mp c9
      rw [List.drop_eq_nil_iff.mpr c9] at hinv
      have hinv : bo = chS tx rp := hinv
      rw [← hinv]
      refine Vx.subL (lv' := [(0, .ref (b 0)), (1, va_rf (bo.map sa)), (2, .int (q)), (3, .int (nI k))]) [0, 1, 2, 3] rfl ?_
      cases bo with
      | none =>
        refine vx_go hC hFt hini (vx_ends hC hr hlk) jc_Dk_choose 32 (by decide) rfl ?_
        refine And.intro (trivial) (And.intro ?_ (And.intro (Nat.le_refl _) (Nat.le_refl _)))
        exact ⟨rfl, u1, u2, rfl, ho1, ho2⟩
      | some i9 =>
        refine vx_go hC hFt hini (vx_ends hC hr hlk) jc_Dk_choose 32 (by decide) rfl ?_
        refine And.intro (trivial) (And.intro ?_ (And.intro (Nat.le_refl _) (Nat.le_refl _)))
        exact ⟨rfl, u1, u2, rfl, ho1, ho2⟩
    · skip
      have c9 : ¬ rp.length ≤ k := fun z => c9 ((nI_leI (by omega) (by omega)).mpr z)
      refine And.intro rfl ?_
      refine sx_aaT hC hsv rfl (vp_in_nI (show k < 4 by omega) (by decide)) (v := .ref (sa k)) (by rw [nI_clamp (show k < 2 ^ 31 by omega), hse k (by omega)]; rfl) ?_
      refine vx_gon hC hFt hini (vx_ends hC hr hlk) jc_Dk_choose 19 13 (by decide) rfl ?_
      refine dx_call (wr := []) (wc := ([dkC b (nI rp.length)] ++ acW tc b u1 ++ laW tc b u2)) hC (c_Dk_scoreOf l D tys tc hty b ro (nI rp.length) tx hx K me (sa k) k (rp.getD k (0, 0, 0, 0, false, 0)) (rps_get hrp (by omega)) u1 u2 ho1 ho2) ⟨hF.1, hrf k (by omega)⟩ (cw_V wm_Dk_scoreOf wl_Dk_151 wi_Dk_scoreOf ws_Dk_Dk_scoreOf hC.2.2.2.2.1 ⟨by decide, by decide⟩) [0, 1, 2, 3, 4] [] rfl rfl rfl rfl (by decide) rfl rfl rfl rfl rfl (Nat.le_of_ble_eq_true rfl) ⟨by decide, by decide⟩ (fun r' w' hp => ?_)
      obtain ⟨rfl, q1, q2, rfl, hq1, hq2⟩ := hp
      refine ⟨[0, 1, 2, 3, 4], ([dkC b (nI rp.length)] ++ acW tc b q1 ++ laW tc b q2), rfl, rfl, ?_⟩
      refine And.intro (fun c25 => ?_) (fun c25 => ?_)
      · skip
        have c25 : ¬ q < nI (scS tx (rp.getD k (0, 0, 0, 0, false, 0))) := Int32.not_lt.mpr c25
        refine vx_gon hC hFt hini (vx_ends hC hr hlk) jc_Dk_choose 30 2 (by decide) rfl ?_
        refine Vx.subL (lv' := [(0, .ref (b 0)), (1, va_rf (bo.map sa)), (2, .int (q)), (3, .int (nI k + 1))]) [3, 4, 5, 0] rfl ?_
        rw [nI_1]
        rw [chz_drop (by omega), if_neg c25] at hinv
        exact ih (rp.length - (k + 1)) (by omega) q1 q2 hq1 hq2 (k + 1) bo q hinv (by omega) rfl
      · skip
        have c25 : q < nI (scS tx (rp.getD k (0, 0, 0, 0, false, 0))) := Int32.not_le.mp c25
        refine Vx.subL (lv' := [(0, .ref (b 0)), (1, va_rf ((some k).map sa)), (2, .int ((nI (scS tx (rp.getD k (0, 0, 0, 0, false, 0)))))), (3, .int (nI k + 1))]) [5, 2, 1, 0] rfl ?_
        rw [nI_1]
        rw [chz_drop (by omega), if_pos c25] at hinv
        exact ih (rp.length - (k + 1)) (by omega) q1 q2 hq1 hq2 (k + 1) (some k) (nI (scS tx (rp.getD k (0, 0, 0, 0, false, 0)))) hinv (by omega) rfl
