/-! THE CLASS: representations; the response's parts and headings, by program (wip/whole/gen/p81.py) -/
/-- a representation, only read: number and size; all of it -/
def spF (a num sz : Nat) : (Nat → Prop) → State → Heap → Prop := fun A U H => va_O "OriginDesk$Representation" a A U H ∧ va_OF "OriginDesk$Representation" "number" "I" (.int (nI num)) a A U H ∧ va_OF "OriginDesk$Representation" "size" "I" (.int (nI sz)) a A U H
theorem spF_ro (a num sz : Nat) : RO (spF a num sz) := ⟨fun _ _ _ _ ha h => ⟨h.1.moved ha.alike, h.2.1.moved ha.alike, h.2.2.moved ha.alike⟩, fun _ _ _ _ hq h => ⟨h.1.kept hq, h.2.1.kept hq, h.2.2.kept hq⟩, fun _ _ _ _ hq h => ⟨h.1.narrow hq, h.2.1.narrow hq, h.2.2.narrow hq⟩⟩
def rpF (a num : Nat) (K : Nat → Nat) (r : Rp) : (Nat → Prop) → State → Heap → Prop := fun A U H => spF a num r.2.2.1 A U H ∧ va_OF "OriginDesk$Representation" "type" "LOriginDesk$MediaType;" (.ref (K (100 + r.1))) a A U H ∧ va_OF "OriginDesk$Representation" "language" "LOriginDesk$Language;" (.ref (K (200 + r.2.1))) a A U H ∧ (∃ t, va_OF "OriginDesk$Representation" "tagText" "Ljava/lang/String;" (.ref t) a A U H ∧ strF t (tagL r.2.2.2.1) A U H) ∧ va_OF "OriginDesk$Representation" "weak" "Z" (.int (bI r.2.2.2.2.1)) a A U H ∧ va_OF "OriginDesk$Representation" "change" "J" (.long (lN r.2.2.2.2.2)) a A U H
theorem rpF_ro (a num : Nat) (K : Nat → Nat) (r : Rp) : RO (rpF a num K r) := by
  refine ⟨fun A u U H ha h => ?_, fun A U H H1 hq h => ?_, fun A B U H hAB h => ?_⟩
  · obtain ⟨h1, h2, h3, ⟨t, h4, h5⟩, h6, h7⟩ := h
    exact ⟨(spF_ro _ _ _).1 _ _ _ _ ha h1, h2.moved ha.alike, h3.moved ha.alike, ⟨t, h4.moved ha.alike, (strF_ro _ _).1 _ _ _ _ ha h5⟩, h6.moved ha.alike, h7.moved ha.alike⟩
  · obtain ⟨h1, h2, h3, ⟨t, h4, h5⟩, h6, h7⟩ := h
    exact ⟨(spF_ro _ _ _).2.1 _ _ _ _ hq h1, h2.kept hq, h3.kept hq, ⟨t, h4.kept hq, (strF_ro _ _).2.1 _ _ _ _ hq h5⟩, h6.kept hq, h7.kept hq⟩
  · obtain ⟨h1, h2, h3, ⟨t, h4, h5⟩, h6, h7⟩ := h
    exact ⟨(spF_ro _ _ _).2.2 _ _ _ _ hAB h1, h2.narrow hAB, h3.narrow hAB, ⟨t, h4.narrow hAB, (strF_ro _ _).2.2 _ _ _ _ hAB h5⟩, h6.narrow hAB, h7.narrow hAB⟩
theorem bt_nI {j num : Nat} (hj : j < 1000000) (hn : num < 4) : (7 * nI j + 13 * nI num + 1) - (7 * nI j + 13 * nI num + 1) / 251 * 251 = nI (bt num j) := by
  rw [show (7 : Int32) * nI j = nI (7 * j) from pk_mul 7 j, show (13 : Int32) * nI num = nI (13 * num) from pk_mul 13 num, nI_add, nI_1]
  exact pk_rem (d := 251) (by omega) (by decide) (by decide)
def j_Rp_byteAtR : wq_J := [(.bipush 7, (0, 0, 0, 7, 0)), (.iload_n 1, (0, 0, 0, 0, 0)), (.imul, (0, 0, 0, 0, 0)), (.bipush 13, (0, 0, 0, 13, 0)), (.aload_n 0, (0, 0, 0, 0, 0)), (.getfield 7, (2, 0, 0, 0, 0)), (.imul, (0, 0, 0, 0, 0)), (.iadd, (0, 0, 0, 0, 0)), (.iconst 1, (0, 0, 0, 1, 0)), (.iadd, (0, 0, 0, 0, 0)), (.sipush 251, (0, 0, 0, 251, 0)), (.irem, (0, 0, 0, 0, 0)), (.ireturn, (0, 0, 0, 0, 0))]
theorem jc_Rp_byteAtR : wq_c b_Rp_byteAt 2 j_Rp_byteAtR 0 = true := by decide +kernel
set_option maxRecDepth 100000 in
set_option maxHeartbeats 4000000 in
theorem c_Rp_byteAt (l : Launch) (D : va_G) (tys : List (ClassId × FieldType)) (tc : Nat → ClassId) (hty : ∀ i : Nat, i < 4 → tys[i]? = some (tc i, vx_ty i)) (a num sz j : Nat) (hj : j < 1000000) (hn : num < 4) : Kt l y_Rp_byteAt (yw y_Rp_byteAt b_Rp_byteAt 2 (some .int)) 0 0 0 0 D cls tys (spF a num sz) [.ref a, .int (nI j)] [] (fun r w => r = some (.int (nI (bt num j))) ∧ w = []) := by
  refine Kt.of (spF_ro a num sz) (by decide) rfl hty (Nat.le_of_ble_eq_true rfl) ?_
  intro p e s m args below meth c0 A hC hr hlk hnm hF
  have hFt : vx_Ft y_Rp_byteAt.cls (yw y_Rp_byteAt b_Rp_byteAt 2 (some .int)) cls cty [] := (fun q h => by cases h)
  have hini : false = true → meth.name = "<init>" := fun h => by cases h
  refine vx_go hC hFt hini (vx_ends hC hr hlk) jc_Rp_byteAtR 0 (by decide) rfl ?_
  refine ⟨_, ⟨"OriginDesk$Representation", "number", "I", "OriginDesk$Representation", hF.2.1, Or.inl (hC.2.2.2.2.1 _ (List.mem_cons_of_mem _ wf_Rp_7)), fun _ z => z⟩, ?_⟩
  refine And.intro (by decide) ?_
  refine And.intro (trivial) (And.intro ?_ (And.intro (Nat.le_refl _) (Nat.le_refl _)))
  refine And.intro ?_ rfl
  rw [bt_nI hj hn]
/-- the response's cells -/
def rsW (tc : Nat → ClassId) (h fa la hb : Nat) (cd : Int32) (sj : Value) (bs pc bl : Int32) (f1 f2 : Nat → Int32) : va_W := [(h, .inr (6, [.int cd, sj, .int bs, .int pc, .ref fa, .ref la, .int bl, .ref hb])), (fa, .inl (tc 0, 4, .inl f1)), (la, .inl (tc 0, 4, .inl f2))]
theorem kp_get {pa : List (Nat × Nat)} {f1 f2 : Nat → Int32} (h : kpA f1 f2 pa) {k : Nat} (hk : k < pa.length) : f1 k = nI (pa.getD k (0, 0)).1 ∧ f2 k = nI (pa.getD k (0, 0)).2 ∧ (pa.getD k (0, 0)).1 ≤ (pa.getD k (0, 0)).2 ∧ (pa.getD k (0, 0)).2 < 100000 := h.2 k hk
theorem ps_nI {u : Nat × Nat} (h : u.1 ≤ u.2) : nI u.2 - nI u.1 + 1 = nI (u.2 - u.1 + 1) := by rw [pk_sub h, nI_1]
def gtF (K : Nat → Nat) : (Nat → Prop) → State → Heap → Prop := fun A U H => gF K A U H ∧ dgF A U H
theorem gtF_ro (K : Nat → Nat) : RO (gtF K) := ro_and (gF_ro K) dgF_ro
theorem gt_cs {K : Nat → Nat} {A : Nat → Prop} {U : State} {H : Heap} (h : gtF K A U H) : csF A U H := (h.1.1 0 _ rfl).2.1
theorem dec6 {n : Nat} (h : n ≤ 100000) : 1 ≤ (dec n).length ∧ (dec n).length ≤ 6 := dec_le (by omega)
theorem hd15_W : isW hd15 := ⟨by decide, by decide⟩
theorem crlf_W : isW [13, 10] := ⟨by decide, by decide⟩
theorem crlf2_W : isW [13, 10, 13, 10] := ⟨by decide, by decide⟩
theorem bhp_W : isW bhp := ⟨by decide, by decide⟩
set_option maxRecDepth 100000 in
set_option maxHeartbeats 4000000 in
theorem c_Rs_hasPart (l : Launch) (D : va_G) (tys : List (ClassId × FieldType)) (tc : Nat → ClassId) (hty : ∀ i : Nat, i < 4 → tys[i]? = some (tc i, vx_ty i)) (h fa la hb : Nat) (cd : Int32) (sj : Value) (bs bl : Int32) (pa : List (Nat × Nat)) (hp4 : pa.length ≤ 4) (i : Int32) : Kt l y_Rs_hasPart (yw y_Rs_hasPart b_Rs_hasPart 2 (some .boolean)) 0 0 0 0 D cls tys (fun _ _ _ => True) [.ref h, .int i] [(h, .inr (6, [.int cd, sj, .int bs, .int (nI pa.length), .ref fa, .ref la, .int bl, .ref hb]))] (fun r w => r = some (.int (bI (decide (¬ i < 0 ∧ ¬ pa.length ≤ i.toNatClampNeg)))) ∧ w = [(h, .inr (6, [.int cd, sj, .int bs, .int (nI pa.length), .ref fa, .ref la, .int bl, .ref hb]))]) := by
  refine Kt.of ro_true (by decide) rfl hty (Nat.le_of_ble_eq_true rfl) ?_
  intro p e s m args below meth c0 A hC hr hlk hnm hF
  have hFt : vx_Ft y_Rs_hasPart.cls (yw y_Rs_hasPart b_Rs_hasPart 2 (some .boolean)) cls cty ft_Rs := ft_of (fun w h => List.mem_cons_of_mem _ h) fl_Rs_in ft_Rs_b
  have hini : false = true → meth.name = "<init>" := fun h => by cases h
  refine vx_go hC hFt hini (vx_ends hC hr hlk) jc_Rs_hasPart 0 (by decide) rfl ?_
  refine And.intro (fun c1 => ?_) (fun c1 => ?_)
  · skip
    refine vx_go hC hFt hini (vx_ends hC hr hlk) jc_Rs_hasPart 11 (by decide) rfl ?_
    refine And.intro (rfl) (And.intro ?_ (And.intro (Nat.le_refl _) (Nat.le_refl _)))
    rw [decide_eq_false (fun z => z.1 c1)]
    exact And.intro rfl rfl
  · skip
    obtain ⟨hi1, hi2⟩ := i_nat c1
    refine And.intro rfl ?_
    refine And.intro (fun c5 => ?_) (fun c5 => ?_)
    · skip
      have c5 : pa.length ≤ i.toNatClampNeg := by rw [hi1] at c5; exact (nI_leI (by omega) hi2).mp c5
      refine vx_go hC hFt hini (vx_ends hC hr hlk) jc_Rs_hasPart 11 (by decide) rfl ?_
      refine And.intro (rfl) (And.intro ?_ (And.intro (Nat.le_refl _) (Nat.le_refl _)))
      rw [decide_eq_false (fun z => z.2 c5)]
      exact And.intro rfl rfl
    · skip
      have c5 : ¬ pa.length ≤ i.toNatClampNeg := fun z => c5 (by rw [hi1]; exact (nI_leI (by omega) hi2).mpr z)
      refine And.intro (fun c8 => ?_) (fun c8 => ?_)
      · skip
        have c8 : 4 ≤ i.toNatClampNeg := by rw [hi1] at c8; exact (nI_leI (a := 4) (by omega) hi2).mp c8
        refine vx_go hC hFt hini (vx_ends hC hr hlk) jc_Rs_hasPart 11 (by decide) rfl ?_
        refine And.intro (rfl) (And.intro ?_ (And.intro (Nat.le_refl _) (Nat.le_refl _)))
        rw [decide_eq_false (fun z => by have := z.2; omega)]
        exact And.intro rfl rfl
      · skip
        refine vx_go hC hFt hini (vx_ends hC hr hlk) jc_Rs_hasPart 12 (by decide) rfl ?_
        refine And.intro (rfl) (And.intro ?_ (And.intro (Nat.le_refl _) (Nat.le_refl _)))
        rw [decide_eq_true ⟨c1, c5⟩]
        exact And.intro rfl rfl
set_option maxRecDepth 100000 in
set_option maxHeartbeats 4000000 in
theorem c_Rs_partSize (l : Launch) (D : va_G) (tys : List (ClassId × FieldType)) (tc : Nat → ClassId) (hty : ∀ i : Nat, i < 4 → tys[i]? = some (tc i, vx_ty i)) (h fa la hb : Nat) (cd : Int32) (sj : Value) (bs bl : Int32) (pa : List (Nat × Nat)) (f1 f2 : Nat → Int32) (hpa : kpA f1 f2 pa) (k : Nat) (hk : k < pa.length) : Kt l y_Rs_partSize (yw y_Rs_partSize b_Rs_partSize 2 (some .int)) 0 0 0 0 D cls tys (fun _ _ _ => True) [.ref h, .int (nI k)] (rsW tc h fa la hb cd sj bs (nI pa.length) bl f1 f2) (fun r w => r = some (.int (nI ((pa.getD k (0, 0)).2 - (pa.getD k (0, 0)).1 + 1))) ∧ w = (rsW tc h fa la hb cd sj bs (nI pa.length) bl f1 f2)) := by
  refine Kt.of ro_true (by decide) rfl hty (Nat.le_of_ble_eq_true rfl) ?_
  intro p e s m args below meth c0 A hC hr hlk hnm hF
  have hFt : vx_Ft y_Rs_partSize.cls (yw y_Rs_partSize b_Rs_partSize 2 (some .int)) cls cty ft_Rs := ft_of (fun w h => List.mem_cons_of_mem _ h) fl_Rs_in ft_Rs_b
  have hini : false = true → meth.name = "<init>" := fun h => by cases h
  refine vx_go hC hFt hini (vx_ends hC hr hlk) jc_Rs_partSize 0 (by decide) rfl ?_
  refine And.intro rfl ?_
  refine And.intro rfl (And.intro rfl (And.intro (vp_in_nI (by have := hpa.1; omega) (by decide)) ?_))
  rw [nI_clamp (n := k) (by have := hpa.1; omega)]
  refine And.intro rfl ?_
  refine And.intro rfl (And.intro rfl (And.intro (vp_in_nI (by have := hpa.1; omega) (by decide)) ?_))
  rw [nI_clamp (n := k) (by have := hpa.1; omega)]
  refine And.intro (trivial) (And.intro ?_ (And.intro (Nat.le_refl _) (Nat.le_refl _)))
  refine And.intro ?_ rfl
  obtain ⟨e1, e2, e3, e4⟩ := kp_get hpa hk
  rw [e1, e2, ps_nI e3]
set_option maxRecDepth 100000 in
set_option maxHeartbeats 4000000 in
theorem c_Rs_writeHeading (l : Launch) (D : va_G) (tys : List (ClassId × FieldType)) (tc : Nat → ClassId) (hty : ∀ i : Nat, i < 4 → tys[i]? = some (tc i, vx_ty i)) (h fa la hb : Nat) (cd : Int32) (sj : Value) (bs bl : Int32) (pa : List (Nat × Nat)) (f1 f2 : Nat → Int32) (hpa : kpA f1 f2 pa) (K : Nat → Nat) (v : Nat) (ml : Int32) (M9 : Nat) (a : Nat → Int32) (L : List Nat) (hL : sbI a L) (hf : sb_Fit a) (hm : L.length ≤ M9 ∧ 16 ≤ M9 ∧ M9 ≤ 100) (sz : Nat) (hsz : sz ≤ 100000) (k : Nat) (hk : k < pa.length) : Kt l y_Rs_writeHeading (yw y_Rs_writeHeading b_Rs_writeHeading 3 none) 6 148 8 800 D cls tys (gtF K) [.ref h, .int (nI k), .int (nI sz)] ((rsW tc h fa la hb cd sj bs (nI pa.length) bl f1 f2) ++ (sbW tc hb v ml L.length M9 a)) (fun r w => r = none ∧ ∃ v2 l2 m2 a2, w = (rsW tc h fa la hb cd sj bs (nI pa.length) bl f1 f2) ++ (sbW tc hb v2 l2 (hdg sz (pa.getD k (0, 0))).length m2 a2) ∧ sbI a2 (hdg sz (pa.getD k (0, 0))) ∧ sb_Fit a2 ∧ (hdg sz (pa.getD k (0, 0))).length ≤ m2 ∧ 16 ≤ m2 ∧ m2 ≤ 100) := by
  refine Kt.of (gtF_ro K) (by decide) rfl hty (Nat.le_of_ble_eq_true rfl) ?_
  intro p e s m args below meth c0 A hC hr hlk hnm hF
  have hFt : vx_Ft y_Rs_writeHeading.cls (yw y_Rs_writeHeading b_Rs_writeHeading 3 none) cls cty ft_Rs := ft_of (fun w h => List.mem_cons_of_mem _ h) fl_Rs_in ft_Rs_b
  have hini : false = true → meth.name = "<init>" := fun h => by cases h
  obtain ⟨e1, e2, e3, e4⟩ := kp_get hpa hk
  have d1 := dec6 (n := (pa.getD k (0, 0)).1) (by omega)
  have d2 := dec6 (n := (pa.getD k (0, 0)).2) (by omega)
  have d3 := dec6 hsz
  refine vx_go hC hFt hini (vx_ends hC hr hlk) jc_Rs_writeHeading 0 (by decide) rfl ?_
  refine And.intro rfl ?_
  refine sx_callV (wr := (rsW tc h fa la hb cd sj bs (nI pa.length) bl f1 f2)) (wc := (sbW tc hb v ml L.length M9 a)) hC (c_Sb_setLength89 l D tys tc hty hb v ml M9 a L hL hf hm ) (cw_V wm_Sb_setLength89 wl_Rs_89 wi_Sb_setLength89 ws_Sb_Sb_setLength89 hC.2.2.2.2.1 ⟨by decide, by decide⟩) [3, 4] [0, 1, 2] rfl rfl rfl rfl (by decide) (q0 := 0) rfl rfl rfl (fun _ _ _ _ _ => trivial) rfl rfl (Nat.le_of_ble_eq_true rfl) ⟨by decide, by decide⟩ (fun r' w' hp => ?_)
  obtain ⟨rfl, v1, l1, m1, a1, rfl, I1, G1, u1, w1, x1⟩ := hp
  refine And.intro rfl ?_
  refine ⟨K 17, Or.inr (Or.inr ⟨_, _, rfl, (hF.1.1 17 _ rfl).1⟩), ?_⟩
  refine sx_callV (wr := (rsW tc h fa la hb cd sj bs (nI pa.length) bl f1 f2)) (wc := (sbW tc hb v1 l1 [].length m1 a1)) hC (c_Sb_append7 l D tys tc hty hb v1 l1 m1 a1 [] I1 G1 ⟨u1, w1, x1⟩ (K 17) hd15 hd15_W (by decide)) (cw_V wm_Sb_append7 wl_Rs_95 wi_Sb_append7 ws_Sb_Sb_append7 hC.2.2.2.2.1 ⟨by decide, by decide⟩) [3, 4] [0, 1, 2] rfl rfl rfl rfl (by decide) (q0 := 0) rfl rfl rfl (vx_ro (wc := (sbW tc hb v1 l1 [].length m1 a1)) (tF_ro (K 17) hd15) hC.2.2.2.2.2.2.1 (hF.1.1 17 _ rfl).2 [3, 4] rfl) rfl rfl (Nat.le_of_ble_eq_true rfl) ⟨by decide, by decide⟩ (fun r' w' hp => ?_)
  obtain ⟨rfl, v2, l2, m2, a2, rfl, I2, G2, u2, w2, x2⟩ := hp
  refine And.intro rfl ?_
  refine And.intro rfl (And.intro rfl (And.intro (vp_in_nI (by have := hpa.1; omega) (by decide)) ?_))
  rw [nI_clamp (n := k) (by have := hpa.1; omega)]
  rw [(kp_get hpa hk).1]
  refine sx_callV (wr := (rsW tc h fa la hb cd sj bs (nI pa.length) bl f1 f2)) (wc := (sbW tc hb v2 l2 ([] ++ hd15).length m2 a2)) hC (c_Sb_append15 l D tys tc hty hb v2 l2 m2 a2 ([] ++ hd15) I2 G2 ⟨u2, w2, x2⟩ (pa.getD k (0, 0)).1 (by omega) (by simp only [List.length_append, List.length_cons, List.length_nil, show hd15.length = 15 from rfl]; omega)) (cw_V wm_Sb_append15 wl_Rs_99 wi_Sb_append15 ws_Sb_Sb_append15 hC.2.2.2.2.1 ⟨by decide, by decide⟩) [3, 4] [0, 1, 2] rfl rfl rfl rfl (by decide) (q0 := 0) rfl rfl rfl (vx_ro (wc := (sbW tc hb v2 l2 ([] ++ hd15).length m2 a2)) (ro_and csF_ro dgF_ro) hC.2.2.2.2.2.2.1 ⟨gt_cs hF, hF.2⟩ [3, 4] rfl) rfl rfl (Nat.le_of_ble_eq_true rfl) ⟨by decide, by decide⟩ (fun r' w' hp => ?_)
  obtain ⟨rfl, v3, l3, m3, a3, rfl, I3, G3, u3, w3, x3⟩ := hp
  refine sx_callV (wr := (rsW tc h fa la hb cd sj bs (nI pa.length) bl f1 f2)) (wc := (sbW tc hb v3 l3 ([] ++ hd15 ++ dec (pa.getD k (0, 0)).1).length m3 a3)) hC (c_Sb_append14 l D tys tc hty hb v3 l3 m3 a3 ([] ++ hd15 ++ dec (pa.getD k (0, 0)).1) I3 G3 ⟨u3, w3, x3⟩ 45 (by decide) (by simp only [List.length_append, List.length_cons, List.length_nil, show hd15.length = 15 from rfl]; omega)) (cw_V wm_Sb_append14 wl_Rs_102 wi_Sb_append14 ws_Sb_Sb_append14 hC.2.2.2.2.1 ⟨by decide, by decide⟩) [3, 4] [0, 1, 2] rfl rfl rfl rfl (by decide) (q0 := 0) rfl rfl rfl (vx_ro (wc := (sbW tc hb v3 l3 ([] ++ hd15 ++ dec (pa.getD k (0, 0)).1).length m3 a3)) csF_ro hC.2.2.2.2.2.2.1 (gt_cs hF) [3, 4] rfl) rfl rfl (Nat.le_of_ble_eq_true rfl) ⟨by decide, by decide⟩ (fun r' w' hp => ?_)
  obtain ⟨rfl, v4, l4, m4, a4, rfl, I4, G4, u4, w4, x4⟩ := hp
  refine And.intro rfl ?_
  refine And.intro rfl (And.intro rfl (And.intro (vp_in_nI (by have := hpa.1; omega) (by decide)) ?_))
  rw [nI_clamp (n := k) (by have := hpa.1; omega)]
  rw [(kp_get hpa hk).2.1]
  refine sx_callV (wr := (rsW tc h fa la hb cd sj bs (nI pa.length) bl f1 f2)) (wc := (sbW tc hb v4 l4 ([] ++ hd15 ++ dec (pa.getD k (0, 0)).1 ++ [45]).length m4 a4)) hC (c_Sb_append15 l D tys tc hty hb v4 l4 m4 a4 ([] ++ hd15 ++ dec (pa.getD k (0, 0)).1 ++ [45]) I4 G4 ⟨u4, w4, x4⟩ (pa.getD k (0, 0)).2 (by omega) (by simp only [List.length_append, List.length_cons, List.length_nil, show hd15.length = 15 from rfl]; omega)) (cw_V wm_Sb_append15 wl_Rs_99 wi_Sb_append15 ws_Sb_Sb_append15 hC.2.2.2.2.1 ⟨by decide, by decide⟩) [3, 4] [0, 1, 2] rfl rfl rfl rfl (by decide) (q0 := 0) rfl rfl rfl (vx_ro (wc := (sbW tc hb v4 l4 ([] ++ hd15 ++ dec (pa.getD k (0, 0)).1 ++ [45]).length m4 a4)) (ro_and csF_ro dgF_ro) hC.2.2.2.2.2.2.1 ⟨gt_cs hF, hF.2⟩ [3, 4] rfl) rfl rfl (Nat.le_of_ble_eq_true rfl) ⟨by decide, by decide⟩ (fun r' w' hp => ?_)
  obtain ⟨rfl, v5, l5, m5, a5, rfl, I5, G5, u5, w5, x5⟩ := hp
  refine And.intro rfl ?_
  refine And.intro rfl ?_
  refine sx_callV (wr := (rsW tc h fa la hb cd sj bs (nI pa.length) bl f1 f2)) (wc := (sbW tc hb v5 l5 ([] ++ hd15 ++ dec (pa.getD k (0, 0)).1 ++ [45] ++ dec (pa.getD k (0, 0)).2).length m5 a5)) hC (c_Sb_append14 l D tys tc hty hb v5 l5 m5 a5 ([] ++ hd15 ++ dec (pa.getD k (0, 0)).1 ++ [45] ++ dec (pa.getD k (0, 0)).2) I5 G5 ⟨u5, w5, x5⟩ 47 (by decide) (by simp only [List.length_append, List.length_cons, List.length_nil, show hd15.length = 15 from rfl]; omega)) (cw_V wm_Sb_append14 wl_Rs_102 wi_Sb_append14 ws_Sb_Sb_append14 hC.2.2.2.2.1 ⟨by decide, by decide⟩) [3, 4] [0, 1, 2] rfl rfl rfl rfl (by decide) (q0 := 0) rfl rfl rfl (vx_ro (wc := (sbW tc hb v5 l5 ([] ++ hd15 ++ dec (pa.getD k (0, 0)).1 ++ [45] ++ dec (pa.getD k (0, 0)).2).length m5 a5)) csF_ro hC.2.2.2.2.2.2.1 (gt_cs hF) [3, 4] rfl) rfl rfl (Nat.le_of_ble_eq_true rfl) ⟨by decide, by decide⟩ (fun r' w' hp => ?_)
  obtain ⟨rfl, v6, l6, m6, a6, rfl, I6, G6, u6, w6, x6⟩ := hp
  refine sx_callV (wr := (rsW tc h fa la hb cd sj bs (nI pa.length) bl f1 f2)) (wc := (sbW tc hb v6 l6 ([] ++ hd15 ++ dec (pa.getD k (0, 0)).1 ++ [45] ++ dec (pa.getD k (0, 0)).2 ++ [47]).length m6 a6)) hC (c_Sb_append15 l D tys tc hty hb v6 l6 m6 a6 ([] ++ hd15 ++ dec (pa.getD k (0, 0)).1 ++ [45] ++ dec (pa.getD k (0, 0)).2 ++ [47]) I6 G6 ⟨u6, w6, x6⟩ sz (by omega) (by simp only [List.length_append, List.length_cons, List.length_nil, show hd15.length = 15 from rfl]; omega)) (cw_V wm_Sb_append15 wl_Rs_99 wi_Sb_append15 ws_Sb_Sb_append15 hC.2.2.2.2.1 ⟨by decide, by decide⟩) [3, 4] [0, 1, 2] rfl rfl rfl rfl (by decide) (q0 := 0) rfl rfl rfl (vx_ro (wc := (sbW tc hb v6 l6 ([] ++ hd15 ++ dec (pa.getD k (0, 0)).1 ++ [45] ++ dec (pa.getD k (0, 0)).2 ++ [47]).length m6 a6)) (ro_and csF_ro dgF_ro) hC.2.2.2.2.2.2.1 ⟨gt_cs hF, hF.2⟩ [3, 4] rfl) rfl rfl (Nat.le_of_ble_eq_true rfl) ⟨by decide, by decide⟩ (fun r' w' hp => ?_)
  obtain ⟨rfl, v7, l7, m7, a7, rfl, I7, G7, u7, w7, x7⟩ := hp
  refine ⟨K 18, Or.inr (Or.inr ⟨_, _, rfl, (hF.1.1 18 _ rfl).1⟩), ?_⟩
  refine sx_callV (wr := (rsW tc h fa la hb cd sj bs (nI pa.length) bl f1 f2)) (wc := (sbW tc hb v7 l7 ([] ++ hd15 ++ dec (pa.getD k (0, 0)).1 ++ [45] ++ dec (pa.getD k (0, 0)).2 ++ [47] ++ dec sz).length m7 a7)) hC (c_Sb_append7 l D tys tc hty hb v7 l7 m7 a7 ([] ++ hd15 ++ dec (pa.getD k (0, 0)).1 ++ [45] ++ dec (pa.getD k (0, 0)).2 ++ [47] ++ dec sz) I7 G7 ⟨u7, w7, x7⟩ (K 18) [13, 10, 13, 10] crlf2_W (by simp only [List.length_append, List.length_cons, List.length_nil, show hd15.length = 15 from rfl]; omega)) (cw_V wm_Sb_append7 wl_Rs_95 wi_Sb_append7 ws_Sb_Sb_append7 hC.2.2.2.2.1 ⟨by decide, by decide⟩) [3, 4] [0, 1, 2] rfl rfl rfl rfl (by decide) (q0 := 0) rfl rfl rfl (vx_ro (wc := (sbW tc hb v7 l7 ([] ++ hd15 ++ dec (pa.getD k (0, 0)).1 ++ [45] ++ dec (pa.getD k (0, 0)).2 ++ [47] ++ dec sz).length m7 a7)) (tF_ro (K 18) [13, 10, 13, 10]) hC.2.2.2.2.2.2.1 (hF.1.1 18 _ rfl).2 [3, 4] rfl) rfl rfl (Nat.le_of_ble_eq_true rfl) ⟨by decide, by decide⟩ (fun r' w' hp => ?_)
  obtain ⟨rfl, v8, l8, m8, a8, rfl, I8, G8, u8, w8, x8⟩ := hp
  refine And.intro rfl ?_
  refine And.intro (trivial) (And.intro ?_ (And.intro (Nat.le_of_ble_eq_true rfl) (Nat.le_of_ble_eq_true rfl)))
  have eL : ([] ++ hd15 ++ dec (pa.getD k (0, 0)).1 ++ [45] ++ dec (pa.getD k (0, 0)).2 ++ [47] ++ dec sz) ++ [13, 10, 13, 10] = hdg sz (pa.getD k (0, 0)) := by
    unfold hdg fgr
    simp only [List.nil_append, List.append_assoc, List.cons_append]
  rw [eL] at I8 u8 ⊢
  exact ⟨rfl, v8, l8, m8, a8, rfl, I8, G8, u8, w8, x8⟩
