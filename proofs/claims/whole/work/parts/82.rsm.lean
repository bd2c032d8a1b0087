/-! THE CLASS: the response: its size, its bytes, it is settled, by program (wip/whole/gen/p82.py) -/
section
variable {p : Program} {l : Launch} {e : Env} {R : Room} {s : State} {m : MethodId} {args : Array Value} {below : List Frame} {meth : Method} {c : Code} {cc : ByteArray} {nL : Nat} {D : va_G} {cl : List vw_C} {A : Nat → Prop} {Q : State → Prop} {pc : Nat} {lv : wq_L} {st : List Value} {k n k2 n2 : Nat} {ws : va_W} {K : List Value → va_W → Nat → Nat → Prop}
theorem Vx.cnt (h1 : k = k2) (h2 : n = n2) (h : Vx p l e R s m args below meth c nL D cl A Q pc lv st ws k2 n2) : Vx p l e R s m args below meth c nL D cl A Q pc lv st ws k n := by
  subst h1
  subst h2
  exact h
theorem Vx.subW {ws2 : va_W} (js : List Nat) (hn : va_nd js = true) (hw : js.map (fun i => ws[i]?) = ws2.map some) (h : Vx p l e R s m args below meth c nL D cl A Q pc lv st ws2 k n) : Vx p l e R s m args below meth c nL D cl A Q pc lv st ws k n := by
  intro H locs ls hP hD hS hl
  exact h H locs ls (va_P.sub2 hw hP) (hD.sub js hn hw) hS hl
/-- a step, and the cells in another order behind it -/
theorem sx_ord {ins : Jvm.ClassFile.Instr} {len : Nat} (h : vx_SX cc (Vx p l e R s m args below meth c nL D cl A Q) ins len st ws k n (fun st2 w2 k2 n2 => ∃ (js : List Nat) (ws2 : va_W), va_nd js = true ∧ js.map (fun i => w2[i]?) = ws2.map some ∧ K st2 ws2 k2 n2)) : vx_SX cc (Vx p l e R s m args below meth c nL D cl A Q) ins len st ws k n K :=
  fun pc lv hdg hK => h pc lv hdg (fun st2 w2 k2 n2 hx => by
    obtain ⟨js, ws2, h1, h2, h3⟩ := hx
    exact Vx.subW js h1 h2 (hK _ _ _ _ h3))
end
theorem kp_pa {pa : List (Nat × Nat)} {f1 f2 : Nat → Int32} (h : kpA f1 f2 pa) : paA (fun q j => if q = 11 then f1 j else f2 j) pa := ⟨h.1, fun i hi => h.2 i hi⟩
theorem dr_sum {sz : Nat} {pa : List (Nat × Nat)} {k : Nat} (h : k < pa.length) : ((pa.drop k).map (psz sz)).sum = psz sz (pa.getD k (0, 0)) + ((pa.drop (k + 1)).map (psz sz)).sum := by
  have hg : pa.getD k (0, 0) = pa[k] := by rw [List.getD_eq_getElem?_getD, List.getElem?_eq_getElem h]; rfl
  rw [List.drop_eq_getElem_cons h, List.map_cons, List.sum_cons, hg]
/-- the chosen one: its address, its number and its size -/
def sjV (u : Option (Nat × Nat × Nat)) : Value := match u with
  | none => .null
  | some v => .ref v.1
def sjF (u : Option (Nat × Nat × Nat)) : (Nat → Prop) → State → Heap → Prop := match u with
  | none => fun _ _ _ => True
  | some v => spF v.1 v.2.1 v.2.2
theorem sjF_ro (u : Option (Nat × Nat × Nat)) : RO (sjF u) := by
  cases u with
  | none => exact ro_true
  | some v => exact spF_ro _ _ _
def sjN (u : Option (Nat × Nat × Nat)) : Option (Nat × Nat) := u.map (fun v => v.2)
/-- a builder, whatever it says -/
def sbX (tc : Nat → ClassId) (b : Nat) (w : va_W) : Prop := ∃ L, sbO tc b L w
/-- read facts that say more -/
theorem Kt.imp {l : Launch} {y : MethodName} {wds : List Cond} {fr lo mc ms : Nat} {D : va_G} {cl : List vw_C} {tys : List (ClassId × FieldType)} {F G : (Nat → Prop) → State → Heap → Prop} {ar : List Value} {ws : va_W} {post : Option Value → va_W → Prop} (hG : RO G) (h : ∀ A U H, G A U H → F A U H) (hk : Kt l y wds fr lo mc ms D cl tys F ar ws post) : Kt l y wds fr lo mc ms D cl tys G ar ws post :=
  ⟨hG, fun sz p e h1 h2 h3 s m args below h4 h5 hu h6 => hk.2 sz p e h1 h2 h3 s m args below h4 h5 ⟨hu.1, hu.2.1, hu.2.2.1, hu.2.2.2.1, hu.2.2.2.2.1, h _ _ _ hu.2.2.2.2.2⟩ h6⟩
set_option maxRecDepth 100000 in
set_option maxHeartbeats 4000000 in
theorem c_Rs_measureS (l : Launch) (D : va_G) (tys : List (ClassId × FieldType)) (tc : Nat → ClassId) (hty : ∀ i : Nat, i < 4 → tys[i]? = some (tc i, vx_ty i)) (h fa la hb : Nat) (cd bs bl : Int32) (pa : List (Nat × Nat)) (f1 f2 : Nat → Int32) (hpa : kpA f1 f2 pa) (a9 num sz : Nat) (hok : anOk cd (some (num, sz)) pa) (K : Nat → Nat) (v : Nat) (ml : Int32) (M9 : Nat) (a : Nat → Int32) (L : List Nat) (hL : sbI a L) (hf : sb_Fit a) (hm : L.length ≤ M9 ∧ 16 ≤ M9 ∧ M9 ≤ 100) : Kt l y_Rs_measure (yw y_Rs_measure b_Rs_measure 3 (some .int)) 7 170 32 3200 D cls tys (fun A U H => spF a9 num sz A U H ∧ gtF K A U H) [.ref h] ((rsW tc h fa la hb cd (.ref a9) bs (nI pa.length) bl f1 f2) ++ (sbW tc hb v ml L.length M9 a)) (fun r w => r = some (.int (nI (lnS cd (some (num, sz)) pa))) ∧ ∃ w2, w = (rsW tc h fa la hb cd (.ref a9) bs (nI pa.length) bl f1 f2) ++ w2 ∧ sbX tc hb w2) := by
  refine Kt.of (ro_and (spF_ro a9 num sz) (gtF_ro K)) (by decide) rfl hty (Nat.le_of_ble_eq_true rfl) ?_
  intro p e s m args below meth c0 A hC hr hlk hnm hF
  have hFt : vx_Ft y_Rs_measure.cls (yw y_Rs_measure b_Rs_measure 3 (some .int)) cls cty ft_Rs := ft_of (fun w h => List.mem_cons_of_mem _ h) fl_Rs_in ft_Rs_b
  have hini : false = true → meth.name = "<init>" := fun h => by cases h
  have hp4 := hpa.1
  have hu := hok.2.2.1 _ rfl
  have hnum : num < 4 := hu.1
  have hsz : sz ≤ 100000 := hu.2
  refine vx_gon hC hFt hini (vx_ends hC hr hlk) jc_Rs_measure 0 32 (by decide) rfl ?_
  refine And.intro rfl ?_
  refine And.intro (fun c3 => ?_) (fun c3 => ?_)
  · skip
    have c3 : ¬ cd = 200 := c3
    refine vx_gon hC hFt hini (vx_ends hC hr hlk) jc_Rs_measure 11 21 (by decide) rfl ?_
    refine And.intro rfl ?_
    refine And.intro (fun c14 => ?_) (fun c14 => ?_)
    · skip
      have c14 : pa.length < 2 := (nI_ltI (b := 2) (by omega) (by omega)).mp c14
      refine vx_gon hC hFt hini (vx_ends hC hr hlk) jc_Rs_measure 18 14 (by decide) rfl ?_
      refine And.intro rfl ?_
      refine And.intro (fun c20 => ?_) (fun c20 => ?_)
      · skip
        have c20 : pa.length = 1 := by
          have : pa.length ≠ 0 := fun z => c20 (by rw [z]; rfl)
          omega
        refine vx_gon hC hFt hini (vx_ends hC hr hlk) jc_Rs_measure 23 9 (by decide) rfl ?_
        refine sx_ord (sx_callV (wr := (sbW tc hb v ml L.length M9 a)) (wc := (rsW tc h fa la hb cd (.ref a9) bs (nI pa.length) bl f1 f2)) hC (c_Rs_partSize l D tys tc hty h fa la hb cd (.ref a9) bs bl pa f1 f2 hpa 0 (by omega)) (cw_V wm_Rs_partSize wl_Rs_67 wi_Rs_partSize ws_Rs_Rs_partSize hC.2.2.2.2.1 ⟨by decide, by decide⟩) [0, 1, 2] [3, 4] rfl rfl rfl rfl (by decide) (q0 := 0) rfl rfl rfl (fun _ _ _ _ _ => trivial) rfl rfl (Nat.le_of_ble_eq_true rfl) ⟨by decide, by decide⟩ (fun r' w' hp => ?_))
        obtain ⟨rfl, rfl⟩ := hp
        refine ⟨[2, 3, 4, 0, 1], (rsW tc h fa la hb cd (.ref a9) bs (nI pa.length) bl f1 f2) ++ (sbW tc hb v ml L.length M9 a), rfl, rfl, ?_⟩
        refine And.intro (trivial) (And.intro ?_ (And.intro (show _ ≤ 32 by omega) (show _ ≤ 3200 by omega)))
        rw [lnS_one c3 c20]
        exact ⟨rfl, _, rfl, L, v, ml, M9, a, rfl, hL, hf, hm⟩
      · skip
        have c20 : pa = [] := List.eq_nil_of_length_eq_zero ((nI_eq (b := 0) (by omega) (by omega)).mp c20)
        refine vx_gon hC hFt hini (vx_ends hC hr hlk) jc_Rs_measure 26 6 (by decide) rfl ?_
        refine And.intro (trivial) (And.intro ?_ (And.intro (show _ ≤ 32 by omega) (show _ ≤ 3200 by omega)))
        rw [c20, lnS_nil c3]
        exact ⟨rfl, _, rfl, L, v, ml, M9, a, rfl, hL, hf, hm⟩
    · skip
      have c14 : ¬ pa.length < 2 := fun z => c14 ((nI_ltI (b := 2) (by omega) (by omega)).mpr z)
      refine And.intro rfl ?_
      refine vx_gon hC hFt hini (vx_ends hC hr hlk) jc_Rs_measure 27 5 (by decide) rfl ?_
      refine ⟨K 15, Or.inr (Or.inr ⟨_, _, rfl, (hF.2.1.1 15 _ rfl).1⟩), ?_⟩
      refine callv0 hC (c_St_length54 l D tys tc hty (K 15) bhp bhp_W ) (hF.2.1.1 15 _ rfl).2 (hF.2.1.1 15 _ rfl).2.2.1 wm_St_length54 wl_Rs_72 wi_St_length54 ws_St_St_length54 ⟨by decide, by decide⟩ rfl rfl (Nat.le_of_ble_eq_true rfl) ⟨by decide, by decide⟩ (fun r' hp => ?_)
      subst hp
      refine Vx.subL (lv' := [(0, .ref h), (1, .int (nI 10)), (2, .int (nI 0))]) [2, 1, 0] rfl ?_
      obtain ⟨k, hk0⟩ : ∃ k : Nat, k = 0 := ⟨_, rfl⟩
      obtain ⟨D9, hD0⟩ : ∃ D9 : Nat, D9 = 10 := ⟨_, rfl⟩
      refine Vx.eqs rfl (lv2 := [(0, .ref h), (1, .int (nI D9)), (2, .int (nI k))]) (by rw [hk0, hD0]) rfl rfl ?_
      refine Vx.cnt (k2 := 8 * k) (n2 := 800 * k) (by rw [hk0]) (by rw [hk0]) ?_
      have hD : D9 = 10 + ((pa.take k).map (psz sz)).sum := by rw [hk0, hD0]; rfl
      have hkl : k ≤ pa.length := by omega
      clear hk0 hD0
      induction hn : pa.length - k using Nat.strongRecOn generalizing k D9 v ml M9 a L with
      | _ m9 ih =>
        refine vx_go hC hFt hini (vx_ends hC hr hlk) jc_Rs_measure 32 (by decide) rfl ?_
        refine And.intro rfl ?_
        refine And.intro (fun c35 => ?_) (fun c35 => ?_)
        · skip
          have c35 : pa.length ≤ k := (nI_leI (by omega) (by omega)).mp c35
          refine vx_go hC hFt hini (vx_ends hC hr hlk) jc_Rs_measure 57 (by decide) rfl ?_
          refine And.intro (trivial) (And.intro ?_ (And.intro (show _ ≤ 32 by omega) (show _ ≤ 3200 by omega)))
          rw [List.take_of_length_le (by omega)] at hD
          rw [lnS_two c3 (by omega), ← hD]
          exact ⟨rfl, _, rfl, L, v, ml, M9, a, rfl, hL, hf, hm⟩
        · skip
          have c35 : ¬ pa.length ≤ k := fun z => c35 ((nI_leI (by omega) (by omega)).mpr z)
          refine And.intro rfl ?_
          refine ⟨_, ⟨"OriginDesk$Representation", "size", "I", "OriginDesk$Representation", hF.1.2.2, Or.inl (hC.2.2.2.2.1 _ (List.mem_cons_of_mem _ wf_Rs_64)), fun _ z => z⟩, ?_⟩
          refine sx_callV (wr := []) (wc := (rsW tc h fa la hb cd (.ref a9) bs (nI pa.length) bl f1 f2) ++ (sbW tc hb v ml L.length M9 a)) hC (c_Rs_writeHeading l D tys tc hty h fa la hb cd (.ref a9) bs bl pa f1 f2 hpa K v ml M9 a L hL hf hm sz hsz k (by omega)) (cw_V wm_Rs_writeHeading wl_Rs_77 wi_Rs_writeHeading ws_Rs_Rs_writeHeading hC.2.2.2.2.1 ⟨by decide, by decide⟩) [0, 1, 2, 3, 4] [] rfl rfl rfl rfl (by decide) (q0 := 0) rfl rfl rfl (vx_ro (wc := (rsW tc h fa la hb cd (.ref a9) bs (nI pa.length) bl f1 f2) ++ (sbW tc hb v ml L.length M9 a)) (gtF_ro K) hC.2.2.2.2.2.2.1 hF.2 [0, 1, 2, 3, 4] rfl) rfl rfl (Nat.le_of_ble_eq_true rfl) ⟨(show 8 * k + 8 ≤ 32 by omega), (show 800 * k + 800 ≤ 3200 by omega)⟩ (fun r' w' hp => ?_)
          obtain ⟨rfl, v2, l2, m2, a2, rfl, I2, G2, u2, w2, x2⟩ := hp
          refine And.intro rfl ?_
          refine sx_callV (wr := (rsW tc h fa la hb cd (.ref a9) bs (nI pa.length) bl f1 f2)) (wc := (sbW tc hb v2 l2 (hdg sz (pa.getD k (0, 0))).length m2 a2)) hC (c_Sb_length93 l D tys tc hty hb v2 l2 (hdg sz (pa.getD k (0, 0))).length m2 a2) (cw_V wm_Sb_length93 wl_Rs_81 wi_Sb_length93 ws_Sb_Sb_length93 hC.2.2.2.2.1 ⟨by decide, by decide⟩) [3, 4] [0, 1, 2] rfl rfl rfl rfl (by decide) (q0 := 0) rfl rfl rfl (fun _ _ _ _ _ => trivial) rfl rfl (Nat.le_of_ble_eq_true rfl) ⟨(show 8 * k + 8 ≤ 32 by omega), (show 800 * k + 800 ≤ 3200 by omega)⟩ (fun r' w' hp => ?_)
          obtain ⟨rfl, rfl⟩ := hp
          refine sx_ord (sx_callV (wr := (sbW tc hb v2 l2 (hdg sz (pa.getD k (0, 0))).length m2 a2)) (wc := (rsW tc h fa la hb cd (.ref a9) bs (nI pa.length) bl f1 f2)) hC (c_Rs_partSize l D tys tc hty h fa la hb cd (.ref a9) bs bl pa f1 f2 hpa k (by omega)) (cw_V wm_Rs_partSize wl_Rs_67 wi_Rs_partSize ws_Rs_Rs_partSize hC.2.2.2.2.1 ⟨by decide, by decide⟩) [0, 1, 2] [3, 4] rfl rfl rfl rfl (by decide) (q0 := 0) rfl rfl rfl (fun _ _ _ _ _ => trivial) rfl rfl (Nat.le_of_ble_eq_true rfl) ⟨(show 8 * k + 8 ≤ 32 by omega), (show 800 * k + 800 ≤ 3200 by omega)⟩ (fun r' w' hp => ?_))
          obtain ⟨rfl, rfl⟩ := hp
          refine ⟨[2, 3, 4, 0, 1], (rsW tc h fa la hb cd (.ref a9) bs (nI pa.length) bl f1 f2) ++ (sbW tc hb v2 l2 (hdg sz (pa.getD k (0, 0))).length m2 a2), rfl, rfl, ?_⟩
          refine ⟨K 16, Or.inr (Or.inr ⟨_, _, rfl, (hF.2.1.1 16 _ rfl).1⟩), ?_⟩
          refine callv0 hC (c_St_length54 l D tys tc hty (K 16) [13, 10] crlf_W ) (hF.2.1.1 16 _ rfl).2 (hF.2.1.1 16 _ rfl).2.2.1 wm_St_length54 wl_Rs_72 wi_St_length54 ws_St_St_length54 ⟨by decide, by decide⟩ rfl rfl (Nat.le_of_ble_eq_true rfl) ⟨(show 8 * k + 8 ≤ 32 by omega), (show 800 * k + 800 ≤ 3200 by omega)⟩ (fun r' hp => ?_)
          subst hp
          refine Vx.subL (lv' := [(0, .ref h), (1, .int (nI D9 + (nI (hdg sz (pa.getD k (0, 0))).length + nI ((pa.getD k (0, 0)).2 - (pa.getD k (0, 0)).1 + 1) + nI ([13, 10] : List Nat).length))), (2, .int (nI k + 1))]) [2, 1, 0] rfl ?_
          rw [nI_1, nI_add, nI_add, nI_add]
          refine Vx.cnt (k2 := 8 * (k + 1)) (n2 := 800 * (k + 1)) (by omega) (by omega) ?_
          exact ih (pa.length - (k + 1)) (by omega) v2 l2 m2 a2 _ I2 G2 ⟨u2, w2, x2⟩ (k + 1) (D9 + ((hdg sz (pa.getD k (0, 0))).length + ((pa.getD k (0, 0)).2 - (pa.getD k (0, 0)).1 + 1) + ([13, 10] : List Nat).length)) (by rw [sum_take (by omega), hD, hdg_len]; unfold psz; show 10 + _ + (_ + _ + 2) = 10 + (_ + (_ + _ + 2)); omega) (by omega) rfl
  · skip
    have c3 : cd = 200 := c3
    refine And.intro rfl ?_
    refine And.intro rfl ?_
    refine ⟨_, ⟨"OriginDesk$Representation", "size", "I", "OriginDesk$Representation", hF.1.2.2, Or.inl (hC.2.2.2.2.1 _ (List.mem_cons_of_mem _ wf_Rs_64)), fun _ z => z⟩, ?_⟩
    refine And.intro (trivial) (And.intro ?_ (And.intro (show _ ≤ 32 by omega) (show _ ≤ 3200 by omega)))
    rw [show lnS cd (some (num, sz)) pa = sz from if_pos c3]
    exact ⟨rfl, _, rfl, L, v, ml, M9, a, rfl, hL, hf, hm⟩
set_option maxRecDepth 100000 in
set_option maxHeartbeats 4000000 in
theorem c_Rs_measureN (l : Launch) (D : va_G) (tys : List (ClassId × FieldType)) (tc : Nat → ClassId) (hty : ∀ i : Nat, i < 4 → tys[i]? = some (tc i, vx_ty i)) (h fa la hb : Nat) (cd bs bl : Int32) (pa : List (Nat × Nat)) (f1 f2 : Nat → Int32) (hpa : kpA f1 f2 pa) (hok : anOk cd none pa) (v : Nat) (ml : Int32) (M9 : Nat) (a : Nat → Int32) (L : List Nat) (hL : sbI a L) (hf : sb_Fit a) (hm : L.length ≤ M9 ∧ 16 ≤ M9 ∧ M9 ≤ 100) : Kt l y_Rs_measure (yw y_Rs_measure b_Rs_measure 3 (some .int)) 7 170 32 3200 D cls tys (fun _ _ _ => True) [.ref h] ((rsW tc h fa la hb cd .null bs (nI pa.length) bl f1 f2) ++ (sbW tc hb v ml L.length M9 a)) (fun r w => r = some (.int (nI (lnS cd none pa))) ∧ ∃ w2, w = (rsW tc h fa la hb cd .null bs (nI pa.length) bl f1 f2) ++ w2 ∧ sbX tc hb w2) := by
  refine Kt.of ro_true (by decide) rfl hty (Nat.le_of_ble_eq_true rfl) ?_
  intro p e s m args below meth c0 A hC hr hlk hnm hF
  have hFt : vx_Ft y_Rs_measure.cls (yw y_Rs_measure b_Rs_measure 3 (some .int)) cls cty ft_Rs := ft_of (fun w h => List.mem_cons_of_mem _ h) fl_Rs_in ft_Rs_b
  have hini : false = true → meth.name = "<init>" := fun h => by cases h
  refine vx_go hC hFt hini (vx_ends hC hr hlk) jc_Rs_measure 0 (by decide) rfl ?_
  refine And.intro rfl ?_
  refine And.intro (fun c3 => ?_) (fun c3 => ?_)
  · skip
    refine vx_go hC hFt hini (vx_ends hC hr hlk) jc_Rs_measure 11 (by decide) rfl ?_
    refine And.intro rfl ?_
    refine And.intro (fun c14 => ?_) (fun c14 => ?_)
    · skip
      refine vx_go hC hFt hini (vx_ends hC hr hlk) jc_Rs_measure 18 (by decide) rfl ?_
      refine And.intro rfl ?_
      refine And.intro (fun c20 => ?_) (fun c20 => ?_)
      · skip
        exact absurd (show nI pa.length = 0 by rw [(hok.1 rfl).1]; rfl) c20
      · skip
        refine vx_go hC hFt hini (vx_ends hC hr hlk) jc_Rs_measure 26 (by decide) rfl ?_
        refine And.intro (trivial) (And.intro ?_ (And.intro (Nat.le_of_ble_eq_true rfl) (Nat.le_of_ble_eq_true rfl)))
        rw [show lnS cd none pa = 0 from rfl]
        exact ⟨rfl, _, rfl, L, v, ml, M9, a, rfl, hL, hf, hm⟩
    · skip
      exact absurd (show nI pa.length < nI 2 by rw [(hok.1 rfl).1]; decide) c14
  · skip
    exact absurd c3 (hok.1 rfl).2
theorem c_Rs_measure (l : Launch) (D : va_G) (tys : List (ClassId × FieldType)) (tc : Nat → ClassId) (hty : ∀ i : Nat, i < 4 → tys[i]? = some (tc i, vx_ty i)) (h fa la hb : Nat) (cd bs bl : Int32) (pa : List (Nat × Nat)) (f1 f2 : Nat → Int32) (hpa : kpA f1 f2 pa) (sb9 : Option (Nat × Nat × Nat)) (hok : anOk cd (sjN sb9) pa) (K : Nat → Nat) (v : Nat) (ml : Int32) (M9 : Nat) (a : Nat → Int32) (L : List Nat) (hL : sbI a L) (hf : sb_Fit a) (hm : L.length ≤ M9 ∧ 16 ≤ M9 ∧ M9 ≤ 100) : Kt l y_Rs_measure (yw y_Rs_measure b_Rs_measure 3 (some .int)) 7 170 32 3200 D cls tys (fun A U H => sjF sb9 A U H ∧ gtF K A U H) [.ref h] ((rsW tc h fa la hb cd (sjV sb9) bs (nI pa.length) bl f1 f2) ++ (sbW tc hb v ml L.length M9 a)) (fun r w => r = some (.int (nI (lnS cd (sjN sb9) pa))) ∧ ∃ w2, w = (rsW tc h fa la hb cd (sjV sb9) bs (nI pa.length) bl f1 f2) ++ w2 ∧ sbX tc hb w2) := by
  cases sb9 with
  | some u => exact c_Rs_measureS l D tys tc hty h fa la hb cd bs bl pa f1 f2 hpa u.1 u.2.1 u.2.2 hok K v ml M9 a L hL hf hm
  | none => exact Kt.imp (ro_and ro_true (gtF_ro K)) (fun _ _ _ _ => trivial) (c_Rs_measureN l D tys tc hty h fa la hb cd bs bl pa f1 f2 hpa hok v ml M9 a L hL hf hm)
set_option maxRecDepth 100000 in
set_option maxHeartbeats 4000000 in
theorem c_Rs_byteAmongParts (l : Launch) (D : va_G) (tys : List (ClassId × FieldType)) (tc : Nat → ClassId) (hty : ∀ i : Nat, i < 4 → tys[i]? = some (tc i, vx_ty i)) (h fa la hb : Nat) (cd bs bl : Int32) (pa : List (Nat × Nat)) (f1 f2 : Nat → Int32) (hpa : kpA f1 f2 pa) (a9 num sz : Nat) (hok : anOk cd (some (num, sz)) pa) (K : Nat → Nat) (v : Nat) (ml : Int32) (M9 : Nat) (a : Nat → Int32) (L : List Nat) (hL : sbI a L) (hf : sb_Fit a) (hm : L.length ≤ M9 ∧ 16 ≤ M9 ∧ M9 ≤ 100) (i9 : Nat) (hi9 : i9 < 10 + (pa.map (psz sz)).sum) (hib : i9 < 1000000) : Kt l y_Rs_byteAmongParts (yw y_Rs_byteAmongParts b_Rs_byteAmongParts 5 (some .int)) 7 170 32 3200 D cls tys (fun A U H => spF a9 num sz A U H ∧ gtF K A U H) [.ref h, .ref a9, .int (nI i9)] ((rsW tc h fa la hb cd (.ref a9) bs (nI pa.length) bl f1 f2) ++ (sbW tc hb v ml L.length M9 a)) (fun r w => r = some (.int (nI (bwk sz num pa i9))) ∧ ∃ w2, w = (rsW tc h fa la hb cd (.ref a9) bs (nI pa.length) bl f1 f2) ++ w2 ∧ sbX tc hb w2) := by
  refine Kt.of (ro_and (spF_ro a9 num sz) (gtF_ro K)) (by decide) rfl hty (Nat.le_of_ble_eq_true rfl) ?_
  intro p e s m args below meth c0 A hC hr hlk hnm hF
  have hFt : vx_Ft y_Rs_byteAmongParts.cls (yw y_Rs_byteAmongParts b_Rs_byteAmongParts 5 (some .int)) cls cty ft_Rs := ft_of (fun w h => List.mem_cons_of_mem _ h) fl_Rs_in ft_Rs_b
  have hini : false = true → meth.name = "<init>" := fun h => by cases h
  have hp4 := hpa.1
  have hu := hok.2.2.1 _ rfl
  have hnum : num < 4 := hu.1
  have hsz : sz ≤ 100000 := hu.2
  refine vx_gon hC hFt hini (vx_ends hC hr hlk) jc_Rs_byteAmongParts 0 4 (by decide) rfl ?_
  refine Vx.subL (lv' := [(0, .ref h), (1, .ref a9), (3, .int (nI i9)), (4, .int (nI 0))]) [2, 3, 1, 0] rfl ?_
  obtain ⟨k, hk0⟩ : ∃ k : Nat, k = 0 := ⟨_, rfl⟩
  obtain ⟨q, hq0⟩ : ∃ q : Nat, q = i9 := ⟨_, rfl⟩
  refine Vx.eqs rfl (lv2 := [(0, .ref h), (1, .ref a9), (3, .int (nI q)), (4, .int (nI k))]) (by rw [hk0, hq0]) rfl rfl ?_
  refine Vx.cnt (k2 := 8 * k) (n2 := 800 * k) (by rw [hk0]) (by rw [hk0]) ?_
  have hinv : bwk sz num (pa.drop k) q = bwk sz num pa i9 := by rw [hk0, hq0]; rfl
  have hqb : q < 10 + ((pa.drop k).map (psz sz)).sum := by rw [hk0, hq0]; exact hi9
  have hq31 : q < 1000000 := by omega
  have hkl : k ≤ pa.length := by omega
  clear hk0 hq0
  induction hn : pa.length - k using Nat.strongRecOn generalizing k q v ml M9 a L with
  | _ m9 ih =>
    refine vx_gon hC hFt hini (vx_ends hC hr hlk) jc_Rs_byteAmongParts 4 25 (by decide) rfl ?_
    refine And.intro rfl ?_
    refine And.intro (fun c7 => ?_) (fun c7 => ?_)
    · skip
      have c7 : pa.length ≤ k := (nI_leI (by omega) (by omega)).mp c7
      have hq10 : q < 10 := by
        rw [List.drop_eq_nil_iff.mpr c7] at hqb
        simpa using hqb
      refine vx_go hC hFt hini (vx_ends hC hr hlk) jc_Rs_byteAmongParts 64 (by decide) rfl ?_
      refine ⟨K 15, Or.inr (Or.inr ⟨_, _, rfl, (hF.2.1.1 15 _ rfl).1⟩), ?_⟩
      refine callv0 hC (c_St_length54 l D tys tc hty (K 15) bhp bhp_W ) (hF.2.1.1 15 _ rfl).2 (hF.2.1.1 15 _ rfl).2.2.1 wm_St_length54 wl_Rs_72 wi_St_length54 ws_St_St_length54 ⟨by decide, by decide⟩ rfl rfl (Nat.le_of_ble_eq_true rfl) ⟨(show 8 * k + 0 ≤ 32 by omega), (show 800 * k + 0 ≤ 3200 by omega)⟩ (fun r' hp => ?_)
      subst hp
      refine And.intro (fun c67 => ?_) (fun c67 => ?_)
      · skip
        exact absurd ((nI_leI (a := 10) (b := q) (by omega) (by omega)).mp c67) (by omega)
      · skip
        refine ⟨K 15, Or.inr (Or.inr ⟨_, _, rfl, (hF.2.1.1 15 _ rfl).1⟩), ?_⟩
        refine callv0 hC (c_St_charAt56 l D tys tc hty (K 15) bhp bhp_W q hq10) (hF.2.1.1 15 _ rfl).2 (hF.2.1.1 15 _ rfl).2.2.1 wm_St_charAt56 wl_Rs_88 wi_St_charAt56 ws_St_St_charAt56 ⟨by decide, by decide⟩ rfl rfl (Nat.le_of_ble_eq_true rfl) ⟨(show 8 * k + 0 ≤ 32 by omega), (show 800 * k + 0 ≤ 3200 by omega)⟩ (fun r' hp => ?_)
        subst hp
        refine vx_go hC hFt hini (vx_ends hC hr hlk) jc_Rs_byteAmongParts 73 (by decide) rfl ?_
        refine And.intro (trivial) (And.intro ?_ (And.intro (show _ ≤ 32 by omega) (show _ ≤ 3200 by omega)))
        rw [← hinv, List.drop_eq_nil_iff.mpr c7]
        exact ⟨rfl, _, rfl, L, v, ml, M9, a, rfl, hL, hf, hm⟩
    · skip
      have c7 : ¬ pa.length ≤ k := fun z => c7 ((nI_leI (by omega) (by omega)).mpr z)
      obtain ⟨e1, e2, e3, e4⟩ := kp_get hpa (show k < pa.length by omega)
      have hpz := psz_le (kp_pa hpa) hsz (k := k) (by omega)
      have hhl : (hdg sz (pa.getD k (0, 0))).length = hln sz (pa.getD k (0, 0)) := hdg_len
      have hpe : psz sz (pa.getD k (0, 0)) = (hdg sz (pa.getD k (0, 0))).length + ((pa.getD k (0, 0)).2 - (pa.getD k (0, 0)).1 + 1) + 2 := by rw [hhl]; rfl
      refine ⟨_, ⟨"OriginDesk$Representation", "size", "I", "OriginDesk$Representation", hF.1.2.2, Or.inl (hC.2.2.2.2.1 _ (List.mem_cons_of_mem _ wf_Rs_64)), fun _ z => z⟩, ?_⟩
      refine sx_callV (wr := []) (wc := (rsW tc h fa la hb cd (.ref a9) bs (nI pa.length) bl f1 f2) ++ (sbW tc hb v ml L.length M9 a)) hC (c_Rs_writeHeading l D tys tc hty h fa la hb cd (.ref a9) bs bl pa f1 f2 hpa K v ml M9 a L hL hf hm sz hsz k (by omega)) (cw_V wm_Rs_writeHeading wl_Rs_77 wi_Rs_writeHeading ws_Rs_Rs_writeHeading hC.2.2.2.2.1 ⟨by decide, by decide⟩) [0, 1, 2, 3, 4] [] rfl rfl rfl rfl (by decide) (q0 := 0) rfl rfl rfl (vx_ro (wc := (rsW tc h fa la hb cd (.ref a9) bs (nI pa.length) bl f1 f2) ++ (sbW tc hb v ml L.length M9 a)) (gtF_ro K) hC.2.2.2.2.2.2.1 hF.2 [0, 1, 2, 3, 4] rfl) rfl rfl (Nat.le_of_ble_eq_true rfl) ⟨(show 8 * k + 8 ≤ 32 by omega), (show 800 * k + 800 ≤ 3200 by omega)⟩ (fun r' w' hp => ?_)
      obtain ⟨rfl, v2, l2, m2, a2, rfl, I2, G2, u2, w2, x2⟩ := hp
      refine And.intro rfl ?_
      refine sx_callV (wr := (rsW tc h fa la hb cd (.ref a9) bs (nI pa.length) bl f1 f2)) (wc := (sbW tc hb v2 l2 (hdg sz (pa.getD k (0, 0))).length m2 a2)) hC (c_Sb_length93 l D tys tc hty hb v2 l2 (hdg sz (pa.getD k (0, 0))).length m2 a2) (cw_V wm_Sb_length93 wl_Rs_81 wi_Sb_length93 ws_Sb_Sb_length93 hC.2.2.2.2.1 ⟨by decide, by decide⟩) [3, 4] [0, 1, 2] rfl rfl rfl rfl (by decide) (q0 := 0) rfl rfl rfl (fun _ _ _ _ _ => trivial) rfl rfl (Nat.le_of_ble_eq_true rfl) ⟨(show 8 * k + 8 ≤ 32 by omega), (show 800 * k + 800 ≤ 3200 by omega)⟩ (fun r' w' hp => ?_)
      obtain ⟨rfl, rfl⟩ := hp
      refine And.intro (fun c17 => ?_) (fun c17 => ?_)
      · skip
        have c17 : ¬ q < (hdg sz (pa.getD k (0, 0))).length := Nat.not_lt.mpr ((nI_leI (a := (hdg sz (pa.getD k (0, 0))).length) (b := q) (by omega) (by omega)).mp c17)
        refine vx_gon hC hFt hini (vx_ends hC hr hlk) jc_Rs_byteAmongParts 23 6 (by decide) rfl ?_
        refine And.intro rfl ?_
        refine sx_callV (wr := (rsW tc h fa la hb cd (.ref a9) bs (nI pa.length) bl f1 f2)) (wc := (sbW tc hb v2 l2 (hdg sz (pa.getD k (0, 0))).length m2 a2)) hC (c_Sb_length93 l D tys tc hty hb v2 l2 (hdg sz (pa.getD k (0, 0))).length m2 a2) (cw_V wm_Sb_length93 wl_Rs_81 wi_Sb_length93 ws_Sb_Sb_length93 hC.2.2.2.2.1 ⟨by decide, by decide⟩) [3, 4] [0, 1, 2] rfl rfl rfl rfl (by decide) (q0 := 0) rfl rfl rfl (fun _ _ _ _ _ => trivial) rfl rfl (Nat.le_of_ble_eq_true rfl) ⟨(show 8 * k + 8 ≤ 32 by omega), (show 800 * k + 800 ≤ 3200 by omega)⟩ (fun r' w' hp => ?_)
        obtain ⟨rfl, rfl⟩ := hp
        refine Vx.subL (lv' := [(0, .ref h), (1, .ref a9), (3, .int (nI q - nI (hdg sz (pa.getD k (0, 0))).length)), (4, .int (nI k))]) [1, 2, 0, 3] rfl ?_
        rw [pk_sub (a := q) (b := (hdg sz (pa.getD k (0, 0))).length) (by omega)]
        refine vx_gon hC hFt hini (vx_ends hC hr hlk) jc_Rs_byteAmongParts 29 20 (by decide) rfl ?_
        refine sx_ord (sx_callV (wr := (sbW tc hb v2 l2 (hdg sz (pa.getD k (0, 0))).length m2 a2)) (wc := (rsW tc h fa la hb cd (.ref a9) bs (nI pa.length) bl f1 f2)) hC (c_Rs_partSize l D tys tc hty h fa la hb cd (.ref a9) bs bl pa f1 f2 hpa k (by omega)) (cw_V wm_Rs_partSize wl_Rs_67 wi_Rs_partSize ws_Rs_Rs_partSize hC.2.2.2.2.1 ⟨by decide, by decide⟩) [0, 1, 2] [3, 4] rfl rfl rfl rfl (by decide) (q0 := 0) rfl rfl rfl (fun _ _ _ _ _ => trivial) rfl rfl (Nat.le_of_ble_eq_true rfl) ⟨(show 8 * k + 8 ≤ 32 by omega), (show 800 * k + 800 ≤ 3200 by omega)⟩ (fun r' w' hp => ?_))
        obtain ⟨rfl, rfl⟩ := hp
        refine ⟨[2, 3, 4, 0, 1], (rsW tc h fa la hb cd (.ref a9) bs (nI pa.length) bl f1 f2) ++ (sbW tc hb v2 l2 (hdg sz (pa.getD k (0, 0))).length m2 a2), rfl, rfl, ?_⟩
        refine And.intro (fun c33 => ?_) (fun c33 => ?_)
        · skip
          have c33 : ¬ (q - (hdg sz (pa.getD k (0, 0))).length) < ((pa.getD k (0, 0)).2 - (pa.getD k (0, 0)).1 + 1) := Nat.not_lt.mpr ((nI_leI (a := ((pa.getD k (0, 0)).2 - (pa.getD k (0, 0)).1 + 1)) (b := (q - (hdg sz (pa.getD k (0, 0))).length)) (by omega) (by omega)).mp c33)
          refine vx_gon hC hFt hini (vx_ends hC hr hlk) jc_Rs_byteAmongParts 43 6 (by decide) rfl ?_
          refine sx_ord (sx_callV (wr := (sbW tc hb v2 l2 (hdg sz (pa.getD k (0, 0))).length m2 a2)) (wc := (rsW tc h fa la hb cd (.ref a9) bs (nI pa.length) bl f1 f2)) hC (c_Rs_partSize l D tys tc hty h fa la hb cd (.ref a9) bs bl pa f1 f2 hpa k (by omega)) (cw_V wm_Rs_partSize wl_Rs_67 wi_Rs_partSize ws_Rs_Rs_partSize hC.2.2.2.2.1 ⟨by decide, by decide⟩) [0, 1, 2] [3, 4] rfl rfl rfl rfl (by decide) (q0 := 0) rfl rfl rfl (fun _ _ _ _ _ => trivial) rfl rfl (Nat.le_of_ble_eq_true rfl) ⟨(show 8 * k + 8 ≤ 32 by omega), (show 800 * k + 800 ≤ 3200 by omega)⟩ (fun r' w' hp => ?_))
          obtain ⟨rfl, rfl⟩ := hp
          refine ⟨[2, 3, 4, 0, 1], (rsW tc h fa la hb cd (.ref a9) bs (nI pa.length) bl f1 f2) ++ (sbW tc hb v2 l2 (hdg sz (pa.getD k (0, 0))).length m2 a2), rfl, rfl, ?_⟩
          refine Vx.subL (lv' := [(0, .ref h), (1, .ref a9), (3, .int (nI (q - (hdg sz (pa.getD k (0, 0))).length) - nI ((pa.getD k (0, 0)).2 - (pa.getD k (0, 0)).1 + 1))), (4, .int (nI k))]) [1, 2, 0, 3] rfl ?_
          rw [pk_sub (a := q - (hdg sz (pa.getD k (0, 0))).length) (b := ((pa.getD k (0, 0)).2 - (pa.getD k (0, 0)).1 + 1)) (by omega)]
          refine vx_go hC hFt hini (vx_ends hC hr hlk) jc_Rs_byteAmongParts 49 (by decide) rfl ?_
          refine ⟨K 16, Or.inr (Or.inr ⟨_, _, rfl, (hF.2.1.1 16 _ rfl).1⟩), ?_⟩
          refine callv0 hC (c_St_length54 l D tys tc hty (K 16) [13, 10] crlf_W ) (hF.2.1.1 16 _ rfl).2 (hF.2.1.1 16 _ rfl).2.2.1 wm_St_length54 wl_Rs_72 wi_St_length54 ws_St_St_length54 ⟨by decide, by decide⟩ rfl rfl (Nat.le_of_ble_eq_true rfl) ⟨(show 8 * k + 8 ≤ 32 by omega), (show 800 * k + 800 ≤ 3200 by omega)⟩ (fun r' hp => ?_)
          subst hp
          refine And.intro (fun c52 => ?_) (fun c52 => ?_)
          · skip
            have c52 : ¬ (q - (hdg sz (pa.getD k (0, 0))).length - ((pa.getD k (0, 0)).2 - (pa.getD k (0, 0)).1 + 1)) < 2 := Nat.not_lt.mpr ((nI_leI (a := 2) (b := (q - (hdg sz (pa.getD k (0, 0))).length - ((pa.getD k (0, 0)).2 - (pa.getD k (0, 0)).1 + 1))) (by omega) (by omega)).mp c52)
            refine vx_go hC hFt hini (vx_ends hC hr hlk) jc_Rs_byteAmongParts 57 (by decide) rfl ?_
            refine ⟨K 16, Or.inr (Or.inr ⟨_, _, rfl, (hF.2.1.1 16 _ rfl).1⟩), ?_⟩
            refine callv0 hC (c_St_length54 l D tys tc hty (K 16) [13, 10] crlf_W ) (hF.2.1.1 16 _ rfl).2 (hF.2.1.1 16 _ rfl).2.2.1 wm_St_length54 wl_Rs_72 wi_St_length54 ws_St_St_length54 ⟨by decide, by decide⟩ rfl rfl (Nat.le_of_ble_eq_true rfl) ⟨(show 8 * k + 8 ≤ 32 by omega), (show 800 * k + 800 ≤ 3200 by omega)⟩ (fun r' hp => ?_)
            subst hp
            refine Vx.subL (lv' := [(0, .ref h), (1, .ref a9), (3, .int (nI (q - (hdg sz (pa.getD k (0, 0))).length - ((pa.getD k (0, 0)).2 - (pa.getD k (0, 0)).1 + 1)) - nI ([13, 10] : List Nat).length)), (4, .int (nI k + 1))]) [2, 3, 1, 0] rfl ?_
            rw [nI_1, pk_sub (show ([13, 10] : List Nat).length ≤ q - (hdg sz (pa.getD k (0, 0))).length - ((pa.getD k (0, 0)).2 - (pa.getD k (0, 0)).1 + 1) by show 2 ≤ _; omega)]
            refine Vx.cnt (k2 := 8 * (k + 1)) (n2 := 800 * (k + 1)) (by omega) (by omega) ?_
            rw [bwk_drop (by omega), if_neg (show ¬ q < psz sz (pa.getD k (0, 0)) by omega)] at hinv
            have hs9 := dr_sum (sz := sz) (show k < pa.length by omega)
            exact ih (pa.length - (k + 1)) (by omega) v2 l2 m2 a2 _ I2 G2 ⟨u2, w2, x2⟩ (k + 1) (q - (hdg sz (pa.getD k (0, 0))).length - ((pa.getD k (0, 0)).2 - (pa.getD k (0, 0)).1 + 1) - ([13, 10] : List Nat).length) (by rw [show q - (hdg sz (pa.getD k (0, 0))).length - ((pa.getD k (0, 0)).2 - (pa.getD k (0, 0)).1 + 1) - ([13, 10] : List Nat).length = q - psz sz (pa.getD k (0, 0)) by show q - (hdg sz (pa.getD k (0, 0))).length - ((pa.getD k (0, 0)).2 - (pa.getD k (0, 0)).1 + 1) - 2 = _; omega]; exact hinv) (by show q - (hdg sz (pa.getD k (0, 0))).length - ((pa.getD k (0, 0)).2 - (pa.getD k (0, 0)).1 + 1) - 2 < _; omega) (by omega) (by omega) rfl
          · skip
            have c52 : (q - (hdg sz (pa.getD k (0, 0))).length - ((pa.getD k (0, 0)).2 - (pa.getD k (0, 0)).1 + 1)) < 2 := Nat.not_le.mp (fun z => c52 ((nI_leI (a := 2) (b := (q - (hdg sz (pa.getD k (0, 0))).length - ((pa.getD k (0, 0)).2 - (pa.getD k (0, 0)).1 + 1))) (by omega) (by omega)).mpr z))
            refine ⟨K 16, Or.inr (Or.inr ⟨_, _, rfl, (hF.2.1.1 16 _ rfl).1⟩), ?_⟩
            refine callv0 hC (c_St_charAt56 l D tys tc hty (K 16) [13, 10] crlf_W (q - (hdg sz (pa.getD k (0, 0))).length - ((pa.getD k (0, 0)).2 - (pa.getD k (0, 0)).1 + 1)) c52) (hF.2.1.1 16 _ rfl).2 (hF.2.1.1 16 _ rfl).2.2.1 wm_St_charAt56 wl_Rs_88 wi_St_charAt56 ws_St_St_charAt56 ⟨by decide, by decide⟩ rfl rfl (Nat.le_of_ble_eq_true rfl) ⟨(show 8 * k + 8 ≤ 32 by omega), (show 800 * k + 800 ≤ 3200 by omega)⟩ (fun r' hp => ?_)
            subst hp
            refine And.intro (trivial) (And.intro ?_ (And.intro (show _ ≤ 32 by omega) (show _ ≤ 3200 by omega)))
            rw [← hinv, bwk_drop (by omega), if_pos (show q < psz sz (pa.getD k (0, 0)) by omega), show pbS sz num (pa.getD k (0, 0)) q = [13, 10].getD (q - (hdg sz (pa.getD k (0, 0))).length - ((pa.getD k (0, 0)).2 - (pa.getD k (0, 0)).1 + 1)) 0 by unfold pbS; rw [if_neg (by rw [← hhl]; exact c17), if_neg (by rw [← hhl]; exact c33), hhl]]
            exact ⟨rfl, _, rfl, _, v2, l2, m2, a2, rfl, I2, G2, u2, w2, x2⟩
        · skip
          have c33 : (q - (hdg sz (pa.getD k (0, 0))).length) < ((pa.getD k (0, 0)).2 - (pa.getD k (0, 0)).1 + 1) := Nat.not_le.mp (fun z => c33 ((nI_leI (a := ((pa.getD k (0, 0)).2 - (pa.getD k (0, 0)).1 + 1)) (b := (q - (hdg sz (pa.getD k (0, 0))).length)) (by omega) (by omega)).mpr z))
          refine And.intro rfl ?_
          refine And.intro rfl (And.intro rfl (And.intro (vp_in_nI (by have := hpa.1; omega) (by decide)) ?_))
          rw [nI_clamp (n := k) (by have := hpa.1; omega)]
          rw [e1]
          refine callv0 hC (c_Rp_byteAt l D tys tc hty a9 num sz ((pa.getD k (0, 0)).1 + (q - (hdg sz (pa.getD k (0, 0))).length)) (by omega) hnum) hF.1 hF.1.1 wm_Rp_byteAt wl_Rs_54 wi_Rp_byteAt ws_Rp_Rp_byteAt ⟨by decide, by decide⟩ rfl (show [Value.int (nI (pa.getD k (0, 0)).1 + nI (q - (hdg sz (pa.getD k (0, 0))).length)), Value.ref a9] = [Value.int (nI ((pa.getD k (0, 0)).1 + (q - (hdg sz (pa.getD k (0, 0))).length))), Value.ref a9] by rw [nI_add]) (Nat.le_of_ble_eq_true rfl) ⟨(show 8 * k + 8 ≤ 32 by omega), (show 800 * k + 800 ≤ 3200 by omega)⟩ (fun r' hp => ?_)
          subst hp
          refine And.intro (trivial) (And.intro ?_ (And.intro (show _ ≤ 32 by omega) (show _ ≤ 3200 by omega)))
          rw [← hinv, bwk_drop (by omega), if_pos (show q < psz sz (pa.getD k (0, 0)) by omega), show pbS sz num (pa.getD k (0, 0)) q = bt num ((pa.getD k (0, 0)).1 + (q - (hdg sz (pa.getD k (0, 0))).length)) by unfold pbS; rw [if_neg (by rw [← hhl]; exact c17), if_pos (by rw [← hhl]; exact c33), hhl]]
          exact ⟨rfl, _, rfl, _, v2, l2, m2, a2, rfl, I2, G2, u2, w2, x2⟩
      · skip
        have c17 : q < (hdg sz (pa.getD k (0, 0))).length := Nat.not_le.mp (fun z => c17 ((nI_leI (a := (hdg sz (pa.getD k (0, 0))).length) (b := q) (by omega) (by omega)).mpr z))
        refine And.intro rfl ?_
        refine sx_callV (wr := (rsW tc h fa la hb cd (.ref a9) bs (nI pa.length) bl f1 f2)) (wc := (sbW tc hb v2 l2 (hdg sz (pa.getD k (0, 0))).length m2 a2)) hC (c_Sb_charAt88 l D tys tc hty hb v2 l2 m2 a2 (hdg sz (pa.getD k (0, 0))) I2 G2 ⟨u2, w2, x2⟩ q c17) (cw_V wm_Sb_charAt88 wl_Rs_84 wi_Sb_charAt88 ws_Sb_Sb_charAt88 hC.2.2.2.2.1 ⟨by decide, by decide⟩) [3, 4] [0, 1, 2] rfl rfl rfl rfl (by decide) (q0 := 0) rfl rfl rfl (vx_ro (wc := (sbW tc hb v2 l2 (hdg sz (pa.getD k (0, 0))).length m2 a2)) csF_ro hC.2.2.2.2.2.2.1 (gt_cs hF.2) [3, 4] rfl) rfl rfl (Nat.le_of_ble_eq_true rfl) ⟨(show 8 * k + 8 ≤ 32 by omega), (show 800 * k + 800 ≤ 3200 by omega)⟩ (fun r' w' hp => ?_)
        obtain ⟨rfl, rfl⟩ := hp
        refine And.intro (trivial) (And.intro ?_ (And.intro (show _ ≤ 32 by omega) (show _ ≤ 3200 by omega)))
        rw [← hinv, bwk_drop (by omega), if_pos (show q < psz sz (pa.getD k (0, 0)) by omega), show pbS sz num (pa.getD k (0, 0)) q = (hdg sz (pa.getD k (0, 0))).getD q 0 from if_pos (by rw [← hhl]; exact c17)]
        exact ⟨rfl, _, rfl, _, v2, l2, m2, a2, rfl, I2, G2, u2, w2, x2⟩
set_option maxRecDepth 100000 in
set_option maxHeartbeats 4000000 in
theorem c_Rs_byteAtS (l : Launch) (D : va_G) (tys : List (ClassId × FieldType)) (tc : Nat → ClassId) (hty : ∀ i : Nat, i < 4 → tys[i]? = some (tc i, vx_ty i)) (h fa la hb : Nat) (cd : Int32) (ho : Bool) (pa : List (Nat × Nat)) (f1 f2 : Nat → Int32) (hpa : kpA f1 f2 pa) (a9 num sz : Nat) (hok : anOk cd (some (num, sz)) pa) (K : Nat → Nat) (v : Nat) (ml : Int32) (M9 : Nat) (a : Nat → Int32) (L : List Nat) (hL : sbI a L) (hf : sb_Fit a) (hm : L.length ≤ M9 ∧ 16 ≤ M9 ∧ M9 ≤ 100) (i : Int32) : Kt l y_Rs_byteAt (yw y_Rs_byteAt b_Rs_byteAt 2 (some .int)) 8 194 32 3200 D cls tys (fun A U H => spF a9 num sz A U H ∧ gtF K A U H) [.ref h, .int i] ((rsW tc h fa la hb cd (.ref a9) (nI (lnS cd (some (num, sz)) pa)) (nI pa.length) (bI ho) f1 f2) ++ (sbW tc hb v ml L.length M9 a)) (fun r w => r = some (.int (bdS cd (some (num, sz)) ho pa i)) ∧ ∃ w2, w = (rsW tc h fa la hb cd (.ref a9) (nI (lnS cd (some (num, sz)) pa)) (nI pa.length) (bI ho) f1 f2) ++ w2 ∧ sbX tc hb w2) := by
  refine Kt.of (ro_and (spF_ro a9 num sz) (gtF_ro K)) (by decide) rfl hty (Nat.le_of_ble_eq_true rfl) ?_
  intro p e s m args below meth c0 A hC hr hlk hnm hF
  have hFt : vx_Ft y_Rs_byteAt.cls (yw y_Rs_byteAt b_Rs_byteAt 2 (some .int)) cls cty ft_Rs := ft_of (fun w h => List.mem_cons_of_mem _ h) fl_Rs_in ft_Rs_b
  have hini : false = true → meth.name = "<init>" := fun h => by cases h
  have hp4 := hpa.1
  have hu := hok.2.2.1 _ rfl
  have hnum : num < 4 := hu.1
  have hsz : sz ≤ 100000 := hu.2
  have hlnb := lnS_le (kp_pa hpa) hok
  refine vx_go hC hFt hini (vx_ends hC hr hlk) jc_Rs_byteAt 0 (by decide) rfl ?_
  refine And.intro rfl ?_
  refine And.intro rfl ?_
  refine And.intro (fun c5 => ?_) (fun c5 => ?_)
  · skip
    have c5 : ho = true := bI_ne c5
    refine vx_go hC hFt hini (vx_ends hC hr hlk) jc_Rs_byteAt 12 (by decide) rfl ?_
    refine And.intro (trivial) (And.intro ?_ (And.intro (Nat.le_of_ble_eq_true rfl) (Nat.le_of_ble_eq_true rfl)))
    have hbd : bdS cd (some (num, sz)) ho pa i = -1 := by
      unfold bdS
      rw [c5]
      split
      · rfl
      · split
        · rfl
        · exact if_pos rfl
    rw [hbd]
    exact ⟨rfl, _, rfl, L, v, ml, M9, a, rfl, hL, hf, hm⟩
  · skip
    have c5 : ho = false := bI_eq c5
    refine And.intro (fun c7 => ?_) (fun c7 => ?_)
    · skip
      refine vx_go hC hFt hini (vx_ends hC hr hlk) jc_Rs_byteAt 12 (by decide) rfl ?_
      refine And.intro (trivial) (And.intro ?_ (And.intro (Nat.le_of_ble_eq_true rfl) (Nat.le_of_ble_eq_true rfl)))
      rw [bd_neg c7]
      exact ⟨rfl, _, rfl, L, v, ml, M9, a, rfl, hL, hf, hm⟩
    · skip
      obtain ⟨hin, hi31⟩ := i_nat c7
      refine And.intro rfl ?_
      refine And.intro (fun c11 => ?_) (fun c11 => ?_)
      · skip
        have c11 : ¬ (lnS cd (some (num, sz)) pa) ≤ i.toNatClampNeg := by
          rw [hin] at c11
          exact Nat.not_le.mpr ((nI_ltI hi31 (by omega)).mp c11)
        have hi6 : i.toNatClampNeg < 1000000 := by omega
        refine vx_go hC hFt hini (vx_ends hC hr hlk) jc_Rs_byteAt 14 (by decide) rfl ?_
        refine And.intro rfl ?_
        refine And.intro (fun c16 => ?_) (fun c16 => ?_)
        · skip
          have c16 : pa.length ≠ 0 := fun z => c16 (by rw [z]; rfl)
          have hc2 : ¬ cd = 200 := fun z => by
            have h9 := hok.2.1.mpr (fun y => c16 (by rw [y]; rfl))
            rw [h9] at z
            exact absurd z (by decide)
          refine vx_go hC hFt hini (vx_ends hC hr hlk) jc_Rs_byteAt 22 (by decide) rfl ?_
          refine And.intro rfl ?_
          refine And.intro (fun c25 => ?_) (fun c25 => ?_)
          · skip
            have c25 : ¬ pa.length = 1 := fun z => c25 (by rw [z]; rfl)
            refine vx_go hC hFt hini (vx_ends hC hr hlk) jc_Rs_byteAt 36 (by decide) rfl ?_
            refine And.intro rfl ?_
            refine sx_callV (wr := []) (wc := (rsW tc h fa la hb cd (.ref a9) (nI (lnS cd (some (num, sz)) pa)) (nI pa.length) (bI ho) f1 f2) ++ (sbW tc hb v ml L.length M9 a)) hC (c_Rs_byteAmongParts l D tys tc hty h fa la hb cd (nI (lnS cd (some (num, sz)) pa)) (bI ho) pa f1 f2 hpa a9 num sz hok K v ml M9 a L hL hf hm i.toNatClampNeg (by rw [lnS_two hc2 (by omega)] at c11; omega) hi6) (cw_V wm_Rs_byteAmongParts wl_Rs_60 wi_Rs_byteAmongParts ws_Rs_Rs_byteAmongParts hC.2.2.2.2.1 ⟨by decide, by decide⟩) [0, 1, 2, 3, 4] [] rfl rfl rfl rfl (by decide) (q0 := 0) rfl rfl rfl (vx_ro (wc := (rsW tc h fa la hb cd (.ref a9) (nI (lnS cd (some (num, sz)) pa)) (nI pa.length) (bI ho) f1 f2) ++ (sbW tc hb v ml L.length M9 a)) (ro_and (spF_ro a9 num sz) (gtF_ro K)) hC.2.2.2.2.2.2.1 hF [0, 1, 2, 3, 4] rfl) rfl (show [Value.int i, Value.ref a9, Value.ref h] = [Value.int (nI i.toNatClampNeg), Value.ref a9, Value.ref h] by rw [← hin]) (Nat.le_of_ble_eq_true rfl) ⟨by decide, by decide⟩ (fun r' w' hp => ?_)
            obtain ⟨rfl, w2, rfl, hX⟩ := hp
            refine And.intro (trivial) (And.intro ?_ (And.intro (Nat.le_of_ble_eq_true rfl) (Nat.le_of_ble_eq_true rfl)))
            rw [c5, bd_go c7 c11, bdV_2 hc2 (by omega)]
            exact ⟨rfl, w2, rfl, hX⟩
          · skip
            have c25 : pa.length = 1 := (nI_eq (b := 1) (by omega) (by omega)).mp c25
            obtain ⟨e1, e2, e3, e4⟩ := kp_get hpa (show 0 < pa.length by omega)
            have hln1 := lnS_one (st := cd) (num := num) (sz := sz) hc2 c25
            refine And.intro rfl ?_
            refine And.intro rfl ?_
            refine And.intro rfl (And.intro rfl (And.intro (show vp_in (nI 0) 4 from vp_in_nI (by decide) (by decide)) ?_))
            rw [show ((0, 0, 0, 0, 0) : wq_A).2.2.2.1.toNatClampNeg = 0 from rfl, e1]
            refine callv0 hC (c_Rp_byteAt l D tys tc hty a9 num sz ((pa.getD 0 (0, 0)).1 + i.toNatClampNeg) (by omega) hnum) hF.1 hF.1.1 wm_Rp_byteAt wl_Rs_54 wi_Rp_byteAt ws_Rp_Rp_byteAt ⟨by decide, by decide⟩ rfl (show [Value.int (nI (pa.getD 0 (0, 0)).1 + i), Value.ref a9] = [Value.int (nI ((pa.getD 0 (0, 0)).1 + i.toNatClampNeg)), Value.ref a9] by rw [← nI_add, ← hin]) (Nat.le_of_ble_eq_true rfl) ⟨by decide, by decide⟩ (fun r' hp => ?_)
            subst hp
            refine vx_go hC hFt hini (vx_ends hC hr hlk) jc_Rs_byteAt 41 (by decide) rfl ?_
            refine And.intro (trivial) (And.intro ?_ (And.intro (Nat.le_of_ble_eq_true rfl) (Nat.le_of_ble_eq_true rfl)))
            rw [c5, bd_go c7 c11, bdV_1 hc2 c25]
            exact ⟨rfl, _, rfl, L, v, ml, M9, a, rfl, hL, hf, hm⟩
        · skip
          have c16 : cd = 200 := Classical.byContradiction (fun z => c11 (by rw [List.eq_nil_of_length_eq_zero ((nI_eq (b := 0) (by omega) (by omega)).mp c16), lnS_nil z]; exact Nat.zero_le _))
          refine And.intro rfl ?_
          refine callv0 hC (c_Rp_byteAt l D tys tc hty a9 num sz i.toNatClampNeg (by omega) hnum) hF.1 hF.1.1 wm_Rp_byteAt wl_Rs_54 wi_Rp_byteAt ws_Rp_Rp_byteAt ⟨by decide, by decide⟩ rfl (show [Value.int i, Value.ref a9] = [Value.int (nI i.toNatClampNeg), Value.ref a9] by rw [← hin]) (Nat.le_of_ble_eq_true rfl) ⟨by decide, by decide⟩ (fun r' hp => ?_)
          subst hp
          refine And.intro (trivial) (And.intro ?_ (And.intro (Nat.le_of_ble_eq_true rfl) (Nat.le_of_ble_eq_true rfl)))
          rw [c5, bd_go c7 c11, bdV_0 c16]
          exact ⟨rfl, _, rfl, L, v, ml, M9, a, rfl, hL, hf, hm⟩
      · skip
        have c11 : (lnS cd (some (num, sz)) pa) ≤ i.toNatClampNeg := Nat.le_of_not_lt (fun z => c11 (by rw [hin]; exact (nI_ltI (by omega) (by omega)).mpr z))
        refine And.intro (trivial) (And.intro ?_ (And.intro (Nat.le_of_ble_eq_true rfl) (Nat.le_of_ble_eq_true rfl)))
        rw [bd_big c7 c11]
        exact ⟨rfl, _, rfl, L, v, ml, M9, a, rfl, hL, hf, hm⟩
set_option maxRecDepth 100000 in
set_option maxHeartbeats 4000000 in
theorem c_Rs_byteAtN (l : Launch) (D : va_G) (tys : List (ClassId × FieldType)) (tc : Nat → ClassId) (hty : ∀ i : Nat, i < 4 → tys[i]? = some (tc i, vx_ty i)) (h fa la hb : Nat) (cd : Int32) (ho : Bool) (pa : List (Nat × Nat)) (f1 f2 : Nat → Int32) (hpa : kpA f1 f2 pa) (hok : anOk cd none pa) (v : Nat) (ml : Int32) (M9 : Nat) (a : Nat → Int32) (L : List Nat) (hL : sbI a L) (hf : sb_Fit a) (hm : L.length ≤ M9 ∧ 16 ≤ M9 ∧ M9 ≤ 100) (i : Int32) : Kt l y_Rs_byteAt (yw y_Rs_byteAt b_Rs_byteAt 2 (some .int)) 8 194 32 3200 D cls tys (fun _ _ _ => True) [.ref h, .int i] ((rsW tc h fa la hb cd .null (nI (lnS cd none pa)) (nI pa.length) (bI ho) f1 f2) ++ (sbW tc hb v ml L.length M9 a)) (fun r w => r = some (.int (bdS cd none ho pa i)) ∧ ∃ w2, w = (rsW tc h fa la hb cd .null (nI (lnS cd none pa)) (nI pa.length) (bI ho) f1 f2) ++ w2 ∧ sbX tc hb w2) := by
  refine Kt.of ro_true (by decide) rfl hty (Nat.le_of_ble_eq_true rfl) ?_
  intro p e s m args below meth c0 A hC hr hlk hnm hF
  have hFt : vx_Ft y_Rs_byteAt.cls (yw y_Rs_byteAt b_Rs_byteAt 2 (some .int)) cls cty ft_Rs := ft_of (fun w h => List.mem_cons_of_mem _ h) fl_Rs_in ft_Rs_b
  have hini : false = true → meth.name = "<init>" := fun h => by cases h
  refine vx_go hC hFt hini (vx_ends hC hr hlk) jc_Rs_byteAt 0 (by decide) rfl ?_
  refine And.intro rfl ?_
  refine vx_go hC hFt hini (vx_ends hC hr hlk) jc_Rs_byteAt 12 (by decide) rfl ?_
  refine And.intro (trivial) (And.intro ?_ (And.intro (Nat.le_of_ble_eq_true rfl) (Nat.le_of_ble_eq_true rfl)))
  have hbd : bdS cd none ho pa i = -1 := by
    unfold bdS
    split
    · rfl
    · exact if_pos (Nat.zero_le _)
  rw [hbd]
  exact ⟨rfl, _, rfl, L, v, ml, M9, a, rfl, hL, hf, hm⟩
theorem c_Rs_byteAt (l : Launch) (D : va_G) (tys : List (ClassId × FieldType)) (tc : Nat → ClassId) (hty : ∀ i : Nat, i < 4 → tys[i]? = some (tc i, vx_ty i)) (h fa la hb : Nat) (cd : Int32) (ho : Bool) (pa : List (Nat × Nat)) (f1 f2 : Nat → Int32) (hpa : kpA f1 f2 pa) (sb9 : Option (Nat × Nat × Nat)) (hok : anOk cd (sjN sb9) pa) (K : Nat → Nat) (v : Nat) (ml : Int32) (M9 : Nat) (a : Nat → Int32) (L : List Nat) (hL : sbI a L) (hf : sb_Fit a) (hm : L.length ≤ M9 ∧ 16 ≤ M9 ∧ M9 ≤ 100) (i : Int32) : Kt l y_Rs_byteAt (yw y_Rs_byteAt b_Rs_byteAt 2 (some .int)) 8 194 32 3200 D cls tys (fun A U H => sjF sb9 A U H ∧ gtF K A U H) [.ref h, .int i] ((rsW tc h fa la hb cd (sjV sb9) (nI (lnS cd (sjN sb9) pa)) (nI pa.length) (bI ho) f1 f2) ++ (sbW tc hb v ml L.length M9 a)) (fun r w => r = some (.int (bdS cd (sjN sb9) ho pa i)) ∧ ∃ w2, w = (rsW tc h fa la hb cd (sjV sb9) (nI (lnS cd (sjN sb9) pa)) (nI pa.length) (bI ho) f1 f2) ++ w2 ∧ sbX tc hb w2) := by
  cases sb9 with
  | some u => exact c_Rs_byteAtS l D tys tc hty h fa la hb cd ho pa f1 f2 hpa u.1 u.2.1 u.2.2 hok K v ml M9 a L hL hf hm i
  | none => exact Kt.imp (ro_and ro_true (gtF_ro K)) (fun _ _ _ _ => trivial) (c_Rs_byteAtN l D tys tc hty h fa la hb cd ho pa f1 f2 hpa hok v ml M9 a L hL hf hm i)
def j_Rs_settleR : wq_J := [(.aload_n 0, (0, 0, 0, 0, 0)), (.iload_n 1, (0, 0, 0, 0, 0)), (.putfield 9, (1, 0, 0, 0, 0)), (.aload_n 0, (0, 0, 0, 0, 0)), (.aload_n 2, (0, 0, 0, 0, 0)), (.putfield 29, (1, 0, 1, 0, 0)), (.aload_n 0, (0, 0, 0, 0, 0)), (.iload_n 3, (0, 0, 0, 0, 0)), (.putfield 33, (1, 0, 6, 0, 0)), (.aload_n 0, (0, 0, 0, 0, 0)), (.aload_n 0, (0, 0, 0, 0, 0)), (.getfield 9, (1, 0, 0, 0, 0)), (.sipush 206, (0, 0, 0, 206, 0)), (.if_icmp .ne 11, (0, 34, 0, 0, 0)), (.aload 4, (0, 0, 0, 0, 0)), (.getfield 37, (1, 5, 8, 0, 0)), (.goto 4, (0, 35, 0, 0, 0)), (.iconst 0, (0, 0, 0, 0, 0)), (.putfield 42, (1, 0, 3, 0, 0)), (.iconst 0, (0, 0, 0, 0, 0)), (.istore 5, (0, 0, 0, 0, 0)), (.iload 5, (0, 0, 0, 0, 0)), (.aload_n 0, (0, 0, 0, 0, 0)), (.getfield 42, (1, 0, 3, 0, 0)), (.if_icmp .ge 45, (0, 92, 0, 0, 0)), (.iload 5, (0, 0, 0, 0, 0)), (.iconst 4, (0, 0, 0, 4, 0)), (.if_icmp .ge 39, (0, 92, 0, 0, 0)), (.aload_n 0, (0, 0, 0, 0, 0)), (.getfield 15, (1, 0, 4, 0, 0)), (.iload 5, (0, 0, 0, 0, 0)), (.aload 4, (0, 0, 0, 0, 0)), (.getfield 45, (1, 5, 5, 0, 0)), (.iload 5, (0, 0, 0, 0, 0)), (.iaload, (1, 6, 0, 0, 0)), (.iastore, (1, 1, 0, 0, 0)), (.aload_n 0, (0, 0, 0, 0, 0)), (.getfield 19, (1, 0, 5, 0, 0)), (.iload 5, (0, 0, 0, 0, 0)), (.aload 4, (0, 0, 0, 0, 0)), (.getfield 46, (1, 5, 6, 0, 0)), (.iload 5, (0, 0, 0, 0, 0)), (.iaload, (1, 7, 0, 0, 0)), (.iastore, (1, 2, 0, 0, 0)), (.iinc 5 1, (0, 0, 0, 1, 0)), (.goto (-48), (0, 41, 0, 0, 0)), (.aload_n 0, (0, 0, 0, 0, 0)), (.aload_n 0, (0, 0, 0, 0, 0)), (.invokevirtual 47, (0, 0, 0, 0, 0)), (.putfield 51, (1, 0, 2, 0, 0)), (.return_, (0, 0, 0, 0, 0))]
theorem jc_Rs_settleR : wq_c b_Rs_settle 6 j_Rs_settleR 0 = true := by decide +kernel
set_option maxRecDepth 100000 in
set_option maxHeartbeats 4000000 in
theorem c_Rs_settleN (l : Launch) (D : va_G) (tys : List (ClassId × FieldType)) (tc : Nat → ClassId) (hty : ∀ i : Nat, i < 4 → tys[i]? = some (tc i, vx_ty i)) (h fa la hb : Nat) (cd0 : Int32) (sj0 : Value) (bs pc0 bl0 : Int32) (f1 f2 : Nat → Int32) (K : Nat → Nat) (v : Nat) (ml : Int32) (M9 : Nat) (a : Nat → Int32) (L : List Nat) (hL : sbI a L) (hf : sb_Fit a) (hm : L.length ≤ M9 ∧ 16 ≤ M9 ∧ M9 ≤ 100) (hr9 ra sa ga ka : Nat) (z1 z2 : Int32) (ss : Nat) (sp : Int32) (kp : List (Nat × Nat)) (g1 g2 : Nat → Int32) (hkp : kpA g1 g2 kp) (cd : Int32) (ho : Bool) (pa2 : List (Nat × Nat)) (hy2 : cd = 206 → pa2 = kp) (hn2 : ¬ cd = 206 → pa2 = []) (hok : anOk cd (sjN (none : Option (Nat × Nat × Nat))) pa2) : Kt l y_Rs_settle (yw y_Rs_settle b_Rs_settle 6 none) 8 192 32 3200 D cls tys (fun A U H => sjF (none : Option (Nat × Nat × Nat)) A U H ∧ gtF K A U H) [.ref h, .int cd, .null, .int (bI ho), .ref hr9] ((rsW tc h fa la hb cd0 sj0 bs pc0 bl0 f1 f2) ++ (sbW tc hb v ml L.length M9 a) ++ [(hr9, .inr (4, [.ref ra, .int z1, .int z2, .ref sa, .int (nI ss), .ref ga, .ref ka, .int sp, .int (nI kp.length)])), (ga, .inl (tc 0, 4, .inl g1)), (ka, .inl (tc 0, 4, .inl g2))]) (fun r w => r = none ∧ ∃ q1 q2 w2, w = (rsW tc h fa la hb cd (sjV (none : Option (Nat × Nat × Nat))) (nI (lnS cd (sjN (none : Option (Nat × Nat × Nat))) pa2)) (nI pa2.length) (bI ho) q1 q2) ++ w2 ++ [(hr9, .inr (4, [.ref ra, .int z1, .int z2, .ref sa, .int (nI ss), .ref ga, .ref ka, .int sp, .int (nI kp.length)])), (ga, .inl (tc 0, 4, .inl g1)), (ka, .inl (tc 0, 4, .inl g2))] ∧ sbX tc hb w2 ∧ kpA q1 q2 pa2) := by
  refine Kt.of (ro_and (sjF_ro (none : Option (Nat × Nat × Nat))) (gtF_ro K)) (by decide) rfl hty (Nat.le_of_ble_eq_true rfl) ?_
  intro p e s m args below meth c0 A hC hr hlk hnm hF
  have hFt : vx_Ft y_Rs_settle.cls (yw y_Rs_settle b_Rs_settle 6 none) cls cty ft_Rs := ft_of (fun w h => List.mem_cons_of_mem _ h) fl_Rs_in ft_Rs_b
  have hini : false = true → meth.name = "<init>" := fun h => by cases h
  have h4 := hok.2.2.2.1
  refine vx_gon hC hFt hini (vx_ends hC hr hlk) jc_Rs_settleR 0 21 (by decide) rfl ?_
  refine And.intro rfl (And.intro (And.intro rfl rfl) ?_)
  refine And.intro rfl (And.intro (And.intro rfl rfl) ?_)
  refine And.intro rfl (And.intro (And.intro (by cases ho <;> rfl) (by cases ho <;> rfl)) ?_)
  refine And.intro rfl ?_
  refine And.intro (fun c13 => ?_) (fun c13 => ?_)
  · skip
    have c13 : ¬ cd = 206 := c13
    refine vx_gon hC hFt hini (vx_ends hC hr hlk) jc_Rs_settleR 17 4 (by decide) rfl ?_
    refine And.intro rfl (And.intro (And.intro rfl rfl) ?_)
    refine Vx.subL (lv' := [(0, .ref h), (4, .ref hr9), (5, .int (nI 0))]) [1, 5, 0] rfl ?_
    obtain ⟨k, hk0⟩ : ∃ k : Nat, k = 0 := ⟨_, rfl⟩
    refine Vx.eqs rfl (lv2 := [(0, .ref h), (4, .ref hr9), (5, .int (nI k))]) (by rw [hk0]) rfl (w2 := (rsW tc h fa la hb cd (sjV (none : Option (Nat × Nat × Nat))) bs (nI pa2.length) (bI ho) f1 f2) ++ (sbW tc hb v ml L.length M9 a) ++ [(hr9, .inr (4, [.ref ra, .int z1, .int z2, .ref sa, .int (nI ss), .ref ga, .ref ka, .int sp, .int (nI kp.length)])), (ga, .inl (tc 0, 4, .inl g1)), (ka, .inl (tc 0, 4, .inl g2))]) (by rw [hn2 c13]; rfl) ?_
    have hcp : ∀ j, j < k → f1 j = g1 j ∧ f2 j = g2 j := fun j hj => by omega
    have hkl : k ≤ pa2.length := by omega
    clear hk0
    induction hn : pa2.length - k using Nat.strongRecOn generalizing k f1 f2 with
    | _ m9 ih =>
      refine vx_go hC hFt hini (vx_ends hC hr hlk) jc_Rs_settleR 21 (by decide) rfl ?_
      refine And.intro rfl ?_
      refine And.intro (fun c24 => ?_) (fun c24 => ?_)
      · skip
        have c24 : pa2.length ≤ k := (nI_leI (by omega) (by omega)).mp c24
        refine vx_go hC hFt hini (vx_ends hC hr hlk) jc_Rs_settleR 46 (by decide) rfl ?_
        have hk2 : kpA f1 f2 pa2 := ⟨h4, fun i hi => by
          have e206 : cd = 206 := Classical.byContradiction (fun z => by rw [hn2 z] at hi; exact absurd hi (Nat.not_lt_zero _))
          obtain ⟨q1, q2⟩ := hcp i (by omega)
          rw [q1, q2, hy2 e206]
          exact hkp.2 i (by rw [← hy2 e206]; exact hi)⟩
        refine sx_ord (sx_callV (wr := [(hr9, .inr (4, [.ref ra, .int z1, .int z2, .ref sa, .int (nI ss), .ref ga, .ref ka, .int sp, .int (nI kp.length)])), (ga, .inl (tc 0, 4, .inl g1)), (ka, .inl (tc 0, 4, .inl g2))]) (wc := (rsW tc h fa la hb cd (sjV (none : Option (Nat × Nat × Nat))) bs (nI pa2.length) (bI ho) f1 f2) ++ (sbW tc hb v ml L.length M9 a)) hC (c_Rs_measure l D tys tc hty h fa la hb cd bs (bI ho) pa2 f1 f2 hk2 (none : Option (Nat × Nat × Nat)) hok K v ml M9 a L hL hf hm) (cw_V wm_Rs_measure wl_Rs_47 wi_Rs_measure ws_Rs_Rs_measure hC.2.2.2.2.1 ⟨by decide, by decide⟩) [0, 1, 2, 3, 4] [5, 6, 7] rfl rfl rfl rfl (by decide) (q0 := 0) rfl rfl rfl (vx_ro (wc := (rsW tc h fa la hb cd (sjV (none : Option (Nat × Nat × Nat))) bs (nI pa2.length) (bI ho) f1 f2) ++ (sbW tc hb v ml L.length M9 a)) (ro_and (sjF_ro (none : Option (Nat × Nat × Nat))) (gtF_ro K)) hC.2.2.2.2.2.2.1 hF [0, 1, 2, 3, 4] rfl) rfl rfl (Nat.le_of_ble_eq_true rfl) ⟨by decide, by decide⟩ (fun r' w' hp => ?_))
        obtain ⟨rfl, w2, rfl, L2, v2, l2, m2, a2, rfl, hX⟩ := hp
        refine ⟨[3, 4, 5, 6, 7, 0, 1, 2], (rsW tc h fa la hb cd (sjV (none : Option (Nat × Nat × Nat))) bs (nI pa2.length) (bI ho) f1 f2) ++ (sbW tc hb v2 l2 L2.length m2 a2) ++ [(hr9, .inr (4, [.ref ra, .int z1, .int z2, .ref sa, .int (nI ss), .ref ga, .ref ka, .int sp, .int (nI kp.length)])), (ga, .inl (tc 0, 4, .inl g1)), (ka, .inl (tc 0, 4, .inl g2))], rfl, rfl, ?_⟩
        refine And.intro rfl (And.intro (And.intro rfl rfl) ?_)
        refine And.intro (trivial) (And.intro ?_ (And.intro (Nat.le_of_ble_eq_true rfl) (Nat.le_of_ble_eq_true rfl)))
        exact ⟨rfl, f1, f2, _, rfl, ⟨L2, v2, l2, m2, a2, rfl, hX⟩, hk2⟩
      · skip
        have c24 : ¬ pa2.length ≤ k := fun z => c24 ((nI_leI (by omega) (by omega)).mpr z)
        have c206 : cd = 206 := Classical.byContradiction (fun z => by rw [hn2 z] at c24; exact c24 (Nat.zero_le _))
        refine And.intro (fun c27 => ?_) (fun c27 => ?_)
        · skip
          exact absurd ((nI_leI (a := 4) (b := k) (by omega) (by omega)).mp c27) (by omega)
        · skip
          refine And.intro rfl ?_
          refine And.intro rfl ?_
          refine And.intro rfl (And.intro rfl (And.intro (vp_in_nI (by omega) (by decide)) ?_))
          rw [nI_clamp (n := k) (by omega)]
          refine And.intro rfl (And.intro rfl (And.intro (vp_in_nI (by omega) (by decide)) ?_))
          rw [nI_clamp (n := k) (by omega)]
          refine And.intro rfl ?_
          refine And.intro rfl ?_
          refine And.intro rfl (And.intro rfl (And.intro (vp_in_nI (by omega) (by decide)) ?_))
          rw [nI_clamp (n := k) (by omega)]
          refine And.intro rfl (And.intro rfl (And.intro (vp_in_nI (by omega) (by decide)) ?_))
          rw [nI_clamp (n := k) (by omega)]
          refine Vx.subL (lv' := [(0, .ref h), (4, .ref hr9), (5, .int (nI k + 1))]) [1, 2, 0] rfl ?_
          rw [nI_1]
          exact ih (pa2.length - (k + 1)) (by omega) (upd f1 k (g1 k)) (upd f2 k (g2 k)) (k + 1) (fun j hj => by
            by_cases e9 : j = k
            · rw [e9]; exact ⟨pk_us, pk_us⟩
            · rw [pk_un e9, pk_un e9]; exact hcp j (by omega)) (by omega) rfl
  · skip
    have c13 : cd = 206 := c13
    refine And.intro rfl ?_
    refine vx_gon hC hFt hini (vx_ends hC hr hlk) jc_Rs_settleR 18 3 (by decide) rfl ?_
    refine And.intro rfl (And.intro (And.intro rfl rfl) ?_)
    refine Vx.subL (lv' := [(0, .ref h), (4, .ref hr9), (5, .int (nI 0))]) [1, 5, 0] rfl ?_
    obtain ⟨k, hk0⟩ : ∃ k : Nat, k = 0 := ⟨_, rfl⟩
    refine Vx.eqs rfl (lv2 := [(0, .ref h), (4, .ref hr9), (5, .int (nI k))]) (by rw [hk0]) rfl (w2 := (rsW tc h fa la hb cd (sjV (none : Option (Nat × Nat × Nat))) bs (nI pa2.length) (bI ho) f1 f2) ++ (sbW tc hb v ml L.length M9 a) ++ [(hr9, .inr (4, [.ref ra, .int z1, .int z2, .ref sa, .int (nI ss), .ref ga, .ref ka, .int sp, .int (nI kp.length)])), (ga, .inl (tc 0, 4, .inl g1)), (ka, .inl (tc 0, 4, .inl g2))]) (by rw [hy2 c13]; rfl) ?_
    have hcp : ∀ j, j < k → f1 j = g1 j ∧ f2 j = g2 j := fun j hj => by omega
    have hkl : k ≤ pa2.length := by omega
    clear hk0
    induction hn : pa2.length - k using Nat.strongRecOn generalizing k f1 f2 with
    | _ m9 ih =>
      refine vx_go hC hFt hini (vx_ends hC hr hlk) jc_Rs_settleR 21 (by decide) rfl ?_
      refine And.intro rfl ?_
      refine And.intro (fun c24 => ?_) (fun c24 => ?_)
      · skip
        have c24 : pa2.length ≤ k := (nI_leI (by omega) (by omega)).mp c24
        refine vx_go hC hFt hini (vx_ends hC hr hlk) jc_Rs_settleR 46 (by decide) rfl ?_
        have hk2 : kpA f1 f2 pa2 := ⟨h4, fun i hi => by
          have e206 : cd = 206 := Classical.byContradiction (fun z => by rw [hn2 z] at hi; exact absurd hi (Nat.not_lt_zero _))
          obtain ⟨q1, q2⟩ := hcp i (by omega)
          rw [q1, q2, hy2 e206]
          exact hkp.2 i (by rw [← hy2 e206]; exact hi)⟩
        refine sx_ord (sx_callV (wr := [(hr9, .inr (4, [.ref ra, .int z1, .int z2, .ref sa, .int (nI ss), .ref ga, .ref ka, .int sp, .int (nI kp.length)])), (ga, .inl (tc 0, 4, .inl g1)), (ka, .inl (tc 0, 4, .inl g2))]) (wc := (rsW tc h fa la hb cd (sjV (none : Option (Nat × Nat × Nat))) bs (nI pa2.length) (bI ho) f1 f2) ++ (sbW tc hb v ml L.length M9 a)) hC (c_Rs_measure l D tys tc hty h fa la hb cd bs (bI ho) pa2 f1 f2 hk2 (none : Option (Nat × Nat × Nat)) hok K v ml M9 a L hL hf hm) (cw_V wm_Rs_measure wl_Rs_47 wi_Rs_measure ws_Rs_Rs_measure hC.2.2.2.2.1 ⟨by decide, by decide⟩) [0, 1, 2, 3, 4] [5, 6, 7] rfl rfl rfl rfl (by decide) (q0 := 0) rfl rfl rfl (vx_ro (wc := (rsW tc h fa la hb cd (sjV (none : Option (Nat × Nat × Nat))) bs (nI pa2.length) (bI ho) f1 f2) ++ (sbW tc hb v ml L.length M9 a)) (ro_and (sjF_ro (none : Option (Nat × Nat × Nat))) (gtF_ro K)) hC.2.2.2.2.2.2.1 hF [0, 1, 2, 3, 4] rfl) rfl rfl (Nat.le_of_ble_eq_true rfl) ⟨by decide, by decide⟩ (fun r' w' hp => ?_))
        obtain ⟨rfl, w2, rfl, L2, v2, l2, m2, a2, rfl, hX⟩ := hp
        refine ⟨[3, 4, 5, 6, 7, 0, 1, 2], (rsW tc h fa la hb cd (sjV (none : Option (Nat × Nat × Nat))) bs (nI pa2.length) (bI ho) f1 f2) ++ (sbW tc hb v2 l2 L2.length m2 a2) ++ [(hr9, .inr (4, [.ref ra, .int z1, .int z2, .ref sa, .int (nI ss), .ref ga, .ref ka, .int sp, .int (nI kp.length)])), (ga, .inl (tc 0, 4, .inl g1)), (ka, .inl (tc 0, 4, .inl g2))], rfl, rfl, ?_⟩
        refine And.intro rfl (And.intro (And.intro rfl rfl) ?_)
        refine And.intro (trivial) (And.intro ?_ (And.intro (Nat.le_of_ble_eq_true rfl) (Nat.le_of_ble_eq_true rfl)))
        exact ⟨rfl, f1, f2, _, rfl, ⟨L2, v2, l2, m2, a2, rfl, hX⟩, hk2⟩
      · skip
        have c24 : ¬ pa2.length ≤ k := fun z => c24 ((nI_leI (by omega) (by omega)).mpr z)
        have c206 : cd = 206 := Classical.byContradiction (fun z => by rw [hn2 z] at c24; exact c24 (Nat.zero_le _))
        refine And.intro (fun c27 => ?_) (fun c27 => ?_)
        · skip
          exact absurd ((nI_leI (a := 4) (b := k) (by omega) (by omega)).mp c27) (by omega)
        · skip
          refine And.intro rfl ?_
          refine And.intro rfl ?_
          refine And.intro rfl (And.intro rfl (And.intro (vp_in_nI (by omega) (by decide)) ?_))
          rw [nI_clamp (n := k) (by omega)]
          refine And.intro rfl (And.intro rfl (And.intro (vp_in_nI (by omega) (by decide)) ?_))
          rw [nI_clamp (n := k) (by omega)]
          refine And.intro rfl ?_
          refine And.intro rfl ?_
          refine And.intro rfl (And.intro rfl (And.intro (vp_in_nI (by omega) (by decide)) ?_))
          rw [nI_clamp (n := k) (by omega)]
          refine And.intro rfl (And.intro rfl (And.intro (vp_in_nI (by omega) (by decide)) ?_))
          rw [nI_clamp (n := k) (by omega)]
          refine Vx.subL (lv' := [(0, .ref h), (4, .ref hr9), (5, .int (nI k + 1))]) [1, 2, 0] rfl ?_
          rw [nI_1]
          exact ih (pa2.length - (k + 1)) (by omega) (upd f1 k (g1 k)) (upd f2 k (g2 k)) (k + 1) (fun j hj => by
            by_cases e9 : j = k
            · rw [e9]; exact ⟨pk_us, pk_us⟩
            · rw [pk_un e9, pk_un e9]; exact hcp j (by omega)) (by omega) rfl
set_option maxRecDepth 100000 in
set_option maxHeartbeats 4000000 in
theorem c_Rs_settleS (l : Launch) (D : va_G) (tys : List (ClassId × FieldType)) (tc : Nat → ClassId) (hty : ∀ i : Nat, i < 4 → tys[i]? = some (tc i, vx_ty i)) (h fa la hb : Nat) (cd0 : Int32) (sj0 : Value) (bs pc0 bl0 : Int32) (f1 f2 : Nat → Int32) (K : Nat → Nat) (v : Nat) (ml : Int32) (M9 : Nat) (a : Nat → Int32) (L : List Nat) (hL : sbI a L) (hf : sb_Fit a) (hm : L.length ≤ M9 ∧ 16 ≤ M9 ∧ M9 ≤ 100) (hr9 ra sa ga ka : Nat) (z1 z2 : Int32) (ss : Nat) (sp : Int32) (kp : List (Nat × Nat)) (g1 g2 : Nat → Int32) (hkp : kpA g1 g2 kp) (cd : Int32) (v9 : Nat × Nat × Nat) (ho : Bool) (pa2 : List (Nat × Nat)) (hy2 : cd = 206 → pa2 = kp) (hn2 : ¬ cd = 206 → pa2 = []) (hok : anOk cd (sjN (some v9)) pa2) : Kt l y_Rs_settle (yw y_Rs_settle b_Rs_settle 6 none) 8 192 32 3200 D cls tys (fun A U H => sjF (some v9) A U H ∧ gtF K A U H) [.ref h, .int cd, (.ref v9.1), .int (bI ho), .ref hr9] ((rsW tc h fa la hb cd0 sj0 bs pc0 bl0 f1 f2) ++ (sbW tc hb v ml L.length M9 a) ++ [(hr9, .inr (4, [.ref ra, .int z1, .int z2, .ref sa, .int (nI ss), .ref ga, .ref ka, .int sp, .int (nI kp.length)])), (ga, .inl (tc 0, 4, .inl g1)), (ka, .inl (tc 0, 4, .inl g2))]) (fun r w => r = none ∧ ∃ q1 q2 w2, w = (rsW tc h fa la hb cd (sjV (some v9)) (nI (lnS cd (sjN (some v9)) pa2)) (nI pa2.length) (bI ho) q1 q2) ++ w2 ++ [(hr9, .inr (4, [.ref ra, .int z1, .int z2, .ref sa, .int (nI ss), .ref ga, .ref ka, .int sp, .int (nI kp.length)])), (ga, .inl (tc 0, 4, .inl g1)), (ka, .inl (tc 0, 4, .inl g2))] ∧ sbX tc hb w2 ∧ kpA q1 q2 pa2) := by
  refine Kt.of (ro_and (sjF_ro (some v9)) (gtF_ro K)) (by decide) rfl hty (Nat.le_of_ble_eq_true rfl) ?_
  intro p e s m args below meth c0 A hC hr hlk hnm hF
  have hFt : vx_Ft y_Rs_settle.cls (yw y_Rs_settle b_Rs_settle 6 none) cls cty ft_Rs := ft_of (fun w h => List.mem_cons_of_mem _ h) fl_Rs_in ft_Rs_b
  have hini : false = true → meth.name = "<init>" := fun h => by cases h
  have h4 := hok.2.2.2.1
  refine vx_gon hC hFt hini (vx_ends hC hr hlk) jc_Rs_settleR 0 21 (by decide) rfl ?_
  refine And.intro rfl (And.intro (And.intro rfl rfl) ?_)
  refine And.intro rfl (And.intro (And.intro rfl rfl) ?_)
  refine And.intro rfl (And.intro (And.intro (by cases ho <;> rfl) (by cases ho <;> rfl)) ?_)
  refine And.intro rfl ?_
  refine And.intro (fun c13 => ?_) (fun c13 => ?_)
  · skip
    have c13 : ¬ cd = 206 := c13
    refine vx_gon hC hFt hini (vx_ends hC hr hlk) jc_Rs_settleR 17 4 (by decide) rfl ?_
    refine And.intro rfl (And.intro (And.intro rfl rfl) ?_)
    refine Vx.subL (lv' := [(0, .ref h), (4, .ref hr9), (5, .int (nI 0))]) [1, 5, 0] rfl ?_
    obtain ⟨k, hk0⟩ : ∃ k : Nat, k = 0 := ⟨_, rfl⟩
    refine Vx.eqs rfl (lv2 := [(0, .ref h), (4, .ref hr9), (5, .int (nI k))]) (by rw [hk0]) rfl (w2 := (rsW tc h fa la hb cd (sjV (some v9)) bs (nI pa2.length) (bI ho) f1 f2) ++ (sbW tc hb v ml L.length M9 a) ++ [(hr9, .inr (4, [.ref ra, .int z1, .int z2, .ref sa, .int (nI ss), .ref ga, .ref ka, .int sp, .int (nI kp.length)])), (ga, .inl (tc 0, 4, .inl g1)), (ka, .inl (tc 0, 4, .inl g2))]) (by rw [hn2 c13]; rfl) ?_
    have hcp : ∀ j, j < k → f1 j = g1 j ∧ f2 j = g2 j := fun j hj => by omega
    have hkl : k ≤ pa2.length := by omega
    clear hk0
    induction hn : pa2.length - k using Nat.strongRecOn generalizing k f1 f2 with
    | _ m9 ih =>
      refine vx_go hC hFt hini (vx_ends hC hr hlk) jc_Rs_settleR 21 (by decide) rfl ?_
      refine And.intro rfl ?_
      refine And.intro (fun c24 => ?_) (fun c24 => ?_)
      · skip
        have c24 : pa2.length ≤ k := (nI_leI (by omega) (by omega)).mp c24
        refine vx_go hC hFt hini (vx_ends hC hr hlk) jc_Rs_settleR 46 (by decide) rfl ?_
        have hk2 : kpA f1 f2 pa2 := ⟨h4, fun i hi => by
          have e206 : cd = 206 := Classical.byContradiction (fun z => by rw [hn2 z] at hi; exact absurd hi (Nat.not_lt_zero _))
          obtain ⟨q1, q2⟩ := hcp i (by omega)
          rw [q1, q2, hy2 e206]
          exact hkp.2 i (by rw [← hy2 e206]; exact hi)⟩
        refine sx_ord (sx_callV (wr := [(hr9, .inr (4, [.ref ra, .int z1, .int z2, .ref sa, .int (nI ss), .ref ga, .ref ka, .int sp, .int (nI kp.length)])), (ga, .inl (tc 0, 4, .inl g1)), (ka, .inl (tc 0, 4, .inl g2))]) (wc := (rsW tc h fa la hb cd (sjV (some v9)) bs (nI pa2.length) (bI ho) f1 f2) ++ (sbW tc hb v ml L.length M9 a)) hC (c_Rs_measure l D tys tc hty h fa la hb cd bs (bI ho) pa2 f1 f2 hk2 (some v9) hok K v ml M9 a L hL hf hm) (cw_V wm_Rs_measure wl_Rs_47 wi_Rs_measure ws_Rs_Rs_measure hC.2.2.2.2.1 ⟨by decide, by decide⟩) [0, 1, 2, 3, 4] [5, 6, 7] rfl rfl rfl rfl (by decide) (q0 := 0) rfl rfl rfl (vx_ro (wc := (rsW tc h fa la hb cd (sjV (some v9)) bs (nI pa2.length) (bI ho) f1 f2) ++ (sbW tc hb v ml L.length M9 a)) (ro_and (sjF_ro (some v9)) (gtF_ro K)) hC.2.2.2.2.2.2.1 hF [0, 1, 2, 3, 4] rfl) rfl rfl (Nat.le_of_ble_eq_true rfl) ⟨by decide, by decide⟩ (fun r' w' hp => ?_))
        obtain ⟨rfl, w2, rfl, L2, v2, l2, m2, a2, rfl, hX⟩ := hp
        refine ⟨[3, 4, 5, 6, 7, 0, 1, 2], (rsW tc h fa la hb cd (sjV (some v9)) bs (nI pa2.length) (bI ho) f1 f2) ++ (sbW tc hb v2 l2 L2.length m2 a2) ++ [(hr9, .inr (4, [.ref ra, .int z1, .int z2, .ref sa, .int (nI ss), .ref ga, .ref ka, .int sp, .int (nI kp.length)])), (ga, .inl (tc 0, 4, .inl g1)), (ka, .inl (tc 0, 4, .inl g2))], rfl, rfl, ?_⟩
        refine And.intro rfl (And.intro (And.intro rfl rfl) ?_)
        refine And.intro (trivial) (And.intro ?_ (And.intro (Nat.le_of_ble_eq_true rfl) (Nat.le_of_ble_eq_true rfl)))
        exact ⟨rfl, f1, f2, _, rfl, ⟨L2, v2, l2, m2, a2, rfl, hX⟩, hk2⟩
      · skip
        have c24 : ¬ pa2.length ≤ k := fun z => c24 ((nI_leI (by omega) (by omega)).mpr z)
        have c206 : cd = 206 := Classical.byContradiction (fun z => by rw [hn2 z] at c24; exact c24 (Nat.zero_le _))
        refine And.intro (fun c27 => ?_) (fun c27 => ?_)
        · skip
          exact absurd ((nI_leI (a := 4) (b := k) (by omega) (by omega)).mp c27) (by omega)
        · skip
          refine And.intro rfl ?_
          refine And.intro rfl ?_
          refine And.intro rfl (And.intro rfl (And.intro (vp_in_nI (by omega) (by decide)) ?_))
          rw [nI_clamp (n := k) (by omega)]
          refine And.intro rfl (And.intro rfl (And.intro (vp_in_nI (by omega) (by decide)) ?_))
          rw [nI_clamp (n := k) (by omega)]
          refine And.intro rfl ?_
          refine And.intro rfl ?_
          refine And.intro rfl (And.intro rfl (And.intro (vp_in_nI (by omega) (by decide)) ?_))
          rw [nI_clamp (n := k) (by omega)]
          refine And.intro rfl (And.intro rfl (And.intro (vp_in_nI (by omega) (by decide)) ?_))
          rw [nI_clamp (n := k) (by omega)]
          refine Vx.subL (lv' := [(0, .ref h), (4, .ref hr9), (5, .int (nI k + 1))]) [1, 2, 0] rfl ?_
          rw [nI_1]
          exact ih (pa2.length - (k + 1)) (by omega) (upd f1 k (g1 k)) (upd f2 k (g2 k)) (k + 1) (fun j hj => by
            by_cases e9 : j = k
            · rw [e9]; exact ⟨pk_us, pk_us⟩
            · rw [pk_un e9, pk_un e9]; exact hcp j (by omega)) (by omega) rfl
  · skip
    have c13 : cd = 206 := c13
    refine And.intro rfl ?_
    refine vx_gon hC hFt hini (vx_ends hC hr hlk) jc_Rs_settleR 18 3 (by decide) rfl ?_
    refine And.intro rfl (And.intro (And.intro rfl rfl) ?_)
    refine Vx.subL (lv' := [(0, .ref h), (4, .ref hr9), (5, .int (nI 0))]) [1, 5, 0] rfl ?_
    obtain ⟨k, hk0⟩ : ∃ k : Nat, k = 0 := ⟨_, rfl⟩
    refine Vx.eqs rfl (lv2 := [(0, .ref h), (4, .ref hr9), (5, .int (nI k))]) (by rw [hk0]) rfl (w2 := (rsW tc h fa la hb cd (sjV (some v9)) bs (nI pa2.length) (bI ho) f1 f2) ++ (sbW tc hb v ml L.length M9 a) ++ [(hr9, .inr (4, [.ref ra, .int z1, .int z2, .ref sa, .int (nI ss), .ref ga, .ref ka, .int sp, .int (nI kp.length)])), (ga, .inl (tc 0, 4, .inl g1)), (ka, .inl (tc 0, 4, .inl g2))]) (by rw [hy2 c13]; rfl) ?_
    have hcp : ∀ j, j < k → f1 j = g1 j ∧ f2 j = g2 j := fun j hj => by omega
    have hkl : k ≤ pa2.length := by omega
    clear hk0
    induction hn : pa2.length - k using Nat.strongRecOn generalizing k f1 f2 with
    | _ m9 ih =>
      refine vx_go hC hFt hini (vx_ends hC hr hlk) jc_Rs_settleR 21 (by decide) rfl ?_
      refine And.intro rfl ?_
      refine And.intro (fun c24 => ?_) (fun c24 => ?_)
      · skip
        have c24 : pa2.length ≤ k := (nI_leI (by omega) (by omega)).mp c24
        refine vx_go hC hFt hini (vx_ends hC hr hlk) jc_Rs_settleR 46 (by decide) rfl ?_
        have hk2 : kpA f1 f2 pa2 := ⟨h4, fun i hi => by
          have e206 : cd = 206 := Classical.byContradiction (fun z => by rw [hn2 z] at hi; exact absurd hi (Nat.not_lt_zero _))
          obtain ⟨q1, q2⟩ := hcp i (by omega)
          rw [q1, q2, hy2 e206]
          exact hkp.2 i (by rw [← hy2 e206]; exact hi)⟩
        refine sx_ord (sx_callV (wr := [(hr9, .inr (4, [.ref ra, .int z1, .int z2, .ref sa, .int (nI ss), .ref ga, .ref ka, .int sp, .int (nI kp.length)])), (ga, .inl (tc 0, 4, .inl g1)), (ka, .inl (tc 0, 4, .inl g2))]) (wc := (rsW tc h fa la hb cd (sjV (some v9)) bs (nI pa2.length) (bI ho) f1 f2) ++ (sbW tc hb v ml L.length M9 a)) hC (c_Rs_measure l D tys tc hty h fa la hb cd bs (bI ho) pa2 f1 f2 hk2 (some v9) hok K v ml M9 a L hL hf hm) (cw_V wm_Rs_measure wl_Rs_47 wi_Rs_measure ws_Rs_Rs_measure hC.2.2.2.2.1 ⟨by decide, by decide⟩) [0, 1, 2, 3, 4] [5, 6, 7] rfl rfl rfl rfl (by decide) (q0 := 0) rfl rfl rfl (vx_ro (wc := (rsW tc h fa la hb cd (sjV (some v9)) bs (nI pa2.length) (bI ho) f1 f2) ++ (sbW tc hb v ml L.length M9 a)) (ro_and (sjF_ro (some v9)) (gtF_ro K)) hC.2.2.2.2.2.2.1 hF [0, 1, 2, 3, 4] rfl) rfl rfl (Nat.le_of_ble_eq_true rfl) ⟨by decide, by decide⟩ (fun r' w' hp => ?_))
        obtain ⟨rfl, w2, rfl, L2, v2, l2, m2, a2, rfl, hX⟩ := hp
        refine ⟨[3, 4, 5, 6, 7, 0, 1, 2], (rsW tc h fa la hb cd (sjV (some v9)) bs (nI pa2.length) (bI ho) f1 f2) ++ (sbW tc hb v2 l2 L2.length m2 a2) ++ [(hr9, .inr (4, [.ref ra, .int z1, .int z2, .ref sa, .int (nI ss), .ref ga, .ref ka, .int sp, .int (nI kp.length)])), (ga, .inl (tc 0, 4, .inl g1)), (ka, .inl (tc 0, 4, .inl g2))], rfl, rfl, ?_⟩
        refine And.intro rfl (And.intro (And.intro rfl rfl) ?_)
        refine And.intro (trivial) (And.intro ?_ (And.intro (Nat.le_of_ble_eq_true rfl) (Nat.le_of_ble_eq_true rfl)))
        exact ⟨rfl, f1, f2, _, rfl, ⟨L2, v2, l2, m2, a2, rfl, hX⟩, hk2⟩
      · skip
        have c24 : ¬ pa2.length ≤ k := fun z => c24 ((nI_leI (by omega) (by omega)).mpr z)
        have c206 : cd = 206 := Classical.byContradiction (fun z => by rw [hn2 z] at c24; exact c24 (Nat.zero_le _))
        refine And.intro (fun c27 => ?_) (fun c27 => ?_)
        · skip
          exact absurd ((nI_leI (a := 4) (b := k) (by omega) (by omega)).mp c27) (by omega)
        · skip
          refine And.intro rfl ?_
          refine And.intro rfl ?_
          refine And.intro rfl (And.intro rfl (And.intro (vp_in_nI (by omega) (by decide)) ?_))
          rw [nI_clamp (n := k) (by omega)]
          refine And.intro rfl (And.intro rfl (And.intro (vp_in_nI (by omega) (by decide)) ?_))
          rw [nI_clamp (n := k) (by omega)]
          refine And.intro rfl ?_
          refine And.intro rfl ?_
          refine And.intro rfl (And.intro rfl (And.intro (vp_in_nI (by omega) (by decide)) ?_))
          rw [nI_clamp (n := k) (by omega)]
          refine And.intro rfl (And.intro rfl (And.intro (vp_in_nI (by omega) (by decide)) ?_))
          rw [nI_clamp (n := k) (by omega)]
          refine Vx.subL (lv' := [(0, .ref h), (4, .ref hr9), (5, .int (nI k + 1))]) [1, 2, 0] rfl ?_
          rw [nI_1]
          exact ih (pa2.length - (k + 1)) (by omega) (upd f1 k (g1 k)) (upd f2 k (g2 k)) (k + 1) (fun j hj => by
            by_cases e9 : j = k
            · rw [e9]; exact ⟨pk_us, pk_us⟩
            · rw [pk_un e9, pk_un e9]; exact hcp j (by omega)) (by omega) rfl
theorem c_Rs_settle (l : Launch) (D : va_G) (tys : List (ClassId × FieldType)) (tc : Nat → ClassId) (hty : ∀ i : Nat, i < 4 → tys[i]? = some (tc i, vx_ty i)) (h fa la hb : Nat) (cd0 : Int32) (sj0 : Value) (bs pc0 bl0 : Int32) (f1 f2 : Nat → Int32) (K : Nat → Nat) (v : Nat) (ml : Int32) (M9 : Nat) (a : Nat → Int32) (L : List Nat) (hL : sbI a L) (hf : sb_Fit a) (hm : L.length ≤ M9 ∧ 16 ≤ M9 ∧ M9 ≤ 100) (hr9 ra sa ga ka : Nat) (z1 z2 : Int32) (ss : Nat) (sp : Int32) (kp : List (Nat × Nat)) (g1 g2 : Nat → Int32) (hkp : kpA g1 g2 kp) (cd : Int32) (sb9 : Option (Nat × Nat × Nat)) (ho : Bool) (pa2 : List (Nat × Nat)) (hy2 : cd = 206 → pa2 = kp) (hn2 : ¬ cd = 206 → pa2 = []) (hok : anOk cd (sjN sb9) pa2) : Kt l y_Rs_settle (yw y_Rs_settle b_Rs_settle 6 none) 8 192 32 3200 D cls tys (fun A U H => sjF sb9 A U H ∧ gtF K A U H) [.ref h, .int cd, sjV sb9, .int (bI ho), .ref hr9] ((rsW tc h fa la hb cd0 sj0 bs pc0 bl0 f1 f2) ++ (sbW tc hb v ml L.length M9 a) ++ [(hr9, .inr (4, [.ref ra, .int z1, .int z2, .ref sa, .int (nI ss), .ref ga, .ref ka, .int sp, .int (nI kp.length)])), (ga, .inl (tc 0, 4, .inl g1)), (ka, .inl (tc 0, 4, .inl g2))]) (fun r w => r = none ∧ ∃ q1 q2 w2, w = (rsW tc h fa la hb cd (sjV sb9) (nI (lnS cd (sjN sb9) pa2)) (nI pa2.length) (bI ho) q1 q2) ++ w2 ++ [(hr9, .inr (4, [.ref ra, .int z1, .int z2, .ref sa, .int (nI ss), .ref ga, .ref ka, .int sp, .int (nI kp.length)])), (ga, .inl (tc 0, 4, .inl g1)), (ka, .inl (tc 0, 4, .inl g2))] ∧ sbX tc hb w2 ∧ kpA q1 q2 pa2) := by
  cases sb9 with
  | none => exact c_Rs_settleN l D tys tc hty h fa la hb cd0 sj0 bs pc0 bl0 f1 f2 K v ml M9 a L hL hf hm hr9 ra sa ga ka z1 z2 ss sp kp g1 g2 hkp cd ho pa2 hy2 hn2 hok
  | some v9 => exact c_Rs_settleS l D tys tc hty h fa la hb cd0 sj0 bs pc0 bl0 f1 f2 K v ml M9 a L hL hf hm hr9 ra sa ga ka z1 z2 ss sp kp g1 g2 hkp cd v9 ho pa2 hy2 hn2 hok
