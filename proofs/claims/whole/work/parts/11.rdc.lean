/-! THE READER'S METHODS THAT CALL, by program (wip/whole/gen/p11.py) -/
def cn (ci : Nat) : String := match ci with
  | 0 => "OriginDesk$Accept"
  | 1 => "OriginDesk$Languages"
  | 2 => "OriginDesk$Tags"
  | 3 => "OriginDesk$Dates"
  | _ => "OriginDesk$Ranges"
theorem sel_take (ci : Nat) (h : ci < 5) : Cond.selects (cn ci) y_Rd_take y_Rd_take ∈ gw := by
  rcases (show ci = 0 ∨ ci = 1 ∨ ci = 2 ∨ ci = 3 ∨ ci = 4 by omega) with rfl | rfl | rfl | rfl | rfl
  · exact ws_Ac_Rd_take
  · exact ws_La_Rd_take
  · exact ws_Tg_Rd_take
  · exact ws_Da_Rd_take
  · exact ws_Ra_Rd_take
theorem sel_skipGap (ci : Nat) (h : ci < 5) : Cond.selects (cn ci) y_Rd_skipGap y_Rd_skipGap ∈ gw := by
  rcases (show ci = 0 ∨ ci = 1 ∨ ci = 2 ∨ ci = 3 ∨ ci = 4 by omega) with rfl | rfl | rfl | rfl | rfl
  · exact ws_Ac_Rd_skipGap
  · exact ws_La_Rd_skipGap
  · exact ws_Tg_Rd_skipGap
  · exact ws_Da_Rd_skipGap
  · exact ws_Ra_Rd_skipGap
theorem cls_cn (ci : Nat) (h : ci < 5) : ∃ rc : vw_C, cls[ci]? = some rc ∧ rc.1 = cn ci := by
  rcases (show ci = 0 ∨ ci = 1 ∨ ci = 2 ∨ ci = 3 ∨ ci = 4 by omega) with rfl | rfl | rfl | rfl | rfl <;> exact ⟨_, rfl, rfl⟩
section
variable {p : Program} {l : Launch} {e : Env} {R : Room} {s : State} {m : MethodId} {args : Array Value} {below : List Frame} {meth : Method} {c : Code} {cc : ByteArray} {nL : Nat} {D : va_G} {tys : List (ClassId × FieldType)} {A : Nat → Prop} {tc : Nat → ClassId} {Q : State → Prop} {st rest : List Value} {k n : Nat} {post : Option Value → va_W → Prop} {F : (Nat → Prop) → State → Heap → Prop} {ret : Option FieldType} {K : List Value → va_W → Nat → Nat → Prop} {y y0 : MethodName} {bytes b0 : ByteArray} {maxL n0 index nA fr lo : Nat} {r0 : Option FieldType} {b : Nat} {As : List Value}
/-- a reader's method called on the reader itself, by a row of Reader -/
theorem rd_call {ci h ra sa : Nat} {ex : List Value} {T rs : List Nat} {sd : Nat → Int32} {ss : Nat} (hC : Cx p s m args c cc nL "OriginDesk$Reader" (yw y0 b0 n0 r0) D cls tys A tc) (hF : F A s s.heap) (hk : Kt l y (yw y bytes maxL ret) fr lo 0 0 D cls tys F (.ref h :: As) (rdW tc ci h ra sa ex T rs sd ss) post) (hwm : wm y bytes maxL ret nA) (hl : Cond.methodLink "OriginDesk$Reader" index y ∈ gw) (hi : Cond.instanceMethod y ∈ gw) (hsel : (Cond.selects (cn ci) y y).before args s = true) (hci : ci < 5) (hR : fr + 1 ≤ R.frames ∧ 8 + (maxL + 11) + lo ≤ R.locals) (hlen : As.length = nA) (hst : st = As.reverse ++ .ref h :: rest) (hW : (rest.map fun v => v.category).sum ≤ 8) (hkn : k ≤ R.cells ∧ n ≤ R.slots)
    (kk : ∀ (r : Option Value) (w1 : va_W), post r w1 → K (r.toList ++ rest) w1 k n) : vx_SX cc (Vx p l e R s m args below meth c nL D cls A Q) (.invokevirtual index) 3 st (rdW tc ci h ra sa ex T rs sd ss) k n K := by
  obtain ⟨rc, h1, h2⟩ := cls_cn ci hci
  exact sx_callV (wr := []) hC hk ⟨cw_B hwm hl hC.2.2.2.2.1 hR, hC.2.2.2.2.1 _ (List.mem_cons_of_mem _ hi), hsel⟩ [0, 1] [] rfl rfl rfl rfl (by simp) (q0 := 0) rfl h1 h2 (vx_ro hk.1 hC.2.2.2.2.2.2.1 hF [0, 1] rfl) hlen hst hW hkn kk
/-- a static method of Reader called by a row of Reader -/
theorem rd_calls {ws : va_W} (hC : Cx p s m args c cc nL "OriginDesk$Reader" (yw y0 b0 n0 r0) D cls tys A tc) (hk : Kt l y (yw y bytes maxL ret) fr lo 0 0 D cls tys (fun _ _ _ => True) As [] (fun r w => post r w ∧ w = [])) (hwm : wm y bytes maxL ret nA) (hl : Cond.methodLink "OriginDesk$Reader" index y ∈ gw) (hi : Cond.static y ∈ gw) (hR : fr + 1 ≤ R.frames ∧ 8 + (maxL + 11) + lo ≤ R.locals) (hlen : As.length = nA) (hst : st = As.reverse ++ rest) (hW : (rest.map fun v => v.category).sum ≤ 8) (hkn : k ≤ R.cells ∧ n ≤ R.slots)
    (kk : ∀ (r : Option Value), post r [] → K (r.toList ++ rest) ws k n) : vx_SX cc (Vx p l e R s m args below meth c nL D cls A Q) (.invokestatic index) 3 st ws k n K := by
  refine sx_callS (wr := ws) (wc := []) hC hk (cw_S hwm hl hi hC.2.2.2.2.1 hR) [] (List.range ws.length) rfl ?_ rfl ?_ (by simp) (fun _ _ _ _ _ => trivial) hlen hst hW hkn (fun r w1 hp => ?_)
  · apply List.ext_getElem?
    intro i
    simp only [List.getElem?_map]
    by_cases h : i < ws.length
    · simp [h]
    · simp [h]
  · have : ∀ (N : Nat) (L : List Nat), L.Nodup → va_nd L = true := by
      intro N L hL
      induction L with
      | nil => rfl
      | cons a t ih => rw [va_nd, Bool.and_eq_true]; exact ⟨by simpa using (List.nodup_cons.mp hL).1, ih (List.nodup_cons.mp hL).2⟩
    exact this 0 _ List.nodup_range
  · obtain ⟨h1, rfl⟩ := hp
    rw [List.append_nil]
    exact kk r h1
end
theorem sel_noif {C : String} {x y : MethodName} {s : State} {args : Array Value} (h : (Cond.selects C x y).before args s = true) : ∃ m, s.methodNamed? y = some m ∧ (s.vm.classes[m.cls]?).any (fun k => !k.isInterface) = true := by
  simp only [Cond.before, Cond.holds, Cond.value] at h
  cases h1 : s.vm.findClass C with
  | none => rw [h1] at h; simp at h
  | some c =>
    cases h2 : s.methodFound? x.cls x.name x.desc with
    | none => rw [h1, h2] at h; simp at h
    | some r =>
      cases h3 : s.methodNamed? y with
      | none => rw [h1, h2, h3] at h; simp at h
      | some m =>
        rw [h1, h2, h3] at h
        refine ⟨m, rfl, ?_⟩
        dsimp only at h
        split at h
        · simp only [beq_iff_eq, Option.some.injEq, Bool.and_eq_true, decide_eq_true_eq] at h
          exact h.2
        · simp at h
theorem sel_private {C C1 : String} {y x1 y1 : MethodName} {s : State} {args : Array Value} {n : Nat} (hy : y.cls ≠ "java/lang/invoke/MethodHandle" ∧ y.cls ≠ "java/lang/invoke/VarHandle")
    (hins : (Cond.instantiable C n).before args s = true) (hpriv : (Cond.privateMethod y).before args s = true) (hinst : (Cond.instanceMethod y).before args s = true) (h1 : (Cond.selects C1 x1 y1).before args s = true) (hyy : y1.cls = y.cls) :
    (Cond.selects C y y).before args s = true := by
  obtain ⟨c, k, hc, hk, -, hniab, -, -⟩ := Cond.instantiable_spec hins
  obtain ⟨mk, methM, hnamed, hmethM, -, -⟩ := Cond.instanceMethod_spec hinst
  obtain ⟨m1, hn1, hany⟩ := sel_noif h1
  have hcls : m1.cls = mk.cls := Option.some.inj ((findClass_of_methodNamed hn1).symm.trans (by rw [hyy]; exact findClass_of_methodNamed hnamed))
  have hfound : s.methodFound? y.cls y.name y.desc = some mk := State.methodFound?_of_named hnamed hy
  have hsel : selectMethod {} s.vm c mk = .method mk := selectMethod_private hmethM (Cond.privateMethod_at hpriv mk methM hnamed hmethM)
  rw [hcls] at hany
  simp only [Cond.before, Cond.holds, Cond.value, hc, hfound, hnamed, hsel]
  simpa using hany
theorem sel_say (ci : Nat) (h : ci < 5) : Cond.selects (cn ci) y_Rd_say y_Rd_say ∈ gw := by
  rcases (show ci = 0 ∨ ci = 1 ∨ ci = 2 ∨ ci = 3 ∨ ci = 4 by omega) with rfl | rfl | rfl | rfl | rfl
  · exact gw_say (List.mem_of_getElem? (i := 0) rfl) (by decide +kernel)
  · exact gw_say (List.mem_of_getElem? (i := 1) rfl) (by decide +kernel)
  · exact gw_say (List.mem_of_getElem? (i := 2) rfl) (by decide +kernel)
  · exact gw_say (List.mem_of_getElem? (i := 3) rfl) (by decide +kernel)
  · exact gw_say (List.mem_of_getElem? (i := 4) rfl) (by decide +kernel)
theorem bI_ne {b : Bool} (h : ¬ bI b = 0) : b = true := by cases b with
  | false => exact absurd rfl h
  | true => rfl
theorem bI_eq {b : Bool} (h : bI b = 0) : b = false := by cases b with
  | false => rfl
  | true => exact absurd h (by decide)
/-- what ends an element -/
def ee (q : List Nat) : Bool := match q with
  | [] => true
  | x :: _ => decide (x = 44)
/-- a semicolon behind a gap, and a gap; q is what stands behind the first gap -/
def sc (q : List Nat) : Bool × List Nat := match pk 59 q with
  | (true, r) => (true, gp r)
  | (false, r) => (false, r)
set_option maxRecDepth 100000 in
set_option maxHeartbeats 4000000 in
theorem c_Rd_endsElement (l : Launch) (D : va_G) (tys : List (ClassId × FieldType)) (tc : Nat → ClassId) (hty : ∀ i : Nat, i < 4 → tys[i]? = some (tc i, vx_ty i)) (ci : Nat) (hci : ci < 5) (h ra sa : Nat) (ex : List Value) (T rs : List Nat) (sd : Nat → Int32) (ss : Nat) (hT : isT T) (hs : rs <:+ T) : Kt l y_Rd_endsElement (yw y_Rd_endsElement b_Rd_endsElement 1 (some .boolean)) 1 20 0 0 D cls tys (rdF ra T) [.ref h] (rdW tc ci h ra sa ex T rs sd ss) (fun r w => r = some (.int (bI (ee (gp rs)))) ∧ w = rdW tc ci h ra sa ex T (gp rs) sd ss) := by
  refine Kt.of (rdF_ro _ _) (by decide) rfl hty (Nat.le_of_ble_eq_true rfl) ?_
  intro p e s m args below meth c0 A hC hr hlk hnm hF
  have hFt : vx_Ft y_Rd_endsElement.cls (yw y_Rd_endsElement b_Rd_endsElement 1 (some .boolean)) cls cty ft_Rd := ft_of (fun w h => List.mem_cons_of_mem _ h) fl_Rd_in ft_Rd_b
  have hini : false = true → meth.name = "<init>" := fun h => by cases h
  have hF0 := hF
  obtain ⟨N, f, hrow, hN, hf⟩ := hF
  have hTl := hT.1
  rcases (show ci = 0 ∨ ci = 1 ∨ ci = 2 ∨ ci = 3 ∨ ci = 4 by omega) with rfl | rfl | rfl | rfl | rfl
  all_goals
    refine vx_go hC hFt hini (vx_ends hC hr hlk) jc_Rd_endsElement 0 (by decide) rfl ?_
    refine rd_call hC hF0 (c_Rd_skipGap l D tys tc hty _ hci h ra sa ex T rs sd ss hT hs) wm_Rd_skipGap wl_Rd_38 wi_Rd_skipGap (hC.2.2.2.2.1 _ (List.mem_cons_of_mem _ (sel_skipGap _ hci))) hci ⟨by decide, by decide⟩ rfl rfl (by decide) ⟨Nat.zero_le _, Nat.zero_le _⟩ (fun r w1 hp => ?_)
    obtain ⟨rfl, rfl⟩ := hp
    have hs1 : gp rs <:+ T := dw_sfx hs
    clear hs
    generalize gp rs = rs at hs1 ⊢
    have hs := hs1
    refine And.intro rfl ?_
    refine And.intro rfl ?_
    refine And.intro (fun c6 => ?_) (fun c6 => ?_)
    · skip
      have hle := sfx_le hs
      have hnil : rs = [] := by
        have h2 := (nI_leI (a := T.length) (b := T.length - rs.length) (by omega) (by omega)).mp c6
        exact List.eq_nil_of_length_eq_zero (by omega)
      subst hnil
      refine vx_go hC hFt hini (vx_ends hC hr hlk) jc_Rd_endsElement 14 (by decide) rfl ?_
      refine vx_go hC hFt hini (vx_ends hC hr hlk) jc_Rd_endsElement 17 (by decide) rfl ?_
      refine And.intro (rfl) (And.intro ?_ (And.intro (Nat.le_refl _) (Nat.le_refl _)))
      first | exact And.intro rfl rfl | (refine And.intro ?_ rfl; simp [ee, bI, *])
    · skip
      have hle := sfx_le hs
      obtain ⟨x, r, hrs⟩ : ∃ x r, rs = x :: r := by
        cases hrs : rs with
        | nil => subst hrs; exact absurd ((nI_leI (a := T.length) (b := T.length - 0) (by omega) (by omega)).mpr (by omega)) c6
        | cons x r => exact ⟨x, r, rfl⟩
      obtain ⟨g1, g2, g3, g4, g5⟩ := sfx_at hs hrs
      have g6 := hT.2 x g5
      subst hrs
      refine And.intro rfl ?_
      refine And.intro rfl ?_
      refine ⟨N, f, hrow, vp_in_nI (by omega) hN.2, ?_⟩
      rw [nI_clamp (by omega), hf _ g1, g2]
      refine And.intro (fun c13 => ?_) (fun c13 => ?_)
      · skip
        have c13 : ¬ (x = 44) := fun z => c13 ((nI_eq (a := x) (b := 44) (by omega) (by omega)).mpr z)
        refine vx_go hC hFt hini (vx_ends hC hr hlk) jc_Rd_endsElement 16 (by decide) rfl ?_
        refine And.intro (rfl) (And.intro ?_ (And.intro (Nat.le_refl _) (Nat.le_refl _)))
        first | exact And.intro rfl rfl | (refine And.intro ?_ rfl; simp [ee, bI, *])
      · skip
        have c13 := (nI_eq (a := x) (b := 44) (by omega) (by omega)).mp c13
        refine vx_go hC hFt hini (vx_ends hC hr hlk) jc_Rd_endsElement 17 (by decide) rfl ?_
        refine And.intro (rfl) (And.intro ?_ (And.intro (Nat.le_refl _) (Nat.le_refl _)))
        first | exact And.intro rfl rfl | (refine And.intro ?_ rfl; simp [ee, bI, *])
set_option maxRecDepth 100000 in
set_option maxHeartbeats 4000000 in
theorem c_Rd_takeSemicolon (l : Launch) (D : va_G) (tys : List (ClassId × FieldType)) (tc : Nat → ClassId) (hty : ∀ i : Nat, i < 4 → tys[i]? = some (tc i, vx_ty i)) (ci : Nat) (hci : ci < 5) (h ra sa : Nat) (ex : List Value) (T rs : List Nat) (sd : Nat → Int32) (ss : Nat) (hT : isT T) (hs : rs <:+ T) : Kt l y_Rd_takeSemicolon (yw y_Rd_takeSemicolon b_Rd_takeSemicolon 1 (some .boolean)) 1 21 0 0 D cls tys (rdF ra T) [.ref h] (rdW tc ci h ra sa ex T rs sd ss) (fun r w => r = some (.int (bI (sc (gp rs)).1)) ∧ w = rdW tc ci h ra sa ex T (sc (gp rs)).2 sd ss) := by
  refine Kt.of (rdF_ro _ _) (by decide) rfl hty (Nat.le_of_ble_eq_true rfl) ?_
  intro p e s m args below meth c0 A hC hr hlk hnm hF
  have hFt : vx_Ft y_Rd_takeSemicolon.cls (yw y_Rd_takeSemicolon b_Rd_takeSemicolon 1 (some .boolean)) cls cty ft_Rd := ft_of (fun w h => List.mem_cons_of_mem _ h) fl_Rd_in ft_Rd_b
  have hini : false = true → meth.name = "<init>" := fun h => by cases h
  have hF0 := hF
  obtain ⟨N, f, hrow, hN, hf⟩ := hF
  have hTl := hT.1
  rcases (show ci = 0 ∨ ci = 1 ∨ ci = 2 ∨ ci = 3 ∨ ci = 4 by omega) with rfl | rfl | rfl | rfl | rfl
  all_goals
    refine vx_go hC hFt hini (vx_ends hC hr hlk) jc_Rd_takeSemicolon 0 (by decide) rfl ?_
    refine rd_call hC hF0 (c_Rd_skipGap l D tys tc hty _ hci h ra sa ex T rs sd ss hT hs) wm_Rd_skipGap wl_Rd_38 wi_Rd_skipGap (hC.2.2.2.2.1 _ (List.mem_cons_of_mem _ (sel_skipGap _ hci))) hci ⟨by decide, by decide⟩ rfl rfl (by decide) ⟨Nat.zero_le _, Nat.zero_le _⟩ (fun r w1 hp => ?_)
    obtain ⟨rfl, rfl⟩ := hp
    have hs1 : gp rs <:+ T := dw_sfx hs
    clear hs
    generalize gp rs = rs at hs1 ⊢
    have hs := hs1
    refine rd_call hC hF0 (c_Rd_take l D tys tc hty _ hci h ra sa ex T rs sd ss 59 hT hs (by decide)) wm_Rd_take wl_Rd_41 wi_Rd_take (hC.2.2.2.2.1 _ (List.mem_cons_of_mem _ (sel_take _ hci))) hci ⟨by decide, by decide⟩ rfl rfl (by decide) ⟨Nat.zero_le _, Nat.zero_le _⟩ (fun r w1 hp => ?_)
    obtain ⟨rfl, rfl⟩ := hp
    have hs2 := pk_sfx (c := 59) hs
    generalize hpk : pk 59 rs = q at hs2 ⊢
    obtain ⟨q1, q2⟩ := q
    dsimp only at hs2
    refine And.intro (fun c5 => ?_) (fun c5 => ?_)
    · skip
      obtain rfl : q1 = true := bI_ne c5
      refine vx_go hC hFt hini (vx_ends hC hr hlk) jc_Rd_takeSemicolon 8 (by decide) rfl ?_
      refine rd_call hC hF0 (c_Rd_skipGap l D tys tc hty _ hci h ra sa ex T q2 sd ss hT hs2) wm_Rd_skipGap wl_Rd_38 wi_Rd_skipGap (hC.2.2.2.2.1 _ (List.mem_cons_of_mem _ (sel_skipGap _ hci))) hci ⟨by decide, by decide⟩ rfl rfl (by decide) ⟨Nat.zero_le _, Nat.zero_le _⟩ (fun r w1 hp => ?_)
      obtain ⟨rfl, rfl⟩ := hp
      refine And.intro (rfl) (And.intro ?_ (And.intro (Nat.le_refl _) (Nat.le_refl _)))
      exact And.intro (by simp only [sc, hpk]; rfl) (by simp only [sc, hpk])
    · skip
      obtain rfl : q1 = false := bI_eq c5
      refine And.intro (rfl) (And.intro ?_ (And.intro (Nat.le_refl _) (Nat.le_refl _)))
      exact And.intro (by simp only [sc, hpk]; rfl) (by simp only [sc, hpk])
