/-! THE CLASS: the desk's cells, scores, conditions, by program (wip/whole/gen/p83.py) -/
/-- a reader: its row, how much it said, its numbers, what it said -/
abbrev RSt : Type := Nat × Nat × (Nat → Int32) × (Nat → Int32)
def zf (L : List Int32) : Nat → Int32 := fun j => L.getD j 0
/-- addresses: 0 desk, 1 shelf, 2 request, 3 .. 8 readers and response, 13 .. 17 said rows, 18 19 ranges, 20 21 parts, 22 builder, 30 .. 34 first rows -/
def dkC (b : Nat → Nat) (cn : Int32) : Nat × va_E := (b 0, .inr (8, [.ref (b 1), .int cn, .ref (b 2), .ref (b 3), .ref (b 4), .ref (b 5), .ref (b 6), .ref (b 7), .ref (b 8)]))
def acW (tc : Nat → ClassId) (b : Nat → Nat) (u : RSt) : va_W := [(b 3, .inr (0, [.ref u.1, .int (u.2.2.1 0), .int (u.2.2.1 1), .ref (b 13), .int (nI u.2.1), .int (u.2.2.1 2), .int (u.2.2.1 3), .int (u.2.2.1 4), .int (u.2.2.1 5), .int (u.2.2.1 6)])), (b 13, .inl (tc 0, 96, .inl u.2.2.2))]
def laW (tc : Nat → ClassId) (b : Nat → Nat) (u : RSt) : va_W := [(b 4, .inr (1, [.ref u.1, .int (u.2.2.1 0), .int (u.2.2.1 1), .ref (b 14), .int (nI u.2.1), .int (u.2.2.1 2), .int (u.2.2.1 3)])), (b 14, .inl (tc 0, 96, .inl u.2.2.2))]
def tgW (tc : Nat → ClassId) (b : Nat → Nat) (u : RSt) : va_W := [(b 5, .inr (2, [.ref u.1, .int (u.2.2.1 0), .int (u.2.2.1 1), .ref (b 15), .int (nI u.2.1), .int (u.2.2.1 2), .int (u.2.2.1 3), .int (u.2.2.1 4)])), (b 15, .inl (tc 0, 96, .inl u.2.2.2))]
def daW (tc : Nat → ClassId) (b : Nat → Nat) (ly : Nat) (u : RSt) : va_W := [(b 6, .inr (3, [.ref u.1, .int (u.2.2.1 0), .int (u.2.2.1 1), .ref (b 16), .int (nI u.2.1), .int (nI ly), .int (u.2.2.1 2), .int (u.2.2.1 3), .int (u.2.2.1 4), .int (u.2.2.1 5)])), (b 16, .inl (tc 0, 96, .inl u.2.2.2))]
def rnW (tc : Nat → ClassId) (b : Nat → Nat) (u : RSt) (kp : List (Nat × Nat)) (g1 g2 : Nat → Int32) : va_W := [(b 7, .inr (4, [.ref u.1, .int (u.2.2.1 0), .int (u.2.2.1 1), .ref (b 17), .int (nI u.2.1), .ref (b 18), .ref (b 19), .int (u.2.2.1 2), .int (nI kp.length)])), (b 17, .inl (tc 0, 96, .inl u.2.2.2)), (b 18, .inl (tc 0, 4, .inl g1)), (b 19, .inl (tc 0, 4, .inl g2))]
def okR (b ro : Nat → Nat) (i ra : Nat) : Prop := ra = b (30 + i) ∨ ∃ G, G < 8 ∧ ra = ro G
theorem okN {b ro : Nat → Nat} {i ra ra2 G : Nat} (ho : okR b ro i ra) (h : ra2 = ra ∨ ra2 = ro G) (hG : G < 8) : okR b ro i ra2 := by
  rcases h with rfl | rfl
  · exact ho
  · exact Or.inr ⟨G, hG, rfl⟩
theorem ro_OF {C n d : String} {v : Value} {a : Nat} : RO (fun A U H => va_OF C n d v a A U H) := ⟨fun _ _ _ _ ha h => h.moved ha.alike, fun _ _ _ _ hq h => h.kept hq, fun _ _ _ _ hq h => h.narrow hq⟩
theorem ro_T {t : FieldType} {a N : Nat} {f : Nat → Value} : RO (fun A U H => va_T t a N f A U H) := ⟨fun _ _ _ _ ha h => h.moved ha.alike, fun _ _ _ _ hq h => h.kept hq, fun _ _ _ _ hq h => h.narrow hq⟩
theorem ro_all {P : Nat → Prop} {G : Nat → (Nat → Prop) → State → Heap → Prop} (hG : ∀ i, RO (G i)) : RO (fun A U H => ∀ i, P i → G i A U H) := ⟨fun A u U H ha h i hi => (hG i).1 A u U H ha (h i hi), fun A U H H1 hq h i hi => (hG i).2.1 A U H H1 hq (h i hi), fun A B U H hq h i hi => (hG i).2.2 A B U H hq (h i hi)⟩
/-- what the desk's readers read -/
def qF (b ro : Nat → Nat) (tx : Nat → List Nat) (K : Nat → Nat) (me : Int32) : (Nat → Prop) → State → Heap → Prop := fun A U H => rqF (b 2) ro tx A U H ∧ gtF K A U H ∧ va_OF "OriginDesk$Request" "method" "I" (.int me) (b 2) A U H ∧ ∀ i, i < 5 → rdF (b (30 + i)) [] A U H
theorem qF_ro (b ro : Nat → Nat) (tx : Nat → List Nat) (K : Nat → Nat) (me : Int32) : RO (qF b ro tx K me) := ro_and (rqF_ro _ _ _) (ro_and (gtF_ro K) (ro_and ro_OF (ro_all (fun i => rdF_ro _ _))))
theorem qR {b ro : Nat → Nat} {tx : Nat → List Nat} {K : Nat → Nat} {me : Int32} {A : Nat → Prop} {U : State} {H : Heap} (h : qF b ro tx K me A U H) {i ra : Nat} (hi : i < 5) (ho : okR b ro i ra) : rdF ra [] A U H := by
  rcases ho with rfl | ⟨G, hG, rfl⟩
  · exact h.2.2.2 i hi
  · obtain ⟨-, ta, za, -, -, -, -, h7⟩ := h.1
    obtain ⟨N, f, h1, h2, h3⟩ := h7 G hG
    exact ⟨N, f, h1, ⟨Nat.zero_le _, h2.2⟩, fun j hj => absurd hj (Nat.not_lt_zero _)⟩
theorem tagL_W {n : Nat} (h : n ≤ 9999) : isW (tagL n) := by
  refine ⟨?_, fun x hx => ?_⟩
  · have := dec6 (n := n) (by omega)
    rw [tagL, List.length_cons]
    omega
  · rcases List.mem_cons.mp hx with rfl | z
    · decide
    · exact dec_b n (by omega) x z
theorem isN {α : Type} {o : Option α} (h : bI o.isSome = 0) : o = none := by
  cases o with
  | none => rfl
  | some v => exact absurd (bI_eq h) (fun z => by cases z)
theorem isS {α : Type} {o : Option α} (h : ¬ bI o.isSome = 0) : ∃ v, o = some v := by
  cases o with
  | none => exact absurd rfl h
  | some v => exact ⟨v, rfl⟩
theorem lI_m1 {v : Option Nat} (hv : ∀ t, v = some t → t < 2 ^ 63) : lg_cmp (lI v) (-1) = 0 ↔ v = none := by
  rw [lc_eq]
  refine ⟨fun h => (lI_lt0 hv).mp (by rw [h]; decide), fun h => by rw [h]; rfl⟩
section
variable {p : Program} {l : Launch} {e : Env} {R : Room} {s : State} {m : MethodId} {args : Array Value} {below : List Frame} {meth : Method} {c : Code} {cc : ByteArray} {nL : Nat} {D : va_G} {tys : List (ClassId × FieldType)} {A : Nat → Prop} {tc : Nat → ClassId} {Q : State → Prop} {st rest : List Value} {k n mc ms : Nat} {post : Option Value → va_W → Prop} {F : (Nat → Prop) → State → Heap → Prop} {ret : Option FieldType} {K : List Value → va_W → Nat → Nat → Prop} {y y0 : MethodName} {bytes b0 : ByteArray} {maxL n0 index nA fr lo : Nat} {r0 : Option FieldType} {b : Nat} {As : List Value} {own C : String} {ws wc wr : va_W}
/-- a call on one of the desk's objects -/
theorem dx_call {ci : Nat} {fs : List Value} {rc : vw_C} (hC : Cx p s m args c cc nL own (yw y0 b0 n0 r0) D cls tys A tc) (hk : Kt l y (yw y bytes maxL ret) fr lo mc ms D cls tys F (.ref b :: As) wc post) (hF : F A s s.heap) (cw : CallW R s args own C index y bytes maxL ret (yw y bytes maxL ret) { frames := fr, cells := mc, slots := ms, locals := lo } mc ms nA)
    (isC isR : List Nat) (hc : isC.map (fun i => ws[i]?) = wc.map some) (hr : isR.map (fun i => ws[i]?) = wr.map some) (hnC : va_nd isC = true) (hn : va_nd isR = true) (hdis : ∀ i ∈ isR, i ∉ isC) (hq : wc[0]? = some (b, .inr (ci, fs))) (h1 : cls[ci]? = some rc) (h2 : rc.1 = C) (hlen : As.length = nA) (hst : st = As.reverse ++ .ref b :: rest) (hW : (rest.map fun v => v.category).sum ≤ 8) (hkn : k + mc ≤ R.cells ∧ n + ms ≤ R.slots)
    (kk : ∀ (r : Option Value) (w1 : va_W), post r w1 → ∃ (js : List Nat) (ws2 : va_W), va_nd js = true ∧ js.map (fun i => (wr ++ w1)[i]?) = ws2.map some ∧ K (r.toList ++ rest) ws2 (k + mc) (n + ms)) : vx_SX cc (Vx p l e R s m args below meth c nL D cls A Q) (.invokevirtual index) 3 st ws k n K :=
  sx_ord (sx_callV hC hk cw isC isR hc hr hnC hn hdis (q0 := 0) hq h1 h2 (vx_ro hk.1 hC.2.2.2.2.2.2.1 hF isC hc) hlen hst hW hkn kk)
theorem vx_acmpeq (hC : Cx p s m args c cc nL own (yw y0 b0 n0 r0) D cls tys A tc) {pc : Nat} {off : Int} {tgt : Nat} {rx ry : Option Nat} (hd : decode cc pc = .ok (.if_acmp .eq off, 3)) (ht : (pc : Int) + off = (tgt : Int)) {lv : wq_L} (kt : rx = ry → Vx p l e R s m args below meth c nL D cls A Q tgt lv st ws k n) (kf : ¬ rx = ry → Vx p l e R s m args below meth c nL D cls A Q (pc + 3) lv st ws k n) : Vx p l e R s m args below meth c nL D cls A Q pc lv (va_rf ry :: va_rf rx :: st) ws k n :=
  fun H locs ls hP hD hS hl => lv_acmp_eq hC.1 hC.2.1 hd ht (fun z => kt z H locs ls hP hD hS hl) (fun z => kf z H locs ls hP hD hS hl)
end
def j_Dk_scoreOfR : wq_J := [(.aload_n 0, (0, 0, 0, 0, 0)), (.getfield 25, (1, 0, 3, 0, 0)), (.aload_n 0, (0, 0, 0, 0, 0)), (.getfield 18, (1, 0, 2, 0, 0)), (.aload_n 1, (0, 0, 0, 0, 0)), (.getfield 191, (2, 0, 0, 0, 0)), (.invokevirtual 160, (0, 0, 0, 0, 0)), (.ifCond .eq 13, (0, 28, 0, 0, 0)), (.aload_n 0, (0, 0, 0, 0, 0)), (.getfield 25, (1, 0, 3, 0, 0)), (.getfield 194, (1, 1, 5, 0, 0)), (.goto 6, (0, 31, 0, 0, 0)), (.sipush 1000, (0, 0, 0, 1000, 0)), (.istore_n 2, (0, 0, 0, 0, 0)), (.aload_n 1, (0, 0, 0, 0, 0)), (.getfield 197, (2, 0, 0, 0, 0)), (.getstatic 200, (2, 0, 0, 0, 0)), (.if_acmp .eq 25, (0, 64, 0, 0, 0)), (.aload_n 0, (0, 0, 0, 0, 0)), (.getfield 32, (1, 0, 4, 0, 0)), (.aload_n 0, (0, 0, 0, 0, 0)), (.getfield 18, (1, 0, 2, 0, 0)), (.aload_n 1, (0, 0, 0, 0, 0)), (.getfield 197, (2, 0, 0, 0, 0)), (.invokevirtual 170, (0, 0, 0, 0, 0)), (.ifCond .eq 7, (0, 64, 0, 0, 0)), (.iconst 1, (0, 0, 0, 1, 0)), (.goto 4, (0, 65, 0, 0, 0)), (.iconst 0, (0, 0, 0, 0, 0)), (.istore_n 3, (0, 0, 0, 0, 0)), (.iload_n 2, (0, 0, 0, 0, 0)), (.iload_n 3, (0, 0, 0, 0, 0)), (.ifCond .eq 13, (0, 81, 0, 0, 0)), (.aload_n 0, (0, 0, 0, 0, 0)), (.getfield 32, (1, 0, 4, 0, 0)), (.getfield 203, (1, 3, 5, 0, 0)), (.goto 6, (0, 84, 0, 0, 0)), (.sipush 1000, (0, 0, 0, 1000, 0)), (.imul, (0, 0, 0, 0, 0)), (.ireturn, (0, 0, 0, 0, 0))]
theorem jc_Dk_scoreOfR : wq_c b_Dk_scoreOf 4 j_Dk_scoreOfR 0 = true := by decide +kernel
set_option maxRecDepth 100000 in
set_option maxHeartbeats 4000000 in
theorem c_Dk_scoreOf (l : Launch) (D : va_G) (tys : List (ClassId × FieldType)) (tc : Nat → ClassId) (hty : ∀ i : Nat, i < 4 → tys[i]? = some (tc i, vx_ty i)) (b ro : Nat → Nat) (cn : Int32) (tx : Nat → List Nat) (hx : ∀ G, G < 8 → isT (tx G)) (K : Nat → Nat) (me : Int32) (a9 num : Nat) (r9 : Rp) (hr9 : rpOk r9) (u1 u2 : RSt) (ho1 : okR b ro 0 u1.1) (ho2 : okR b ro 1 u2.1) : Kt l y_Dk_scoreOf (yw y_Dk_scoreOf b_Dk_scoreOf 4 (some .int)) 8 174 0 0 D cls tys (fun A U H => qF b ro tx K me A U H ∧ rpF a9 num K r9 A U H) [.ref (b 0), .ref a9] ([dkC b cn] ++ acW tc b u1 ++ laW tc b u2) (fun r w => r = some (.int (nI (scS tx r9))) ∧ ∃ q1 q2, w = ([dkC b cn] ++ acW tc b q1 ++ laW tc b q2) ∧ okR b ro 0 q1.1 ∧ okR b ro 1 q2.1) := by
  refine Kt.of (ro_and (qF_ro b ro tx K me) (rpF_ro a9 num K r9)) (by decide) rfl hty (Nat.le_of_ble_eq_true rfl) ?_
  intro p e s m args below meth c0 A hC hr hlk hnm hF
  have hFt : vx_Ft y_Dk_scoreOf.cls (yw y_Dk_scoreOf b_Dk_scoreOf 4 (some .int)) cls cty ft_Dk := ft_of (fun w h => List.mem_cons_of_mem _ h) fl_Dk_in ft_Dk_b
  have hini : false = true → meth.name = "<init>" := fun h => by cases h
  have hst := hF.1.2.1.1.2.2.2.2
  refine vx_gon hC hFt hini (vx_ends hC hr hlk) jc_Dk_scoreOfR 0 14 (by decide) rfl ?_
  refine And.intro rfl ?_
  refine And.intro rfl ?_
  refine ⟨_, ⟨"OriginDesk$Representation", "type", "LOriginDesk$MediaType;", "OriginDesk$Representation", hF.2.2.1, Or.inl (hC.2.2.2.2.1 _ (List.mem_cons_of_mem _ wf_Dk_191)), fun _ z => z⟩, ?_⟩
  refine dx_call (wr := [dkC b cn] ++ laW tc b u2) (wc := acW tc b u1) hC (c_Ac_read l D tys tc hty (b 3) u1.1 (b 13) (u1.2.2.1 0) (u1.2.2.1 1) u1.2.2.2 u1.2.1 (b 2) ro tx hx K (u1.2.2.1 2) (u1.2.2.1 3) (u1.2.2.1 4) (u1.2.2.1 5) (u1.2.2.1 6) r9.1 hr9.1) ⟨hF.1.1, qR hF.1 (i := 0) (by decide) ho1, hF.1.2.1.1⟩ (cw_V wm_Ac_read wl_Dk_160 wi_Ac_read ws_Ac_Ac_read hC.2.2.2.2.1 ⟨by decide, by decide⟩) [1, 2] [0, 3, 4] rfl rfl rfl rfl (by decide) rfl rfl rfl rfl rfl (Nat.le_of_ble_eq_true rfl) ⟨by decide, by decide⟩ (fun r' w' hp => ?_)
  obtain ⟨rfl, ra2, y1, y2, ss2, sd2, q2, m2, f2, t2, w2, rfl, hok2, hv2⟩ := hp
  refine ⟨[0, 3, 4, 1, 2], ([dkC b cn] ++ acW tc b (ra2, ss2, zf [y1, y2, q2, m2, f2, t2, w2], sd2) ++ laW tc b u2), rfl, rfl, ?_⟩
  refine And.intro (fun c7 => ?_) (fun c7 => ?_)
  · skip
    have c7 : (acQ tx r9) = none := isN c7
    refine vx_gon hC hFt hini (vx_ends hC hr hlk) jc_Dk_scoreOfR 12 2 (by decide) rfl ?_
    refine Vx.subL (lv' := [(0, .ref (b 0)), (1, .ref a9), (2, .int ((1000 : Int32)))]) [1, 2, 0] rfl ?_
    refine Vx.eqs rfl (lv2 := [(0, .ref (b 0)), (1, .ref a9), (2, .int (nI ((acQ tx r9).getD 1000)))]) (by rw [c7]; rfl) rfl rfl ?_
    refine vx_gon hC hFt hini (vx_ends hC hr hlk) jc_Dk_scoreOfR 14 3 (by decide) rfl ?_
    refine ⟨_, ⟨"OriginDesk$Representation", "language", "LOriginDesk$Language;", "OriginDesk$Representation", hF.2.2.2.1, Or.inl (hC.2.2.2.2.1 _ (List.mem_cons_of_mem _ wf_Dk_197)), fun _ z => z⟩, ?_⟩
    refine ⟨_, ⟨"OriginDesk$Language", "NONE", "LOriginDesk$Language;", "OriginDesk$Language", hst.2.2.1, Or.inl (hC.2.2.2.2.1 _ (List.mem_cons_of_mem _ wf_Dk_200)), fun _ z => z⟩, ?_⟩
    refine Vx.subL (lv' := [(0, .ref (b 0)), (1, .ref a9), (2, .int (nI ((acQ tx r9).getD 1000)))]) [0, 1, 2] rfl ?_
    have hdec := vx_dec jc_Dk_scoreOfR 17 _ (by decide) rfl
    refine vx_acmpeq (rx := some (K (200 + r9.2.1))) (ry := some (K 205)) hC hdec (tgt := 64) rfl (fun e9 => ?_) (fun e9 => ?_)
    · have e9 : r9.2.1 = 5 := Classical.byContradiction (fun z => hst.2.2.2.2.2 r9.2.1 (by have := hr9.2.1; omega) (Option.some.inj e9))
      refine vx_go hC hFt hini (vx_ends hC hr hlk) jc_Dk_scoreOfR 28 (by decide) rfl ?_
      refine And.intro (fun c32 => ?_) (fun c32 => ?_)
      · skip
        refine vx_go hC hFt hini (vx_ends hC hr hlk) jc_Dk_scoreOfR 37 (by decide) rfl ?_
        refine And.intro (trivial) (And.intro ?_ (And.intro (Nat.le_refl _) (Nat.le_refl _)))
        have hsc : scS tx r9 = (acQ tx r9).getD 1000 * 1000 := by
          unfold scS
          rw [if_pos e9]
        exact ⟨by rw [hsc, ← pk_mul]; rfl, (ra2, ss2, zf [y1, y2, q2, m2, f2, t2, w2], sd2), u2, rfl, okN ho1 hok2 (by decide), ho2⟩
      · skip
        exact absurd rfl c32
    · have e9 : ¬ r9.2.1 = 5 := fun z => e9 (by rw [z])
      refine vx_go hC hFt hini (vx_ends hC hr hlk) jc_Dk_scoreOfR 18 (by decide) rfl ?_
      refine And.intro rfl ?_
      refine And.intro rfl ?_
      refine ⟨_, ⟨"OriginDesk$Representation", "language", "LOriginDesk$Language;", "OriginDesk$Representation", hF.2.2.2.1, Or.inl (hC.2.2.2.2.1 _ (List.mem_cons_of_mem _ wf_Dk_197)), fun _ z => z⟩, ?_⟩
      refine dx_call (wr := [dkC b cn] ++ acW tc b (ra2, ss2, zf [y1, y2, q2, m2, f2, t2, w2], sd2)) (wc := laW tc b u2) hC (c_La_read l D tys tc hty (b 4) u2.1 (b 14) (u2.2.2.1 0) (u2.2.2.1 1) u2.2.2.2 u2.2.1 (b 2) ro tx hx K (u2.2.2.1 2) (u2.2.2.1 3) r9.2.1 hr9.2.1) ⟨hF.1.1, qR hF.1 (i := 1) (by decide) ho2, hF.1.2.1.1⟩ (cw_V wm_La_read wl_Dk_170 wi_La_read ws_La_La_read hC.2.2.2.2.1 ⟨by decide, by decide⟩) [3, 4] [0, 1, 2] rfl rfl rfl rfl (by decide) rfl rfl rfl rfl rfl (Nat.le_of_ble_eq_true rfl) ⟨by decide, by decide⟩ (fun r' w' hp => ?_)
      obtain ⟨rfl, rb2, x1, x2, sb2, se2, p2, n2, rfl, hok3, hv3⟩ := hp
      refine ⟨[0, 1, 2, 3, 4], ([dkC b cn] ++ acW tc b (ra2, ss2, zf [y1, y2, q2, m2, f2, t2, w2], sd2) ++ laW tc b (rb2, sb2, zf [x1, x2, p2, n2], se2)), rfl, rfl, ?_⟩
      refine And.intro (fun c25 => ?_) (fun c25 => ?_)
      · skip
        have c25 : (laQ tx r9) = none := isN c25
        refine vx_go hC hFt hini (vx_ends hC hr hlk) jc_Dk_scoreOfR 28 (by decide) rfl ?_
        refine And.intro (fun c32 => ?_) (fun c32 => ?_)
        · skip
          refine vx_go hC hFt hini (vx_ends hC hr hlk) jc_Dk_scoreOfR 37 (by decide) rfl ?_
          refine And.intro (trivial) (And.intro ?_ (And.intro (Nat.le_refl _) (Nat.le_refl _)))
          have hsc : scS tx r9 = (acQ tx r9).getD 1000 * 1000 := by
            unfold scS
            rw [if_neg e9, c25]
            rfl
          exact ⟨by rw [hsc, ← pk_mul]; rfl, (ra2, ss2, zf [y1, y2, q2, m2, f2, t2, w2], sd2), (rb2, sb2, zf [x1, x2, p2, n2], se2), rfl, okN ho1 hok2 (by decide), (okN ho2 hok3 (by decide))⟩
        · skip
          exact absurd rfl c32
      · skip
        obtain ⟨v25, c25⟩ := isS (show ¬ bI (laQ tx r9).isSome = 0 from c25)
        have h25 := hv3 v25 c25
        refine vx_go hC hFt hini (vx_ends hC hr hlk) jc_Dk_scoreOfR 29 (by decide) rfl ?_
        refine And.intro (fun c32 => ?_) (fun c32 => ?_)
        · skip
          exact absurd c32 (by decide)
        · skip
          refine And.intro rfl ?_
          refine And.intro rfl ?_
          refine vx_go hC hFt hini (vx_ends hC hr hlk) jc_Dk_scoreOfR 38 (by decide) rfl ?_
          refine And.intro (trivial) (And.intro ?_ (And.intro (Nat.le_refl _) (Nat.le_refl _)))
          have hsc : scS tx r9 = (acQ tx r9).getD 1000 * v25 := by
            unfold scS
            rw [if_neg e9, c25]
            rfl
          exact ⟨by rw [hsc, ← pk_mul, h25]; rfl, (ra2, ss2, zf [y1, y2, q2, m2, f2, t2, w2], sd2), (rb2, sb2, zf [x1, x2, p2, n2], se2), rfl, okN ho1 hok2 (by decide), (okN ho2 hok3 (by decide))⟩
  · skip
    obtain ⟨v7, c7⟩ := isS (show ¬ bI (acQ tx r9).isSome = 0 from c7)
    have h7 := hv2 v7 c7
    refine And.intro rfl ?_
    refine And.intro rfl ?_
    refine vx_gon hC hFt hini (vx_ends hC hr hlk) jc_Dk_scoreOfR 13 1 (by decide) rfl ?_
    refine Vx.subL (lv' := [(0, .ref (b 0)), (1, .ref a9), (2, .int (q2))]) [1, 2, 0] rfl ?_
    refine Vx.eqs rfl (lv2 := [(0, .ref (b 0)), (1, .ref a9), (2, .int (nI ((acQ tx r9).getD 1000)))]) (by rw [c7, h7]; rfl) rfl rfl ?_
    refine vx_gon hC hFt hini (vx_ends hC hr hlk) jc_Dk_scoreOfR 14 3 (by decide) rfl ?_
    refine ⟨_, ⟨"OriginDesk$Representation", "language", "LOriginDesk$Language;", "OriginDesk$Representation", hF.2.2.2.1, Or.inl (hC.2.2.2.2.1 _ (List.mem_cons_of_mem _ wf_Dk_197)), fun _ z => z⟩, ?_⟩
    refine ⟨_, ⟨"OriginDesk$Language", "NONE", "LOriginDesk$Language;", "OriginDesk$Language", hst.2.2.1, Or.inl (hC.2.2.2.2.1 _ (List.mem_cons_of_mem _ wf_Dk_200)), fun _ z => z⟩, ?_⟩
    refine Vx.subL (lv' := [(0, .ref (b 0)), (1, .ref a9), (2, .int (nI ((acQ tx r9).getD 1000)))]) [0, 1, 2] rfl ?_
    have hdec := vx_dec jc_Dk_scoreOfR 17 _ (by decide) rfl
    refine vx_acmpeq (rx := some (K (200 + r9.2.1))) (ry := some (K 205)) hC hdec (tgt := 64) rfl (fun e9 => ?_) (fun e9 => ?_)
    · have e9 : r9.2.1 = 5 := Classical.byContradiction (fun z => hst.2.2.2.2.2 r9.2.1 (by have := hr9.2.1; omega) (Option.some.inj e9))
      refine vx_go hC hFt hini (vx_ends hC hr hlk) jc_Dk_scoreOfR 28 (by decide) rfl ?_
      refine And.intro (fun c32 => ?_) (fun c32 => ?_)
      · skip
        refine vx_go hC hFt hini (vx_ends hC hr hlk) jc_Dk_scoreOfR 37 (by decide) rfl ?_
        refine And.intro (trivial) (And.intro ?_ (And.intro (Nat.le_refl _) (Nat.le_refl _)))
        have hsc : scS tx r9 = (acQ tx r9).getD 1000 * 1000 := by
          unfold scS
          rw [if_pos e9]
        exact ⟨by rw [hsc, ← pk_mul]; rfl, (ra2, ss2, zf [y1, y2, q2, m2, f2, t2, w2], sd2), u2, rfl, okN ho1 hok2 (by decide), ho2⟩
      · skip
        exact absurd rfl c32
    · have e9 : ¬ r9.2.1 = 5 := fun z => e9 (by rw [z])
      refine vx_go hC hFt hini (vx_ends hC hr hlk) jc_Dk_scoreOfR 18 (by decide) rfl ?_
      refine And.intro rfl ?_
      refine And.intro rfl ?_
      refine ⟨_, ⟨"OriginDesk$Representation", "language", "LOriginDesk$Language;", "OriginDesk$Representation", hF.2.2.2.1, Or.inl (hC.2.2.2.2.1 _ (List.mem_cons_of_mem _ wf_Dk_197)), fun _ z => z⟩, ?_⟩
      refine dx_call (wr := [dkC b cn] ++ acW tc b (ra2, ss2, zf [y1, y2, q2, m2, f2, t2, w2], sd2)) (wc := laW tc b u2) hC (c_La_read l D tys tc hty (b 4) u2.1 (b 14) (u2.2.2.1 0) (u2.2.2.1 1) u2.2.2.2 u2.2.1 (b 2) ro tx hx K (u2.2.2.1 2) (u2.2.2.1 3) r9.2.1 hr9.2.1) ⟨hF.1.1, qR hF.1 (i := 1) (by decide) ho2, hF.1.2.1.1⟩ (cw_V wm_La_read wl_Dk_170 wi_La_read ws_La_La_read hC.2.2.2.2.1 ⟨by decide, by decide⟩) [3, 4] [0, 1, 2] rfl rfl rfl rfl (by decide) rfl rfl rfl rfl rfl (Nat.le_of_ble_eq_true rfl) ⟨by decide, by decide⟩ (fun r' w' hp => ?_)
      obtain ⟨rfl, rb2, x1, x2, sb2, se2, p2, n2, rfl, hok3, hv3⟩ := hp
      refine ⟨[0, 1, 2, 3, 4], ([dkC b cn] ++ acW tc b (ra2, ss2, zf [y1, y2, q2, m2, f2, t2, w2], sd2) ++ laW tc b (rb2, sb2, zf [x1, x2, p2, n2], se2)), rfl, rfl, ?_⟩
      refine And.intro (fun c25 => ?_) (fun c25 => ?_)
      · skip
        have c25 : (laQ tx r9) = none := isN c25
        refine vx_go hC hFt hini (vx_ends hC hr hlk) jc_Dk_scoreOfR 28 (by decide) rfl ?_
        refine And.intro (fun c32 => ?_) (fun c32 => ?_)
        · skip
          refine vx_go hC hFt hini (vx_ends hC hr hlk) jc_Dk_scoreOfR 37 (by decide) rfl ?_
          refine And.intro (trivial) (And.intro ?_ (And.intro (Nat.le_refl _) (Nat.le_refl _)))
          have hsc : scS tx r9 = (acQ tx r9).getD 1000 * 1000 := by
            unfold scS
            rw [if_neg e9, c25]
            rfl
          exact ⟨by rw [hsc, ← pk_mul]; rfl, (ra2, ss2, zf [y1, y2, q2, m2, f2, t2, w2], sd2), (rb2, sb2, zf [x1, x2, p2, n2], se2), rfl, okN ho1 hok2 (by decide), (okN ho2 hok3 (by decide))⟩
        · skip
          exact absurd rfl c32
      · skip
        obtain ⟨v25, c25⟩ := isS (show ¬ bI (laQ tx r9).isSome = 0 from c25)
        have h25 := hv3 v25 c25
        refine vx_go hC hFt hini (vx_ends hC hr hlk) jc_Dk_scoreOfR 29 (by decide) rfl ?_
        refine And.intro (fun c32 => ?_) (fun c32 => ?_)
        · skip
          exact absurd c32 (by decide)
        · skip
          refine And.intro rfl ?_
          refine And.intro rfl ?_
          refine vx_go hC hFt hini (vx_ends hC hr hlk) jc_Dk_scoreOfR 38 (by decide) rfl ?_
          refine And.intro (trivial) (And.intro ?_ (And.intro (Nat.le_refl _) (Nat.le_refl _)))
          have hsc : scS tx r9 = (acQ tx r9).getD 1000 * v25 := by
            unfold scS
            rw [if_neg e9, c25]
            rfl
          exact ⟨by rw [hsc, ← pk_mul, h25]; rfl, (ra2, ss2, zf [y1, y2, q2, m2, f2, t2, w2], sd2), (rb2, sb2, zf [x1, x2, p2, n2], se2), rfl, okN ho1 hok2 (by decide), (okN ho2 hok3 (by decide))⟩
set_option maxRecDepth 100000 in
set_option maxHeartbeats 4000000 in
theorem c_Dk_codeWithoutChoice (l : Launch) (D : va_G) (tys : List (ClassId × FieldType)) (tc : Nat → ClassId) (hty : ∀ i : Nat, i < 4 → tys[i]? = some (tc i, vx_ty i)) (b ro : Nat → Nat) (tx : Nat → List Nat) (K : Nat → Nat) (me : Int32) (rn : Nat) (hn4 : rn ≤ 4) : Kt l y_Dk_codeWithoutChoice (yw y_Dk_codeWithoutChoice b_Dk_codeWithoutChoice 1 (some .int)) 0 0 0 0 D cls tys (qF b ro tx K me) [.ref (b 0)] [dkC b (nI rn)] (fun r w => r = some (.int (nI (if me < 0 ∨ 2 < me then 501 else if rn = 0 then 404 else if me = 2 then 204 else 200))) ∧ w = [dkC b (nI rn)]) := by
  refine Kt.of (qF_ro b ro tx K me) (by decide) rfl hty (Nat.le_of_ble_eq_true rfl) ?_
  intro p e s m args below meth c0 A hC hr hlk hnm hF
  have hFt : vx_Ft y_Dk_codeWithoutChoice.cls (yw y_Dk_codeWithoutChoice b_Dk_codeWithoutChoice 1 (some .int)) cls cty ft_Dk := ft_of (fun w h => List.mem_cons_of_mem _ h) fl_Dk_in ft_Dk_b
  have hini : false = true → meth.name = "<init>" := fun h => by cases h
  refine vx_go hC hFt hini (vx_ends hC hr hlk) jc_Dk_codeWithoutChoice 0 (by decide) rfl ?_
  refine And.intro rfl ?_
  refine ⟨_, ⟨"OriginDesk$Request", "method", "I", "OriginDesk$Request", hF.2.2.1, Or.inl (hC.2.2.2.2.1 _ (List.mem_cons_of_mem _ wf_Dk_113)), fun _ z => z⟩, ?_⟩
  refine And.intro (fun c3 => ?_) (fun c3 => ?_)
  · skip
    have hme : ¬ (me < 0 ∨ 2 < me) := by rw [show me = 0 from c3]; decide
    refine vx_go hC hFt hini (vx_ends hC hr hlk) jc_Dk_codeWithoutChoice 16 (by decide) rfl ?_
    refine And.intro rfl ?_
    refine And.intro (fun c18 => ?_) (fun c18 => ?_)
    · skip
      have c18 : ¬ rn = 0 := fun z => c18 (by rw [z]; rfl)
      refine vx_go hC hFt hini (vx_ends hC hr hlk) jc_Dk_codeWithoutChoice 21 (by decide) rfl ?_
      refine And.intro rfl ?_
      refine ⟨_, ⟨"OriginDesk$Request", "method", "I", "OriginDesk$Request", hF.2.2.1, Or.inl (hC.2.2.2.2.1 _ (List.mem_cons_of_mem _ wf_Dk_113)), fun _ z => z⟩, ?_⟩
      refine And.intro (fun c25 => ?_) (fun c25 => ?_)
      · skip
        have c25 : ¬ me = 2 := c25
        refine vx_go hC hFt hini (vx_ends hC hr hlk) jc_Dk_codeWithoutChoice 28 (by decide) rfl ?_
        refine And.intro (trivial) (And.intro ?_ (And.intro (Nat.le_refl _) (Nat.le_refl _)))
        refine And.intro ?_ rfl
        rw [if_neg hme, if_neg c18, if_neg c25]
        rfl
      · skip
        have c25 : me = 2 := c25
        refine vx_go hC hFt hini (vx_ends hC hr hlk) jc_Dk_codeWithoutChoice 29 (by decide) rfl ?_
        refine And.intro (trivial) (And.intro ?_ (And.intro (Nat.le_refl _) (Nat.le_refl _)))
        refine And.intro ?_ rfl
        rw [if_neg hme, if_neg c18, if_pos c25]
        rfl
    · skip
      have c18 : rn = 0 := (nI_eq (b := 0) (by omega) (by omega)).mp c18
      refine And.intro (trivial) (And.intro ?_ (And.intro (Nat.le_refl _) (Nat.le_refl _)))
      refine And.intro ?_ rfl
      rw [if_neg hme, if_pos c18]
      rfl
  · skip
    refine And.intro rfl ?_
    refine ⟨_, ⟨"OriginDesk$Request", "method", "I", "OriginDesk$Request", hF.2.2.1, Or.inl (hC.2.2.2.2.1 _ (List.mem_cons_of_mem _ wf_Dk_113)), fun _ z => z⟩, ?_⟩
    refine And.intro (fun c8 => ?_) (fun c8 => ?_)
    · skip
      have hme : ¬ (me < 0 ∨ 2 < me) := by rw [show me = 1 from c8]; decide
      refine vx_go hC hFt hini (vx_ends hC hr hlk) jc_Dk_codeWithoutChoice 16 (by decide) rfl ?_
      refine And.intro rfl ?_
      refine And.intro (fun c18 => ?_) (fun c18 => ?_)
      · skip
        have c18 : ¬ rn = 0 := fun z => c18 (by rw [z]; rfl)
        refine vx_go hC hFt hini (vx_ends hC hr hlk) jc_Dk_codeWithoutChoice 21 (by decide) rfl ?_
        refine And.intro rfl ?_
        refine ⟨_, ⟨"OriginDesk$Request", "method", "I", "OriginDesk$Request", hF.2.2.1, Or.inl (hC.2.2.2.2.1 _ (List.mem_cons_of_mem _ wf_Dk_113)), fun _ z => z⟩, ?_⟩
        refine And.intro (fun c25 => ?_) (fun c25 => ?_)
        · skip
          have c25 : ¬ me = 2 := c25
          refine vx_go hC hFt hini (vx_ends hC hr hlk) jc_Dk_codeWithoutChoice 28 (by decide) rfl ?_
          refine And.intro (trivial) (And.intro ?_ (And.intro (Nat.le_refl _) (Nat.le_refl _)))
          refine And.intro ?_ rfl
          rw [if_neg hme, if_neg c18, if_neg c25]
          rfl
        · skip
          have c25 : me = 2 := c25
          refine vx_go hC hFt hini (vx_ends hC hr hlk) jc_Dk_codeWithoutChoice 29 (by decide) rfl ?_
          refine And.intro (trivial) (And.intro ?_ (And.intro (Nat.le_refl _) (Nat.le_refl _)))
          refine And.intro ?_ rfl
          rw [if_neg hme, if_neg c18, if_pos c25]
          rfl
      · skip
        have c18 : rn = 0 := (nI_eq (b := 0) (by omega) (by omega)).mp c18
        refine And.intro (trivial) (And.intro ?_ (And.intro (Nat.le_refl _) (Nat.le_refl _)))
        refine And.intro ?_ rfl
        rw [if_neg hme, if_pos c18]
        rfl
    · skip
      refine And.intro rfl ?_
      refine ⟨_, ⟨"OriginDesk$Request", "method", "I", "OriginDesk$Request", hF.2.2.1, Or.inl (hC.2.2.2.2.1 _ (List.mem_cons_of_mem _ wf_Dk_113)), fun _ z => z⟩, ?_⟩
      refine And.intro (fun c13 => ?_) (fun c13 => ?_)
      · skip
        have hme : ¬ (me < 0 ∨ 2 < me) := by rw [show me = 2 from c13]; decide
        refine vx_go hC hFt hini (vx_ends hC hr hlk) jc_Dk_codeWithoutChoice 16 (by decide) rfl ?_
        refine And.intro rfl ?_
        refine And.intro (fun c18 => ?_) (fun c18 => ?_)
        · skip
          have c18 : ¬ rn = 0 := fun z => c18 (by rw [z]; rfl)
          refine vx_go hC hFt hini (vx_ends hC hr hlk) jc_Dk_codeWithoutChoice 21 (by decide) rfl ?_
          refine And.intro rfl ?_
          refine ⟨_, ⟨"OriginDesk$Request", "method", "I", "OriginDesk$Request", hF.2.2.1, Or.inl (hC.2.2.2.2.1 _ (List.mem_cons_of_mem _ wf_Dk_113)), fun _ z => z⟩, ?_⟩
          refine And.intro (fun c25 => ?_) (fun c25 => ?_)
          · skip
            have c25 : ¬ me = 2 := c25
            refine vx_go hC hFt hini (vx_ends hC hr hlk) jc_Dk_codeWithoutChoice 28 (by decide) rfl ?_
            refine And.intro (trivial) (And.intro ?_ (And.intro (Nat.le_refl _) (Nat.le_refl _)))
            refine And.intro ?_ rfl
            rw [if_neg hme, if_neg c18, if_neg c25]
            rfl
          · skip
            have c25 : me = 2 := c25
            refine vx_go hC hFt hini (vx_ends hC hr hlk) jc_Dk_codeWithoutChoice 29 (by decide) rfl ?_
            refine And.intro (trivial) (And.intro ?_ (And.intro (Nat.le_refl _) (Nat.le_refl _)))
            refine And.intro ?_ rfl
            rw [if_neg hme, if_neg c18, if_pos c25]
            rfl
        · skip
          have c18 : rn = 0 := (nI_eq (b := 0) (by omega) (by omega)).mp c18
          refine And.intro (trivial) (And.intro ?_ (And.intro (Nat.le_refl _) (Nat.le_refl _)))
          refine And.intro ?_ rfl
          rw [if_neg hme, if_pos c18]
          rfl
      · skip
        have hme : me < 0 ∨ 2 < me := Classical.byContradiction (fun z => by
          have z1 : ¬ me < 0 := fun y => z (Or.inl y)
          have z2 : ¬ 2 < me := fun y => z (Or.inr y)
          obtain ⟨y1, y2⟩ := i_nat z1
          have z3 : ¬ nI 2 < nI me.toNatClampNeg := by rw [← y1]; exact z2
          have z4 : ¬ 2 < me.toNatClampNeg := fun y => z3 ((nI_ltI (a := 2) (by decide) y2).mpr y)
          rcases (show me.toNatClampNeg = 0 ∨ me.toNatClampNeg = 1 ∨ me.toNatClampNeg = 2 by omega) with y | y | y
          · exact c3 (by rw [y1, y]; rfl)
          · exact c8 (by rw [y1, y]; rfl)
          · exact c13 (by rw [y1, y]; rfl))
        refine And.intro (trivial) (And.intro ?_ (And.intro (Nat.le_refl _) (Nat.le_refl _)))
        refine And.intro ?_ rfl
        rw [if_pos hme]
        rfl
def j_Dk_isRefusedR : wq_J := [(.aload_n 0, (0, 0, 0, 0, 0)), (.getfield 18, (1, 0, 2, 0, 0)), (.iconst 2, (0, 0, 0, 2, 0)), (.invokevirtual 227, (0, 0, 0, 0, 0)), (.ifCond .eq 57, (0, 65, 0, 0, 0)), (.aload_n 0, (0, 0, 0, 0, 0)), (.getfield 39, (1, 0, 5, 0, 0)), (.aload_n 0, (0, 0, 0, 0, 0)), (.getfield 18, (1, 0, 2, 0, 0)), (.iconst 2, (0, 0, 0, 2, 0)), (.aload_n 1, (0, 0, 0, 0, 0)), (.getfield 230, (2, 0, 0, 0, 0)), (.invokevirtual 175, (0, 0, 0, 0, 0)), (.istore_n 2, (0, 0, 0, 0, 0)), (.iload_n 2, (0, 0, 0, 0, 0)), (.ifCond .eq 30, (0, 59, 0, 0, 0)), (.aload_n 0, (0, 0, 0, 0, 0)), (.getfield 39, (1, 0, 5, 0, 0)), (.getfield 234, (1, 1, 5, 0, 0)), (.ifCond .ne 24, (0, 63, 0, 0, 0)), (.aload_n 0, (0, 0, 0, 0, 0)), (.getfield 39, (1, 0, 5, 0, 0)), (.getfield 238, (1, 1, 7, 0, 0)), (.ifCond .eq 10, (0, 59, 0, 0, 0)), (.aload_n 1, (0, 0, 0, 0, 0)), (.getfield 241, (2, 0, 0, 0, 0)), (.ifCond .eq 7, (0, 63, 0, 0, 0)), (.iconst 1, (0, 0, 0, 1, 0)), (.goto 4, (0, 64, 0, 0, 0)), (.iconst 0, (0, 0, 0, 0, 0)), (.ireturn, (0, 0, 0, 0, 0)), (.aload_n 0, (0, 0, 0, 0, 0)), (.getfield 66, (1, 0, 6, 0, 0)), (.aload_n 0, (0, 0, 0, 0, 0)), (.getfield 18, (1, 0, 2, 0, 0)), (.iconst 5, (0, 0, 0, 5, 0)), (.invokevirtual 179, (0, 0, 0, 0, 0)), (.lstore_n 2, (0, 0, 0, 0, 0)), (.lload_n 2, (0, 0, 0, 0, 0)), (.ldc2_w 183, (1, 0, 0, 0, (-1))), (.lcmp, (0, 0, 0, 0, 0)), (.ifCond .eq 16, (0, 99, 0, 0, 0)), (.lload_n 2, (0, 0, 0, 0, 0)), (.aload_n 1, (0, 0, 0, 0, 0)), (.getfield 244, (2, 0, 0, 0, 0)), (.lcmp, (0, 0, 0, 0, 0)), (.ifCond .ge 7, (0, 99, 0, 0, 0)), (.iconst 1, (0, 0, 0, 1, 0)), (.goto 4, (0, 100, 0, 0, 0)), (.iconst 0, (0, 0, 0, 0, 0)), (.ireturn, (0, 0, 0, 0, 0))]
theorem jc_Dk_isRefusedR : wq_c b_Dk_isRefused 4 j_Dk_isRefusedR 0 = true := by decide +kernel
set_option maxRecDepth 100000 in
set_option maxHeartbeats 4000000 in
theorem c_Dk_isRefused (l : Launch) (D : va_G) (tys : List (ClassId × FieldType)) (tc : Nat → ClassId) (hty : ∀ i : Nat, i < 4 → tys[i]? = some (tc i, vx_ty i)) (b ro : Nat → Nat) (cn : Int32) (tx : Nat → List Nat) (hx : ∀ G, G < 8 → isT (tx G)) (K : Nat → Nat) (me : Int32) (a9 num : Nat) (r9 : Rp) (hr9 : rpOk r9) (ly : Nat) (hly : ly < 10000) (u3 u4 : RSt) (ho3 : okR b ro 2 u3.1) (ho4 : okR b ro 3 u4.1) : Kt l y_Dk_isRefused (yw y_Dk_isRefused b_Dk_isRefused 4 (some .boolean)) 8 173 0 0 D cls tys (fun A U H => qF b ro tx K me A U H ∧ rpF a9 num K r9 A U H) [.ref (b 0), .ref a9] ([dkC b cn] ++ tgW tc b u3 ++ daW tc b ly u4) (fun r w => r = some (.int (bI (rfS ly tx r9))) ∧ ∃ q3 q4, w = ([dkC b cn] ++ tgW tc b q3 ++ daW tc b ly q4) ∧ okR b ro 2 q3.1 ∧ okR b ro 3 q4.1) := by
  refine Kt.of (ro_and (qF_ro b ro tx K me) (rpF_ro a9 num K r9)) (by decide) rfl hty (Nat.le_of_ble_eq_true rfl) ?_
  intro p e s m args below meth c0 A hC hr hlk hnm hF
  have hFt : vx_Ft y_Dk_isRefused.cls (yw y_Dk_isRefused b_Dk_isRefused 4 (some .boolean)) cls cty ft_Dk := ft_of (fun w h => List.mem_cons_of_mem _ h) fl_Dk_in ft_Dk_b
  have hini : false = true → meth.name = "<init>" := fun h => by cases h
  obtain ⟨t9, ht1, ht2⟩ := hF.2.2.2.2.1
  have hWW := tagL_W hr9.2.2.2.1
  have hch : r9.2.2.2.2.2 < 2 ^ 63 := by have := hr9.2.2.2.2; omega
  refine vx_go hC hFt hini (vx_ends hC hr hlk) jc_Dk_isRefusedR 0 (by decide) rfl ?_
  refine And.intro rfl ?_
  refine callv0 hC (c_Rq_has l D tys tc hty (b 2) ro tx 2 (by decide) (hx 2 (by decide)).1) hF.1.1 hF.1.1.1.1 wm_Rq_has wl_Dk_227 wi_Rq_has ws_Rq_Rq_has ⟨by decide, by decide⟩ rfl rfl (Nat.le_of_ble_eq_true rfl) ⟨by decide, by decide⟩ (fun r' hp => ?_)
  subst hp
  refine And.intro (fun c4 => ?_) (fun c4 => ?_)
  · skip
    have c4 : tx 2 = [] := List.eq_nil_of_length_eq_zero (by have := of_decide_eq_false (bI_eq c4); omega)
    refine vx_go hC hFt hini (vx_ends hC hr hlk) jc_Dk_isRefusedR 31 (by decide) rfl ?_
    refine And.intro rfl ?_
    refine And.intro rfl ?_
    refine dx_call (wr := [dkC b cn] ++ tgW tc b u3) (wc := daW tc b ly u4) hC (c_Da_timeOf l D tys tc hty (b 6) u4.1 (b 16) (u4.2.2.1 0) (u4.2.2.1 1) u4.2.2.2 u4.2.1 (b 2) ro tx hx K ly hly (u4.2.2.1 2) (u4.2.2.1 3) (u4.2.2.1 4) (u4.2.2.1 5) 5 (by decide)) ⟨hF.1.1, qR hF.1 (i := 3) (by decide) ho4, hF.1.2.1.1⟩ (cw_V wm_Da_timeOf wl_Dk_179 wi_Da_timeOf ws_Da_Da_timeOf hC.2.2.2.2.1 ⟨by decide, by decide⟩) [3, 4] [0, 1, 2] rfl rfl rfl rfl (by decide) rfl rfl rfl rfl rfl (Nat.le_of_ble_eq_true rfl) ⟨by decide, by decide⟩ (fun r' w' hp => ?_)
    obtain ⟨rfl, rb2, x1, x2, sb2, se2, a2, b2, c2, e2, rfl, hok3⟩ := hp
    refine ⟨[0, 1, 2, 3, 4], ([dkC b cn] ++ tgW tc b u3 ++ daW tc b ly (rb2, sb2, zf [x1, x2, a2, b2, c2, e2], se2)), rfl, rfl, ?_⟩
    refine And.intro (Or.inr (Or.inl ⟨_, rfl, hC.2.2.2.2.1 _ (List.mem_cons_of_mem _ wc_Dk_183)⟩)) ?_
    refine And.intro (fun c41 => ?_) (fun c41 => ?_)
    · skip
      have c41 : dtO ly (tx 5) = none := (lI_m1 (fun t h9 => dtO_lt t h9)).mp c41
      refine vx_go hC hFt hini (vx_ends hC hr hlk) jc_Dk_isRefusedR 49 (by decide) rfl ?_
      refine And.intro (rfl) (And.intro ?_ (And.intro (Nat.le_refl _) (Nat.le_refl _)))
      have hsp : rfS ly tx r9 = false := by
        unfold rfS
        rw [if_pos c4, c41]
      rw [hsp]
      exact ⟨rfl, u3, (rb2, sb2, zf [x1, x2, a2, b2, c2, e2], se2), rfl, ho3, okN ho4 hok3 (by decide)⟩
    · skip
      obtain ⟨t, c41⟩ : ∃ t, dtO ly (tx 5) = some t := by
        cases h9 : dtO ly (tx 5) with
        | none => exact absurd ((lI_m1 (fun t h8 => dtO_lt t h8)).mpr h9) c41
        | some t => exact ⟨t, rfl⟩
      have ht63 := dtO_lt t c41
      refine ⟨_, ⟨"OriginDesk$Representation", "change", "J", "OriginDesk$Representation", hF.2.2.2.2.2.2, Or.inl (hC.2.2.2.2.1 _ (List.mem_cons_of_mem _ wf_Dk_244)), fun _ z => z⟩, ?_⟩
      refine And.intro (fun c46 => ?_) (fun c46 => ?_)
      · skip
        have c46 : ¬ t < r9.2.2.2.2.2 := fun z => absurd (show lg_cmp (lI (dtO ly (tx 5))) (lN r9.2.2.2.2.2) < 0 by rw [c41]; exact lc_lt.mpr ((lW_lt ht63 hch).mpr z)) (Int32.not_lt.mpr c46)
        refine vx_go hC hFt hini (vx_ends hC hr hlk) jc_Dk_isRefusedR 49 (by decide) rfl ?_
        refine And.intro (rfl) (And.intro ?_ (And.intro (Nat.le_refl _) (Nat.le_refl _)))
        have hsp : rfS ly tx r9 = false := by
          unfold rfS
          rw [if_pos c4, c41]
          exact decide_eq_false c46
        rw [hsp]
        exact ⟨rfl, u3, (rb2, sb2, zf [x1, x2, a2, b2, c2, e2], se2), rfl, ho3, okN ho4 hok3 (by decide)⟩
      · skip
        have c46 : t < r9.2.2.2.2.2 := by
          have h9 : lg_cmp (lI (dtO ly (tx 5))) (lN r9.2.2.2.2.2) < 0 := Int32.not_le.mp c46
          rw [c41] at h9
          exact (lW_lt ht63 hch).mp (lc_lt.mp h9)
        refine vx_go hC hFt hini (vx_ends hC hr hlk) jc_Dk_isRefusedR 50 (by decide) rfl ?_
        refine And.intro (rfl) (And.intro ?_ (And.intro (Nat.le_refl _) (Nat.le_refl _)))
        have hsp : rfS ly tx r9 = true := by
          unfold rfS
          rw [if_pos c4, c41]
          exact decide_eq_true c46
        rw [hsp]
        exact ⟨rfl, u3, (rb2, sb2, zf [x1, x2, a2, b2, c2, e2], se2), rfl, ho3, okN ho4 hok3 (by decide)⟩
  · skip
    have c4 : ¬ tx 2 = [] := fun z => by
      have h9 := of_decide_eq_true (bI_ne c4)
      rw [z] at h9
      exact absurd h9 (by decide)
    refine And.intro rfl ?_
    refine And.intro rfl ?_
    refine ⟨_, ⟨"OriginDesk$Representation", "tagText", "Ljava/lang/String;", "OriginDesk$Representation", ht1, Or.inl (hC.2.2.2.2.1 _ (List.mem_cons_of_mem _ wf_Dk_230)), fun _ z => z⟩, ?_⟩
    refine dx_call (wr := [dkC b cn] ++ daW tc b ly u4) (wc := tgW tc b u3) hC (c_Tg_readList l D tys tc hty (b 5) u3.1 (b 15) (u3.2.2.1 0) (u3.2.2.1 1) u3.2.2.2 u3.2.1 (b 2) ro tx hx K (u3.2.2.1 2) (u3.2.2.1 3) (u3.2.2.1 4) 2 (by decide) t9 (tagL r9.2.2.2.1) hWW) ⟨hF.1.1, qR hF.1 (i := 2) (by decide) ho3, hF.1.2.1.1, gt_cs hF.1.2.1, ht2⟩ (cw_V wm_Tg_readList wl_Dk_175 wi_Tg_readList ws_Tg_Tg_readList hC.2.2.2.2.1 ⟨by decide, by decide⟩) [1, 2] [0, 3, 4] rfl rfl rfl rfl (by decide) rfl rfl rfl rfl rfl (Nat.le_of_ble_eq_true rfl) ⟨by decide, by decide⟩ (fun r' w' hp => ?_)
    obtain ⟨rfl, ra2, y1, y2, ss2, sd2, q2, m2, s2, rfl, hok2, hv2⟩ := hp
    refine ⟨[0, 3, 4, 1, 2], ([dkC b cn] ++ tgW tc b (ra2, ss2, zf [y1, y2, q2, m2, s2], sd2) ++ daW tc b ly u4), rfl, rfl, ?_⟩
    refine And.intro (fun c15 => ?_) (fun c15 => ?_)
    · skip
      have c15 : tgsL (tagL r9.2.2.2.1) (tx 2) = none := isN c15
      refine vx_go hC hFt hini (vx_ends hC hr hlk) jc_Dk_isRefusedR 27 (by decide) rfl ?_
      refine vx_go hC hFt hini (vx_ends hC hr hlk) jc_Dk_isRefusedR 30 (by decide) rfl ?_
      refine And.intro (rfl) (And.intro ?_ (And.intro (Nat.le_refl _) (Nat.le_refl _)))
      have hsp : rfS ly tx r9 = true := by
        unfold rfS
        rw [if_neg c4, c15]
      rw [hsp]
      exact ⟨rfl, (ra2, ss2, zf [y1, y2, q2, m2, s2], sd2), u4, rfl, okN ho3 hok2 (by decide), ho4⟩
    · skip
      obtain ⟨⟨v1, v2, v3⟩, c15⟩ := isS c15
      obtain ⟨h71, h72, h73⟩ := hv2 _ c15
      refine And.intro rfl ?_
      refine And.intro rfl ?_
      refine And.intro (fun c19 => ?_) (fun c19 => ?_)
      · skip
        have c19 : v1 = true := by
          have z9 : ¬ q2 = 0 := c19
          rw [h71] at z9
          exact bI_ne z9
        refine vx_go hC hFt hini (vx_ends hC hr hlk) jc_Dk_isRefusedR 29 (by decide) rfl ?_
        refine And.intro (rfl) (And.intro ?_ (And.intro (Nat.le_refl _) (Nat.le_refl _)))
        have hsp : rfS ly tx r9 = false := by
          unfold rfS
          rw [if_neg c4, c15]
          show (!(v1 || (v3 && !r9.2.2.2.2.1))) = false
          rw [c19]
          rfl
        rw [hsp]
        exact ⟨rfl, (ra2, ss2, zf [y1, y2, q2, m2, s2], sd2), u4, rfl, okN ho3 hok2 (by decide), ho4⟩
      · skip
        have c19 : v1 = false := by
          have z9 : q2 = 0 := c19
          rw [h71] at z9
          exact bI_eq z9
        refine And.intro rfl ?_
        refine And.intro rfl ?_
        refine And.intro (fun c23 => ?_) (fun c23 => ?_)
        · skip
          have c23 : v3 = false := by
            have z9 : s2 = 0 := c23
            rw [h73] at z9
            exact bI_eq z9
          refine vx_go hC hFt hini (vx_ends hC hr hlk) jc_Dk_isRefusedR 27 (by decide) rfl ?_
          refine vx_go hC hFt hini (vx_ends hC hr hlk) jc_Dk_isRefusedR 30 (by decide) rfl ?_
          refine And.intro (rfl) (And.intro ?_ (And.intro (Nat.le_refl _) (Nat.le_refl _)))
          have hsp : rfS ly tx r9 = true := by
            unfold rfS
            rw [if_neg c4, c15]
            show (!(v1 || (v3 && !r9.2.2.2.2.1))) = true
            rw [c19, c23]
            rfl
          rw [hsp]
          exact ⟨rfl, (ra2, ss2, zf [y1, y2, q2, m2, s2], sd2), u4, rfl, okN ho3 hok2 (by decide), ho4⟩
        · skip
          have c23 : v3 = true := by
            have z9 : ¬ s2 = 0 := c23
            rw [h73] at z9
            exact bI_ne z9
          refine ⟨_, ⟨"OriginDesk$Representation", "weak", "Z", "OriginDesk$Representation", hF.2.2.2.2.2.1, Or.inl (hC.2.2.2.2.1 _ (List.mem_cons_of_mem _ wf_Dk_241)), fun _ z => z⟩, ?_⟩
          refine And.intro (fun c26 => ?_) (fun c26 => ?_)
          · skip
            have c26 : r9.2.2.2.2.1 = false := bI_eq c26
            refine vx_go hC hFt hini (vx_ends hC hr hlk) jc_Dk_isRefusedR 29 (by decide) rfl ?_
            refine And.intro (rfl) (And.intro ?_ (And.intro (Nat.le_refl _) (Nat.le_refl _)))
            have hsp : rfS ly tx r9 = false := by
              unfold rfS
              rw [if_neg c4, c15]
              show (!(v1 || (v3 && !r9.2.2.2.2.1))) = false
              rw [c19, c23, c26]
              rfl
            rw [hsp]
            exact ⟨rfl, (ra2, ss2, zf [y1, y2, q2, m2, s2], sd2), u4, rfl, okN ho3 hok2 (by decide), ho4⟩
          · skip
            have c26 : r9.2.2.2.2.1 = true := bI_ne c26
            refine vx_go hC hFt hini (vx_ends hC hr hlk) jc_Dk_isRefusedR 30 (by decide) rfl ?_
            refine And.intro (rfl) (And.intro ?_ (And.intro (Nat.le_refl _) (Nat.le_refl _)))
            have hsp : rfS ly tx r9 = true := by
              unfold rfS
              rw [if_neg c4, c15]
              show (!(v1 || (v3 && !r9.2.2.2.2.1))) = true
              rw [c19, c23, c26]
              rfl
            rw [hsp]
            exact ⟨rfl, (ra2, ss2, zf [y1, y2, q2, m2, s2], sd2), u4, rfl, okN ho3 hok2 (by decide), ho4⟩
def j_Dk_isUnchangedR : wq_J := [(.aload_n 0, (0, 0, 0, 0, 0)), (.getfield 18, (1, 0, 2, 0, 0)), (.iconst 3, (0, 0, 0, 3, 0)), (.invokevirtual 227, (0, 0, 0, 0, 0)), (.ifCond .eq 48, (0, 56, 0, 0, 0)), (.aload_n 0, (0, 0, 0, 0, 0)), (.getfield 39, (1, 0, 5, 0, 0)), (.aload_n 0, (0, 0, 0, 0, 0)), (.getfield 18, (1, 0, 2, 0, 0)), (.iconst 3, (0, 0, 0, 3, 0)), (.aload_n 1, (0, 0, 0, 0, 0)), (.getfield 230, (2, 0, 0, 0, 0)), (.invokevirtual 175, (0, 0, 0, 0, 0)), (.ifCond .eq 27, (0, 54, 0, 0, 0)), (.aload_n 0, (0, 0, 0, 0, 0)), (.getfield 39, (1, 0, 5, 0, 0)), (.getfield 234, (1, 1, 5, 0, 0)), (.ifCond .ne 13, (0, 50, 0, 0, 0)), (.aload_n 0, (0, 0, 0, 0, 0)), (.getfield 39, (1, 0, 5, 0, 0)), (.getfield 248, (1, 1, 6, 0, 0)), (.ifCond .eq 7, (0, 54, 0, 0, 0)), (.iconst 1, (0, 0, 0, 1, 0)), (.goto 4, (0, 55, 0, 0, 0)), (.iconst 0, (0, 0, 0, 0, 0)), (.ireturn, (0, 0, 0, 0, 0)), (.aload_n 0, (0, 0, 0, 0, 0)), (.getfield 66, (1, 0, 6, 0, 0)), (.aload_n 0, (0, 0, 0, 0, 0)), (.getfield 18, (1, 0, 2, 0, 0)), (.iconst 4, (0, 0, 0, 4, 0)), (.invokevirtual 179, (0, 0, 0, 0, 0)), (.lstore_n 2, (0, 0, 0, 0, 0)), (.lload_n 2, (0, 0, 0, 0, 0)), (.ldc2_w 183, (1, 0, 0, 0, (-1))), (.lcmp, (0, 0, 0, 0, 0)), (.ifCond .eq 16, (0, 90, 0, 0, 0)), (.lload_n 2, (0, 0, 0, 0, 0)), (.aload_n 1, (0, 0, 0, 0, 0)), (.getfield 244, (2, 0, 0, 0, 0)), (.lcmp, (0, 0, 0, 0, 0)), (.ifCond .lt 7, (0, 90, 0, 0, 0)), (.iconst 1, (0, 0, 0, 1, 0)), (.goto 4, (0, 91, 0, 0, 0)), (.iconst 0, (0, 0, 0, 0, 0)), (.ireturn, (0, 0, 0, 0, 0))]
theorem jc_Dk_isUnchangedR : wq_c b_Dk_isUnchanged 4 j_Dk_isUnchangedR 0 = true := by decide +kernel
set_option maxRecDepth 100000 in
set_option maxHeartbeats 4000000 in
theorem c_Dk_isUnchanged (l : Launch) (D : va_G) (tys : List (ClassId × FieldType)) (tc : Nat → ClassId) (hty : ∀ i : Nat, i < 4 → tys[i]? = some (tc i, vx_ty i)) (b ro : Nat → Nat) (cn : Int32) (tx : Nat → List Nat) (hx : ∀ G, G < 8 → isT (tx G)) (K : Nat → Nat) (me : Int32) (a9 num : Nat) (r9 : Rp) (hr9 : rpOk r9) (ly : Nat) (hly : ly < 10000) (u3 u4 : RSt) (ho3 : okR b ro 2 u3.1) (ho4 : okR b ro 3 u4.1) : Kt l y_Dk_isUnchanged (yw y_Dk_isUnchanged b_Dk_isUnchanged 4 (some .boolean)) 8 173 0 0 D cls tys (fun A U H => qF b ro tx K me A U H ∧ rpF a9 num K r9 A U H) [.ref (b 0), .ref a9] ([dkC b cn] ++ tgW tc b u3 ++ daW tc b ly u4) (fun r w => r = some (.int (bI (unS ly tx r9))) ∧ ∃ q3 q4, w = ([dkC b cn] ++ tgW tc b q3 ++ daW tc b ly q4) ∧ okR b ro 2 q3.1 ∧ okR b ro 3 q4.1) := by
  refine Kt.of (ro_and (qF_ro b ro tx K me) (rpF_ro a9 num K r9)) (by decide) rfl hty (Nat.le_of_ble_eq_true rfl) ?_
  intro p e s m args below meth c0 A hC hr hlk hnm hF
  have hFt : vx_Ft y_Dk_isUnchanged.cls (yw y_Dk_isUnchanged b_Dk_isUnchanged 4 (some .boolean)) cls cty ft_Dk := ft_of (fun w h => List.mem_cons_of_mem _ h) fl_Dk_in ft_Dk_b
  have hini : false = true → meth.name = "<init>" := fun h => by cases h
  obtain ⟨t9, ht1, ht2⟩ := hF.2.2.2.2.1
  have hWW := tagL_W hr9.2.2.2.1
  have hch : r9.2.2.2.2.2 < 2 ^ 63 := by have := hr9.2.2.2.2; omega
  refine vx_go hC hFt hini (vx_ends hC hr hlk) jc_Dk_isUnchangedR 0 (by decide) rfl ?_
  refine And.intro rfl ?_
  refine callv0 hC (c_Rq_has l D tys tc hty (b 2) ro tx 3 (by decide) (hx 3 (by decide)).1) hF.1.1 hF.1.1.1.1 wm_Rq_has wl_Dk_227 wi_Rq_has ws_Rq_Rq_has ⟨by decide, by decide⟩ rfl rfl (Nat.le_of_ble_eq_true rfl) ⟨by decide, by decide⟩ (fun r' hp => ?_)
  subst hp
  refine And.intro (fun c4 => ?_) (fun c4 => ?_)
  · skip
    have c4 : tx 3 = [] := List.eq_nil_of_length_eq_zero (by have := of_decide_eq_false (bI_eq c4); omega)
    refine vx_go hC hFt hini (vx_ends hC hr hlk) jc_Dk_isUnchangedR 26 (by decide) rfl ?_
    refine And.intro rfl ?_
    refine And.intro rfl ?_
    refine dx_call (wr := [dkC b cn] ++ tgW tc b u3) (wc := daW tc b ly u4) hC (c_Da_timeOf l D tys tc hty (b 6) u4.1 (b 16) (u4.2.2.1 0) (u4.2.2.1 1) u4.2.2.2 u4.2.1 (b 2) ro tx hx K ly hly (u4.2.2.1 2) (u4.2.2.1 3) (u4.2.2.1 4) (u4.2.2.1 5) 4 (by decide)) ⟨hF.1.1, qR hF.1 (i := 3) (by decide) ho4, hF.1.2.1.1⟩ (cw_V wm_Da_timeOf wl_Dk_179 wi_Da_timeOf ws_Da_Da_timeOf hC.2.2.2.2.1 ⟨by decide, by decide⟩) [3, 4] [0, 1, 2] rfl rfl rfl rfl (by decide) rfl rfl rfl rfl rfl (Nat.le_of_ble_eq_true rfl) ⟨by decide, by decide⟩ (fun r' w' hp => ?_)
    obtain ⟨rfl, rb2, x1, x2, sb2, se2, a2, b2, c2, e2, rfl, hok3⟩ := hp
    refine ⟨[0, 1, 2, 3, 4], ([dkC b cn] ++ tgW tc b u3 ++ daW tc b ly (rb2, sb2, zf [x1, x2, a2, b2, c2, e2], se2)), rfl, rfl, ?_⟩
    refine And.intro (Or.inr (Or.inl ⟨_, rfl, hC.2.2.2.2.1 _ (List.mem_cons_of_mem _ wc_Dk_183)⟩)) ?_
    refine And.intro (fun c36 => ?_) (fun c36 => ?_)
    · skip
      have c36 : dtO ly (tx 4) = none := (lI_m1 (fun t h9 => dtO_lt t h9)).mp c36
      refine vx_go hC hFt hini (vx_ends hC hr hlk) jc_Dk_isUnchangedR 44 (by decide) rfl ?_
      refine And.intro (rfl) (And.intro ?_ (And.intro (Nat.le_refl _) (Nat.le_refl _)))
      have hsp : unS ly tx r9 = false := by
        unfold unS
        rw [if_pos c4, c36]
      rw [hsp]
      exact ⟨rfl, u3, (rb2, sb2, zf [x1, x2, a2, b2, c2, e2], se2), rfl, ho3, okN ho4 hok3 (by decide)⟩
    · skip
      obtain ⟨t, c36⟩ : ∃ t, dtO ly (tx 4) = some t := by
        cases h9 : dtO ly (tx 4) with
        | none => exact absurd ((lI_m1 (fun t h8 => dtO_lt t h8)).mpr h9) c36
        | some t => exact ⟨t, rfl⟩
      have ht63 := dtO_lt t c36
      refine ⟨_, ⟨"OriginDesk$Representation", "change", "J", "OriginDesk$Representation", hF.2.2.2.2.2.2, Or.inl (hC.2.2.2.2.1 _ (List.mem_cons_of_mem _ wf_Dk_244)), fun _ z => z⟩, ?_⟩
      refine And.intro (fun c41 => ?_) (fun c41 => ?_)
      · skip
        have c41 : t < r9.2.2.2.2.2 := by
          have h9 : lg_cmp (lI (dtO ly (tx 4))) (lN r9.2.2.2.2.2) < 0 := c41
          rw [c36] at h9
          exact (lW_lt ht63 hch).mp (lc_lt.mp h9)
        refine vx_go hC hFt hini (vx_ends hC hr hlk) jc_Dk_isUnchangedR 44 (by decide) rfl ?_
        refine And.intro (rfl) (And.intro ?_ (And.intro (Nat.le_refl _) (Nat.le_refl _)))
        have hsp : unS ly tx r9 = false := by
          unfold unS
          rw [if_pos c4, c36]
          exact decide_eq_false (by omega)
        rw [hsp]
        exact ⟨rfl, u3, (rb2, sb2, zf [x1, x2, a2, b2, c2, e2], se2), rfl, ho3, okN ho4 hok3 (by decide)⟩
      · skip
        have c41 : ¬ t < r9.2.2.2.2.2 := fun z => absurd (show lg_cmp (lI (dtO ly (tx 4))) (lN r9.2.2.2.2.2) < 0 by rw [c36]; exact lc_lt.mpr ((lW_lt ht63 hch).mpr z)) c41
        refine vx_go hC hFt hini (vx_ends hC hr hlk) jc_Dk_isUnchangedR 45 (by decide) rfl ?_
        refine And.intro (rfl) (And.intro ?_ (And.intro (Nat.le_refl _) (Nat.le_refl _)))
        have hsp : unS ly tx r9 = true := by
          unfold unS
          rw [if_pos c4, c36]
          exact decide_eq_true (by omega)
        rw [hsp]
        exact ⟨rfl, u3, (rb2, sb2, zf [x1, x2, a2, b2, c2, e2], se2), rfl, ho3, okN ho4 hok3 (by decide)⟩
  · skip
    have c4 : ¬ tx 3 = [] := fun z => by
      have h9 := of_decide_eq_true (bI_ne c4)
      rw [z] at h9
      exact absurd h9 (by decide)
    refine And.intro rfl ?_
    refine And.intro rfl ?_
    refine ⟨_, ⟨"OriginDesk$Representation", "tagText", "Ljava/lang/String;", "OriginDesk$Representation", ht1, Or.inl (hC.2.2.2.2.1 _ (List.mem_cons_of_mem _ wf_Dk_230)), fun _ z => z⟩, ?_⟩
    refine dx_call (wr := [dkC b cn] ++ daW tc b ly u4) (wc := tgW tc b u3) hC (c_Tg_readList l D tys tc hty (b 5) u3.1 (b 15) (u3.2.2.1 0) (u3.2.2.1 1) u3.2.2.2 u3.2.1 (b 2) ro tx hx K (u3.2.2.1 2) (u3.2.2.1 3) (u3.2.2.1 4) 3 (by decide) t9 (tagL r9.2.2.2.1) hWW) ⟨hF.1.1, qR hF.1 (i := 2) (by decide) ho3, hF.1.2.1.1, gt_cs hF.1.2.1, ht2⟩ (cw_V wm_Tg_readList wl_Dk_175 wi_Tg_readList ws_Tg_Tg_readList hC.2.2.2.2.1 ⟨by decide, by decide⟩) [1, 2] [0, 3, 4] rfl rfl rfl rfl (by decide) rfl rfl rfl rfl rfl (Nat.le_of_ble_eq_true rfl) ⟨by decide, by decide⟩ (fun r' w' hp => ?_)
    obtain ⟨rfl, ra2, y1, y2, ss2, sd2, q2, m2, s2, rfl, hok2, hv2⟩ := hp
    refine ⟨[0, 3, 4, 1, 2], ([dkC b cn] ++ tgW tc b (ra2, ss2, zf [y1, y2, q2, m2, s2], sd2) ++ daW tc b ly u4), rfl, rfl, ?_⟩
    refine And.intro (fun c13 => ?_) (fun c13 => ?_)
    · skip
      have c13 : tgsL (tagL r9.2.2.2.1) (tx 3) = none := isN c13
      refine vx_go hC hFt hini (vx_ends hC hr hlk) jc_Dk_isUnchangedR 24 (by decide) rfl ?_
      refine And.intro (rfl) (And.intro ?_ (And.intro (Nat.le_refl _) (Nat.le_refl _)))
      have hsp : unS ly tx r9 = false := by
        unfold unS
        rw [if_neg c4, c13]
      rw [hsp]
      exact ⟨rfl, (ra2, ss2, zf [y1, y2, q2, m2, s2], sd2), u4, rfl, okN ho3 hok2 (by decide), ho4⟩
    · skip
      obtain ⟨⟨v1, v2, v3⟩, c13⟩ := isS c13
      obtain ⟨h71, h72, h73⟩ := hv2 _ c13
      refine And.intro rfl ?_
      refine And.intro rfl ?_
      refine And.intro (fun c17 => ?_) (fun c17 => ?_)
      · skip
        have c17 : v1 = true := by
          have z9 : ¬ q2 = 0 := c17
          rw [h71] at z9
          exact bI_ne z9
        refine vx_go hC hFt hini (vx_ends hC hr hlk) jc_Dk_isUnchangedR 22 (by decide) rfl ?_
        refine vx_go hC hFt hini (vx_ends hC hr hlk) jc_Dk_isUnchangedR 25 (by decide) rfl ?_
        refine And.intro (rfl) (And.intro ?_ (And.intro (Nat.le_refl _) (Nat.le_refl _)))
        have hsp : unS ly tx r9 = true := by
          unfold unS
          rw [if_neg c4, c13]
          show (v1 || v2) = true
          rw [c17]
          rfl
        rw [hsp]
        exact ⟨rfl, (ra2, ss2, zf [y1, y2, q2, m2, s2], sd2), u4, rfl, okN ho3 hok2 (by decide), ho4⟩
      · skip
        have c17 : v1 = false := by
          have z9 : q2 = 0 := c17
          rw [h71] at z9
          exact bI_eq z9
        refine And.intro rfl ?_
        refine And.intro rfl ?_
        refine And.intro (fun c21 => ?_) (fun c21 => ?_)
        · skip
          have c21 : v2 = false := by
            have z9 : m2 = 0 := c21
            rw [h72] at z9
            exact bI_eq z9
          refine vx_go hC hFt hini (vx_ends hC hr hlk) jc_Dk_isUnchangedR 24 (by decide) rfl ?_
          refine And.intro (rfl) (And.intro ?_ (And.intro (Nat.le_refl _) (Nat.le_refl _)))
          have hsp : unS ly tx r9 = false := by
            unfold unS
            rw [if_neg c4, c13]
            show (v1 || v2) = false
            rw [c17, c21]
            rfl
          rw [hsp]
          exact ⟨rfl, (ra2, ss2, zf [y1, y2, q2, m2, s2], sd2), u4, rfl, okN ho3 hok2 (by decide), ho4⟩
        · skip
          have c21 : v2 = true := by
            have z9 : ¬ m2 = 0 := c21
            rw [h72] at z9
            exact bI_ne z9
          refine vx_go hC hFt hini (vx_ends hC hr hlk) jc_Dk_isUnchangedR 25 (by decide) rfl ?_
          refine And.intro (rfl) (And.intro ?_ (And.intro (Nat.le_refl _) (Nat.le_refl _)))
          have hsp : unS ly tx r9 = true := by
            unfold unS
            rw [if_neg c4, c13]
            show (v1 || v2) = true
            rw [c17, c21]
            rfl
          rw [hsp]
          exact ⟨rfl, (ra2, ss2, zf [y1, y2, q2, m2, s2], sd2), u4, rfl, okN ho3 hok2 (by decide), ho4⟩
def j_Dk_isRangeWantedR : wq_J := [(.aload_n 0, (0, 0, 0, 0, 0)), (.getfield 18, (1, 0, 2, 0, 0)), (.bipush 6, (0, 0, 0, 6, 0)), (.invokevirtual 227, (0, 0, 0, 0, 0)), (.ifCond .ne 5, (0, 14, 0, 0, 0)), (.iconst 1, (0, 0, 0, 1, 0)), (.ireturn, (0, 0, 0, 0, 0)), (.aload_n 0, (0, 0, 0, 0, 0)), (.getfield 39, (1, 0, 5, 0, 0)), (.aload_n 0, (0, 0, 0, 0, 0)), (.getfield 18, (1, 0, 2, 0, 0)), (.bipush 6, (0, 0, 0, 6, 0)), (.aload_n 1, (0, 0, 0, 0, 0)), (.getfield 230, (2, 0, 0, 0, 0)), (.invokevirtual 185, (0, 0, 0, 0, 0)), (.ifCond .eq 26, (0, 57, 0, 0, 0)), (.aload_n 0, (0, 0, 0, 0, 0)), (.getfield 39, (1, 0, 5, 0, 0)), (.getfield 238, (1, 1, 7, 0, 0)), (.ifCond .eq 14, (0, 55, 0, 0, 0)), (.aload_n 1, (0, 0, 0, 0, 0)), (.getfield 241, (2, 0, 0, 0, 0)), (.ifCond .ne 7, (0, 55, 0, 0, 0)), (.iconst 1, (0, 0, 0, 1, 0)), (.goto 4, (0, 56, 0, 0, 0)), (.iconst 0, (0, 0, 0, 0, 0)), (.ireturn, (0, 0, 0, 0, 0)), (.aload_n 0, (0, 0, 0, 0, 0)), (.getfield 66, (1, 0, 6, 0, 0)), (.aload_n 0, (0, 0, 0, 0, 0)), (.getfield 18, (1, 0, 2, 0, 0)), (.bipush 6, (0, 0, 0, 6, 0)), (.invokevirtual 179, (0, 0, 0, 0, 0)), (.aload_n 1, (0, 0, 0, 0, 0)), (.getfield 244, (2, 0, 0, 0, 0)), (.lcmp, (0, 0, 0, 0, 0)), (.ifCond .ne 7, (0, 82, 0, 0, 0)), (.iconst 1, (0, 0, 0, 1, 0)), (.goto 4, (0, 83, 0, 0, 0)), (.iconst 0, (0, 0, 0, 0, 0)), (.ireturn, (0, 0, 0, 0, 0))]
theorem jc_Dk_isRangeWantedR : wq_c b_Dk_isRangeWanted 2 j_Dk_isRangeWantedR 0 = true := by decide +kernel
set_option maxRecDepth 100000 in
set_option maxHeartbeats 4000000 in
theorem c_Dk_isRangeWanted (l : Launch) (D : va_G) (tys : List (ClassId × FieldType)) (tc : Nat → ClassId) (hty : ∀ i : Nat, i < 4 → tys[i]? = some (tc i, vx_ty i)) (b ro : Nat → Nat) (cn : Int32) (tx : Nat → List Nat) (hx : ∀ G, G < 8 → isT (tx G)) (K : Nat → Nat) (me : Int32) (a9 num : Nat) (r9 : Rp) (hr9 : rpOk r9) (ly : Nat) (hly : ly < 10000) (u3 u4 : RSt) (ho3 : okR b ro 2 u3.1) (ho4 : okR b ro 3 u4.1) : Kt l y_Dk_isRangeWanted (yw y_Dk_isRangeWanted b_Dk_isRangeWanted 2 (some .boolean)) 8 173 0 0 D cls tys (fun A U H => qF b ro tx K me A U H ∧ rpF a9 num K r9 A U H) [.ref (b 0), .ref a9] ([dkC b cn] ++ tgW tc b u3 ++ daW tc b ly u4) (fun r w => r = some (.int (bI (irS ly (tagL r9.2.2.2.1) r9.2.2.2.2.1 r9.2.2.2.2.2 (tx 6)))) ∧ ∃ q3 q4, w = ([dkC b cn] ++ tgW tc b q3 ++ daW tc b ly q4) ∧ okR b ro 2 q3.1 ∧ okR b ro 3 q4.1) := by
  refine Kt.of (ro_and (qF_ro b ro tx K me) (rpF_ro a9 num K r9)) (by decide) rfl hty (Nat.le_of_ble_eq_true rfl) ?_
  intro p e s m args below meth c0 A hC hr hlk hnm hF
  have hFt : vx_Ft y_Dk_isRangeWanted.cls (yw y_Dk_isRangeWanted b_Dk_isRangeWanted 2 (some .boolean)) cls cty ft_Dk := ft_of (fun w h => List.mem_cons_of_mem _ h) fl_Dk_in ft_Dk_b
  have hini : false = true → meth.name = "<init>" := fun h => by cases h
  obtain ⟨t9, ht1, ht2⟩ := hF.2.2.2.2.1
  have hWW := tagL_W hr9.2.2.2.1
  have hch : r9.2.2.2.2.2 < 2 ^ 63 := by have := hr9.2.2.2.2; omega
  refine vx_go hC hFt hini (vx_ends hC hr hlk) jc_Dk_isRangeWantedR 0 (by decide) rfl ?_
  refine And.intro rfl ?_
  refine callv0 hC (c_Rq_has l D tys tc hty (b 2) ro tx 6 (by decide) (hx 6 (by decide)).1) hF.1.1 hF.1.1.1.1 wm_Rq_has wl_Dk_227 wi_Rq_has ws_Rq_Rq_has ⟨by decide, by decide⟩ rfl rfl (Nat.le_of_ble_eq_true rfl) ⟨by decide, by decide⟩ (fun r' hp => ?_)
  subst hp
  refine And.intro (fun c4 => ?_) (fun c4 => ?_)
  · skip
    have c4 : ¬ tx 6 = [] := fun z => by
      have h9 := of_decide_eq_true (bI_ne c4)
      rw [z] at h9
      exact absurd h9 (by decide)
    refine vx_go hC hFt hini (vx_ends hC hr hlk) jc_Dk_isRangeWantedR 7 (by decide) rfl ?_
    refine And.intro rfl ?_
    refine And.intro rfl ?_
    refine ⟨_, ⟨"OriginDesk$Representation", "tagText", "Ljava/lang/String;", "OriginDesk$Representation", ht1, Or.inl (hC.2.2.2.2.1 _ (List.mem_cons_of_mem _ wf_Dk_230)), fun _ z => z⟩, ?_⟩
    refine dx_call (wr := [dkC b cn] ++ daW tc b ly u4) (wc := tgW tc b u3) hC (c_Tg_readOne l D tys tc hty (b 5) u3.1 (b 15) (u3.2.2.1 0) (u3.2.2.1 1) u3.2.2.2 u3.2.1 (b 2) ro tx hx K (u3.2.2.1 2) (u3.2.2.1 3) (u3.2.2.1 4) 6 (by decide) t9 (tagL r9.2.2.2.1) hWW) ⟨hF.1.1, qR hF.1 (i := 2) (by decide) ho3, hF.1.2.1.1, gt_cs hF.1.2.1, ht2⟩ (cw_V wm_Tg_readOne wl_Dk_185 wi_Tg_readOne ws_Tg_Tg_readOne hC.2.2.2.2.1 ⟨by decide, by decide⟩) [1, 2] [0, 3, 4] rfl rfl rfl rfl (by decide) rfl rfl rfl rfl rfl (Nat.le_of_ble_eq_true rfl) ⟨by decide, by decide⟩ (fun r' w' hp => ?_)
    obtain ⟨rfl, ra2, y1, y2, ss2, sd2, q2, m2, s2, rfl, hok2, hv2⟩ := hp
    refine ⟨[0, 3, 4, 1, 2], ([dkC b cn] ++ tgW tc b (ra2, ss2, zf [y1, y2, q2, m2, s2], sd2) ++ daW tc b ly u4), rfl, rfl, ?_⟩
    refine And.intro (fun c15 => ?_) (fun c15 => ?_)
    · skip
      have c15 : lonT (tagL r9.2.2.2.1) (tx 6) = none := isN c15
      refine vx_go hC hFt hini (vx_ends hC hr hlk) jc_Dk_isRangeWantedR 27 (by decide) rfl ?_
      refine And.intro rfl ?_
      refine And.intro rfl ?_
      refine dx_call (wr := [dkC b cn] ++ tgW tc b (ra2, ss2, zf [y1, y2, q2, m2, s2], sd2)) (wc := daW tc b ly u4) hC (c_Da_timeOf l D tys tc hty (b 6) u4.1 (b 16) (u4.2.2.1 0) (u4.2.2.1 1) u4.2.2.2 u4.2.1 (b 2) ro tx hx K ly hly (u4.2.2.1 2) (u4.2.2.1 3) (u4.2.2.1 4) (u4.2.2.1 5) 6 (by decide)) ⟨hF.1.1, qR hF.1 (i := 3) (by decide) ho4, hF.1.2.1.1⟩ (cw_V wm_Da_timeOf wl_Dk_179 wi_Da_timeOf ws_Da_Da_timeOf hC.2.2.2.2.1 ⟨by decide, by decide⟩) [3, 4] [0, 1, 2] rfl rfl rfl rfl (by decide) rfl rfl rfl rfl rfl (Nat.le_of_ble_eq_true rfl) ⟨by decide, by decide⟩ (fun r' w' hp => ?_)
      obtain ⟨rfl, rb2, x1, x2, sb2, se2, a2, b2, c2, e2, rfl, hok3⟩ := hp
      refine ⟨[0, 1, 2, 3, 4], ([dkC b cn] ++ tgW tc b (ra2, ss2, zf [y1, y2, q2, m2, s2], sd2) ++ daW tc b ly (rb2, sb2, zf [x1, x2, a2, b2, c2, e2], se2)), rfl, rfl, ?_⟩
      refine ⟨_, ⟨"OriginDesk$Representation", "change", "J", "OriginDesk$Representation", hF.2.2.2.2.2.2, Or.inl (hC.2.2.2.2.1 _ (List.mem_cons_of_mem _ wf_Dk_244)), fun _ z => z⟩, ?_⟩
      refine And.intro (fun c36 => ?_) (fun c36 => ?_)
      · skip
        have c36 : ¬ dtO ly (tx 6) = some r9.2.2.2.2.2 := fun z => c36 (lc_eq.mpr ((lI_eq (fun t h9 => dtO_lt t h9) hch).mpr z))
        refine vx_go hC hFt hini (vx_ends hC hr hlk) jc_Dk_isRangeWantedR 39 (by decide) rfl ?_
        refine And.intro (rfl) (And.intro ?_ (And.intro (Nat.le_refl _) (Nat.le_refl _)))
        have hsp : irS ly (tagL r9.2.2.2.1) r9.2.2.2.2.1 r9.2.2.2.2.2 (tx 6) = false := by
          unfold irS
          rw [if_neg c4, c15]
          exact decide_eq_false c36
        rw [hsp]
        exact ⟨rfl, (ra2, ss2, zf [y1, y2, q2, m2, s2], sd2), (rb2, sb2, zf [x1, x2, a2, b2, c2, e2], se2), rfl, okN ho3 hok2 (by decide), okN ho4 hok3 (by decide)⟩
      · skip
        have c36 : dtO ly (tx 6) = some r9.2.2.2.2.2 := (lI_eq (fun t h9 => dtO_lt t h9) hch).mp (lc_eq.mp c36)
        refine vx_go hC hFt hini (vx_ends hC hr hlk) jc_Dk_isRangeWantedR 40 (by decide) rfl ?_
        refine And.intro (rfl) (And.intro ?_ (And.intro (Nat.le_refl _) (Nat.le_refl _)))
        have hsp : irS ly (tagL r9.2.2.2.1) r9.2.2.2.2.1 r9.2.2.2.2.2 (tx 6) = true := by
          unfold irS
          rw [if_neg c4, c15]
          exact decide_eq_true c36
        rw [hsp]
        exact ⟨rfl, (ra2, ss2, zf [y1, y2, q2, m2, s2], sd2), (rb2, sb2, zf [x1, x2, a2, b2, c2, e2], se2), rfl, okN ho3 hok2 (by decide), okN ho4 hok3 (by decide)⟩
    · skip
      obtain ⟨v9, c15⟩ := isS c15
      have h71 := hv2 _ c15
      refine And.intro rfl ?_
      refine And.intro rfl ?_
      refine And.intro (fun c19 => ?_) (fun c19 => ?_)
      · skip
        have c19 : v9 = false := by
          have z9 : s2 = 0 := c19
          rw [h71] at z9
          exact bI_eq z9
        refine vx_go hC hFt hini (vx_ends hC hr hlk) jc_Dk_isRangeWantedR 25 (by decide) rfl ?_
        refine And.intro (rfl) (And.intro ?_ (And.intro (Nat.le_refl _) (Nat.le_refl _)))
        have hsp : irS ly (tagL r9.2.2.2.1) r9.2.2.2.2.1 r9.2.2.2.2.2 (tx 6) = false := by
          unfold irS
          rw [if_neg c4, c15]
          show (v9 && !r9.2.2.2.2.1) = false
          rw [c19]
          rfl
        rw [hsp]
        exact ⟨rfl, (ra2, ss2, zf [y1, y2, q2, m2, s2], sd2), u4, rfl, okN ho3 hok2 (by decide), ho4⟩
      · skip
        have c19 : v9 = true := by
          have z9 : ¬ s2 = 0 := c19
          rw [h71] at z9
          exact bI_ne z9
        refine ⟨_, ⟨"OriginDesk$Representation", "weak", "Z", "OriginDesk$Representation", hF.2.2.2.2.2.1, Or.inl (hC.2.2.2.2.1 _ (List.mem_cons_of_mem _ wf_Dk_241)), fun _ z => z⟩, ?_⟩
        refine And.intro (fun c22 => ?_) (fun c22 => ?_)
        · skip
          have c22 : r9.2.2.2.2.1 = true := bI_ne c22
          refine vx_go hC hFt hini (vx_ends hC hr hlk) jc_Dk_isRangeWantedR 25 (by decide) rfl ?_
          refine And.intro (rfl) (And.intro ?_ (And.intro (Nat.le_refl _) (Nat.le_refl _)))
          have hsp : irS ly (tagL r9.2.2.2.1) r9.2.2.2.2.1 r9.2.2.2.2.2 (tx 6) = false := by
            unfold irS
            rw [if_neg c4, c15]
            show (v9 && !r9.2.2.2.2.1) = false
            rw [c19, c22]
            rfl
          rw [hsp]
          exact ⟨rfl, (ra2, ss2, zf [y1, y2, q2, m2, s2], sd2), u4, rfl, okN ho3 hok2 (by decide), ho4⟩
        · skip
          have c22 : r9.2.2.2.2.1 = false := bI_eq c22
          refine vx_go hC hFt hini (vx_ends hC hr hlk) jc_Dk_isRangeWantedR 26 (by decide) rfl ?_
          refine And.intro (rfl) (And.intro ?_ (And.intro (Nat.le_refl _) (Nat.le_refl _)))
          have hsp : irS ly (tagL r9.2.2.2.1) r9.2.2.2.2.1 r9.2.2.2.2.2 (tx 6) = true := by
            unfold irS
            rw [if_neg c4, c15]
            show (v9 && !r9.2.2.2.2.1) = true
            rw [c19, c22]
            rfl
          rw [hsp]
          exact ⟨rfl, (ra2, ss2, zf [y1, y2, q2, m2, s2], sd2), u4, rfl, okN ho3 hok2 (by decide), ho4⟩
  · skip
    have c4 : tx 6 = [] := List.eq_nil_of_length_eq_zero (by have := of_decide_eq_false (bI_eq c4); omega)
    refine And.intro (rfl) (And.intro ?_ (And.intro (Nat.le_refl _) (Nat.le_refl _)))
    have hsp : irS ly (tagL r9.2.2.2.1) r9.2.2.2.2.1 r9.2.2.2.2.2 (tx 6) = true := by
      unfold irS
      rw [if_pos c4]
    rw [hsp]
    exact ⟨rfl, u3, u4, rfl, ho3, ho4⟩
