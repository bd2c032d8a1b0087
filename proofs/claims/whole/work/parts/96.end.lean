/-! THE CLAIM OUT OF ONE WALK OF THE LAW'S BODY. Your part is whole_start (and what it stands on); all else here is the same for every law, but numbers. -/
def R_law : String := "OriginDeskLaw"
def lw_P (b : Addr) (xs : List Int32) (args : Array Value) (s : State) : Prop := args = #[.ref b] ∧ s.IntsAt b xs ∧ xs.length ≤ 4097 ∧ (Jvm.Cond.and given_1 narrow_1).before args s = true
def lw_Q (_ : Array Value) (s : State) (o : Outcome) (t : State) : Prop := o = .returned (some (.int 1)) ∧ Framed s o t [] 772315 6785302
def lw_Z (below : List Frame) (a : Array Value) (s : State) : State → Prop := fun t => ∃ o, t.status = .running ∧ Ended t below o ∧ lw_Q a s o t
/-- the law's own end, with 1 on the stack, nothing written that was there before, its room as the claim has it -/
theorem lw_ret {p : Program} {l : Launch} {e : Env} {s : State} {m : MethodId} {below : List Frame} {meth : Method} {c : Code} {b : Nat} (hx : p.tables.exec = Jvm.exec) (hb : c.code = code) (hr : meth.sig.returnType = ret) (hlocks : meth.locks = false) {pc : Nat} {H : Heap} {ls : Array Slot} (hdg : decode code pc = .ok (.ireturn, 1)) : W p l e room_1 s m #[Value.ref b] below meth c H [] 772315 6785302 (lw_Z below #[Value.ref b] s) (F0 m pc ls [.int 1]) := by
  intro T hT X
  obtain ⟨fs, hret, hrun, hended, hW, hframe⟩ := X.leave (v := some (.int 1)) (hlocks := hlocks) (fun h => by rw [hr] at h; cases h)
  have hmeth' : T.vm.method? m = some meth := X.method'
  refine ⟨T.setFrames fs, ?_, .returned (some (.int 1)), hrun, hended, rfl, ⟨_, rfl⟩, hW, hframe⟩
  jvm_step X.here [X.here.top, hx, hb, hdg, hmeth', hr, ret, narrow_b1]
  (try refine ⟨rfl, ?_⟩); (try refine ⟨rfl, ?_⟩)
  first | (intro acts; rw [hret _ acts rfl rfl rfl]) | rw [hret _ _ rfl rfl rfl]
  exact Steps.refl _
/-- what holds at the law's entry: the machine, the code, the tables' words (any of lw_tbl by 'hts w (by decide +kernel)'), the script of L ints xs at the cell b, what the Statement gives of the start (any of its parts by flat_of_before) -/
def lw_At (p : Program) (s : State) (m : MethodId) (meth : Method) (c : Code) (b L : Nat) (xs : Nat → Int32) : Prop :=
  p.tables.exec = Jvm.exec ∧ c.code = code ∧ meth.sig.returnType = ret ∧ c.maxLocals = 4 ∧ s.vm.findClass R_law = some m.cls ∧ (∀ w ∈ lw_tbl, w.before #[Value.ref b] s = true) ∧ va_X b L xs s s.heap ∧ b < s.heap.size ∧ meth.locks = false ∧ (Jvm.Cond.and given_1 narrow_1).before #[Value.ref b] s = true
/-! THE LAW: its loop, its start (wip/whole/gen/p96.py) -/
theorem and15 (x : Int32) : ∃ q, q < 16 ∧ x &&& 15 = nI q := by
  refine ⟨x.toBitVec.toNat % 16, Nat.mod_lt _ (by decide), ?_⟩
  apply Int32.toBitVec_inj.mp
  rw [Int32.toBitVec_and]
  show x.toBitVec &&& BitVec.ofNat 32 15 = BitVec.ofNat 32 (x.toBitVec.toNat % 16)
  apply BitVec.eq_of_getLsbD_eq
  intro i hi
  rw [BitVec.getLsbD_and, BitVec.getLsbD_ofNat, BitVec.getLsbD_ofNat, show 15 = 2 ^ 4 - 1 from rfl, Nat.testBit_two_pow_sub_one, show 16 = 2 ^ 4 from rfl, Nat.testBit_mod_two_pow]
  by_cases h : i < 4
  · simp [h, hi, BitVec.getLsbD]
  · simp [h]
set_option maxRecDepth 100000 in
set_option maxHeartbeats 4000000 in
theorem law_loop {p : Program} {l : Launch} {e : Env} {s : State} {m : MethodId} {below : List Frame} {meth : Method} {c : Code} {D : va_G} {tys : List (ClassId × FieldType)} {A : Nat → Prop} {tc : Nat → ClassId} {y0 : MethodName} {b0 : ByteArray} {n0 : Nat} {r0 : Option FieldType} {tcA tcR : ClassId} {K b ro : Nat → Nat} {hm : Nat} {ar : Nat → Nat} {N : Nat} {bs Ls : Nat} {xs : Nat → Int32} (hC : Cx p s m #[Value.ref bs] c code 4 "OriginDeskLaw" (yw y0 b0 n0 r0) D cls tys A tc) (hr : meth.sig.returnType = ret) (hlk : meth.locks = false) (hAx : ∀ q, A q → s.heap.size ≤ q) (hty : ∀ i : Nat, i < 4 → tys[i]? = some (tc i, vx_ty i)) (htA : tys[5]? = some (tcA, .array .int)) (htR : tys[4]? = some (tcR, .object "OriginDesk$Representation")) (hg : gtF K A s s.heap) (hnw : nwF s) (hX : va_T .int bs Ls (fun j => .int (xs j)) A s s.heap) (hLs : Ls ≤ 4097) : ∀ (d q : Nat) (ws : va_W), 513 - q = d → q ≤ 512 → Inv tc tcA tcR K b ro hm ar N ws → Vx p l e room_1 s m #[Value.ref bs] below meth c 4 D cls A (lw_Z below #[Value.ref bs] s) 28 [(0, .ref bs), (1, .ref (b 0)), (2, .ref hm), (3, .int (nI (1 + 8 * q)))] [] ws (60 + 41 * q) (5000 + 3700 * q) := by
  have hE : vx_EN code (fun r _ k n => r = some (.int 1) ∧ k ≤ 772315 ∧ n ≤ 6785302) (Vx p l e room_1 s m #[Value.ref bs] below meth c 4 D cls A (lw_Z below #[Value.ref bs] s)) := by
    intro r ws k n pc lv h hd
    obtain ⟨rfl, hk, hn⟩ := h
    intro H locs ls hP hD hS hl
    exact va_forget (fun x hx => hAx _ (hS.2.2 x hx)) (W.widen hk hn (lw_ret hC.1 hC.2.1 hr hlk hd))
  have hFt : vx_Ft "OriginDeskLaw" (yw y0 b0 n0 r0) cls cty [] := fun q h => by cases h
  have hini : false = true → meth.name = "<init>" := fun h => by cases h
  intro d
  induction d using Nat.strongRecOn with
  | _ d ih =>
    intro q ws hd hq hI
    refine vx_gon hC hFt hini hE jc_Lw_law 16 11 (by decide) rfl ?_
    refine ⟨0, _, _, hX, ?_⟩
    refine And.intro (fun c21 => ?_) (fun c21 => ?_)
    · refine vx_go hC hFt hini hE jc_Lw_law 339 (by decide) rfl ?_
      exact ⟨rfl, by omega, by omega⟩
    · have hi : 1 + 8 * q + 8 ≤ Ls := by
        have c21 : ¬ nI Ls - nI 8 < nI (1 + 8 * q) := c21
        rw [Int32.lt_iff_toInt_lt, pk_sub_toInt (by omega) (by omega), nI_toInt (by omega)] at c21
        omega
      have hkn : 60 + 41 * q + 41 ≤ 772315 ∧ 5000 + 3700 * q + 3700 ≤ 6785302 := by omega
      have next : ∀ ws2, Inv tc tcA tcR K b ro hm ar N ws2 → Vx p l e room_1 s m #[Value.ref bs] below meth c 4 D cls A (lw_Z below #[Value.ref bs] s) 539 [(0, .ref bs), (1, .ref (b 0)), (2, .ref hm), (3, .int (nI (1 + 8 * q)))] [] ws2 (60 + 41 * q + 41) (5000 + 3700 * q + 3700) := fun ws2 hI2 => by
        refine vx_go hC hFt hini hE jc_Lw_law 337 (by decide) rfl ?_
        refine Vx.subL (lv' := [(0, .ref bs), (1, .ref (b 0)), (2, .ref hm), (3, .int (nI (1 + 8 * q) + 8))]) [1, 2, 3, 0] rfl ?_
        refine Vx.eqs rfl (lv2 := [(0, .ref bs), (1, .ref (b 0)), (2, .ref hm), (3, .int (nI (1 + 8 * (q + 1))))]) (by rw [show nI (1 + 8 * q) + 8 = nI (1 + 8 * q + 8) from nI_add (1 + 8 * q) 8, show 1 + 8 * q + 8 = 1 + 8 * (q + 1) by omega]) rfl rfl ?_
        refine Vx.cnt (k2 := 60 + 41 * (q + 1)) (n2 := 5000 + 3700 * (q + 1)) (by omega) (by omega) ?_
        exact ih (513 - (q + 1)) (by omega) (q + 1) ws2 rfl (by omega) hI2
      refine ⟨_, _, hX, vp_in_nI (by omega) (by omega), ?_⟩
      refine Vx.subL (lv' := [(0, .ref bs), (1, .ref (b 0)), (2, .ref hm), (3, .int (nI (1 + 8 * q)))]) [0, 1, 2, 3] rfl ?_
      have hdec := vx_dec jc_Lw_law 27 _ (by decide) rfl
      obtain ⟨t9, ht9, e9⟩ := and15 (xs (nI (1 + 8 * q)).toNatClampNeg)
      refine Vx.eqs rfl (lv2 := [(0, .ref bs), (1, .ref (b 0)), (2, .ref hm), (3, .int (nI (1 + 8 * q)))]) rfl (st2 := [.int (nI t9)]) (congrArg (fun z => [Value.int z]) e9) rfl ?_
      rcases (show t9 = 0 ∨ t9 = 1 ∨ t9 = 2 ∨ t9 = 3 ∨ t9 = 4 ∨ t9 = 5 ∨ t9 = 6 ∨ t9 = 7 ∨ t9 = 8 ∨ t9 = 9 ∨ t9 = 10 ∨ t9 = 11 ∨ t9 = 12 ∨ t9 = 13 ∨ t9 = 14 ∨ t9 = 15 by omega) with rfl | rfl | rfl | rfl | rfl | rfl | rfl | rfl | rfl | rfl | rfl | rfl | rfl | rfl | rfl | rfl
      · refine vx_tbl hC hdec 116 (off := 73) (by decide) (by decide) rfl rfl ?_
        exact lc_add hC hty htA htR hg hnw hX hLs hi hkn hI next
      · refine vx_tbl hC hdec 239 (off := 196) (by decide) (by decide) rfl rfl ?_
        exact lc_clear hC hty htA htR hg hnw hX hLs hi hkn hI next
      · refine vx_tbl hC hdec 250 (off := 207) (by decide) (by decide) rfl rfl ?_
        exact lc_request hC hty htA htR hg hnw hX hLs hi hkn hI next
      · refine vx_tbl hC hdec 271 (off := 228) (by decide) (by decide) rfl rfl ?_
        exact lc_feed hC hty htA htR hg hnw hX hLs hi hkn hI next
      · refine vx_tbl hC hdec 334 (off := 291) (by decide) (by decide) rfl rfl ?_
        exact lc_respond hC hty htA htR hg hnw hX hLs hi hkn hI next
      · refine vx_tbl hC hdec 347 (off := 304) (by decide) (by decide) rfl rfl ?_
        exact lc_status hC hty htA htR hg hnw hX hLs hi hkn hI next
      · refine vx_tbl hC hdec 360 (off := 317) (by decide) (by decide) rfl rfl ?_
        exact lc_chosen hC hty htA htR hg hnw hX hLs hi hkn hI next
      · refine vx_tbl hC hdec 373 (off := 330) (by decide) (by decide) rfl rfl ?_
        exact lc_length hC hty htA htR hg hnw hX hLs hi hkn hI next
      · refine vx_tbl hC hdec 387 (off := 344) (by decide) (by decide) rfl rfl ?_
        exact lc_body hC hty htA htR hg hnw hX hLs hi hkn hI next
      · refine vx_tbl hC hdec 410 (off := 367) (by decide) (by decide) rfl rfl ?_
        exact lc_parts hC hty htA htR hg hnw hX hLs hi hkn hI next
      · refine vx_tbl hC hdec 423 (off := 380) (by decide) (by decide) rfl rfl ?_
        exact lc_first hC hty htA htR hg hnw hX hLs hi hkn hI next
      · refine vx_tbl hC hdec 446 (off := 403) (by decide) (by decide) rfl rfl ?_
        exact lc_last hC hty htA htR hg hnw hX hLs hi hkn hI next
      · refine vx_tbl hC hdec 469 (off := 426) (by decide) (by decide) rfl rfl ?_
        exact lc_score hC hty htA htR hg hnw hX hLs hi hkn hI next
      · refine vx_tbl hC hdec 492 (off := 449) (by decide) (by decide) rfl rfl ?_
        exact lc_formed hC hty htA htR hg hnw hX hLs hi hkn hI next
      · refine vx_tbl hC hdec 515 (off := 472) (by decide) (by decide) rfl rfl ?_
        exact lc_date hC hty htA htR hg hnw hX hLs hi hkn hI next
      · refine vx_tblO hC hdec 539 (Or.inr (by decide)) rfl ?_
        exact Vx.widen (Nat.le_add_right _ _) (Nat.le_add_right _ _) (next ws hI)
set_option maxRecDepth 100000 in
set_option maxHeartbeats 4000000 in
theorem whole_start {p : Program} {e : Env} {s : State} {m : MethodId} {below : List Frame} {meth : Method} {c : Code} (l : Launch) {bs L : Nat} {xs : Nat → Int32} (hL : L ≤ 4097) (C0 : lw_At p s m meth c bs L xs) : W p l e room_1 s m #[Value.ref bs] below meth c s.heap [] 0 0 (lw_Z below #[Value.ref bs] s) (entryFrame m ([Value.ref bs] : List Value).toArray 4) := by
  obtain ⟨hx, hb, hr, hml, hown, hts, hXs, hbl, hlocks, hgv⟩ := id C0
  obtain ⟨D, tys, tc, tcA, tcR, hK, hty, htA, htR⟩ := law_K hts
  obtain ⟨K, hg⟩ := law_F (A := fun q => s.heap.size ≤ q) hgv hts (fun a ha => Nat.not_le.mpr ha)
  have hC : Cx p s m #[Value.ref bs] c code 4 "OriginDeskLaw" (yw y_Dk_clear b_Dk_clear 1 none) D cls tys (fun q => s.heap.size ≤ q) tc := ⟨hx, hb, hml, hown, (fun w hw => by
    rcases List.mem_cons.mp hw with rfl | z
    · exact law_gw hts _ wm_Dk_clear.2.1
    · exact law_gw hts w z), hK, fun q h => h, hty⟩
  have hX : va_T .int bs L (fun j => .int (xs j)) (fun q => s.heap.size ≤ q) s s.heap := by
    obtain ⟨scr, h1, h2, h3, h4, h5⟩ := hXs
    exact ⟨scr, h1, h2, h3, Nat.le_of_eq h4.symm, by rw [h4], h5, Nat.not_le.mpr hbl⟩
  have hE : vx_EN code (fun _ _ _ _ => False) (Vx p l e room_1 s m #[Value.ref bs] below meth c 4 D cls (fun q => s.heap.size ≤ q) (lw_Z below #[Value.ref bs] s)) := fun _ _ _ _ _ _ h => h.elim
  have hFt : vx_Ft "OriginDeskLaw" (yw y_Dk_clear b_Dk_clear 1 none) cls cty [] := fun q h => by cases h
  have hini : false = true → meth.name = "<init>" := fun h => by cases h
  have key : Vx p l e room_1 s m #[Value.ref bs] below meth c 4 D cls (fun q => s.heap.size ≤ q) (lw_Z below #[Value.ref bs] s) 0 [(0, .ref bs)] [] [] 0 0 := by
    refine vx_gon hC hFt hini hE jc_Lw_law 0 16 (by decide) rfl ?_
    refine sx_new hC (ci := 8) rfl wk_Lw_7 wn_Dk wz_Dk (fs := [.null, .int 0, .null, .null, .null, .null, .null, .null, .null]) (fun j hj => by rcases (show j = 0 ∨ j = 1 ∨ j = 2 ∨ j = 3 ∨ j = 4 ∨ j = 5 ∨ j = 6 ∨ j = 7 ∨ j = 8 by omega) with rfl | rfl | rfl | rfl | rfl | rfl | rfl | rfl | rfl <;> rfl) ⟨by decide, by decide⟩ (fun h9 => ?_)
    refine And.intro rfl ?_
    refine calls0 hC (c_Lw_cell l D tys tc hty bs L xs hL 0 (by decide)) hX wm_Lw_cell wl_Lw_9 wt_Lw_cell ⟨by decide, by decide⟩ rfl rfl (Nat.le_of_ble_eq_true rfl) ⟨by decide, by decide⟩ (fun r' hp => ?_)
    subst hp
    refine sx_ord (sx_callI (wr := []) (wc := [(h9, .inr (8, [.null, .int 0, .null, .null, .null, .null, .null, .null, .null]))]) hC (c_Dk_init l D tys tc hty h9 (if 0 < L then xs 0 else 0) tcA tcR htA htR) (cw_I2 wm_Dk_init wl_Lw_15 wi_Dk_init rfl hC.2.2.2.2.1 ⟨by decide, by decide⟩) [0] [] rfl rfl rfl rfl (by decide) (vx_ro (wc := [(h9, .inr (8, [.null, .int 0, .null, .null, .null, .null, .null, .null, .null]))]) (ro_and nkF_ro (ro_and csF_ro (ro_and arF_ro aoF_ro))) hC.2.2.2.2.2.2.1 ⟨law_nk hts, gt_cs hg, law_ar hts⟩ [0] rfl) rfl rfl (Nat.le_of_ble_eq_true rfl) ⟨by decide, by decide⟩ (fun r' w' hp => ?_))
    obtain ⟨rfl, b, ro, v9, rfl, rfl⟩ := hp
    refine ⟨[0, 1, 2, 12, 3, 4, 5, 6, 7, 8, 9, 10, 11, 13, 15, 16, 18, 19, 21, 32, 34, 22, 24, 25, 26, 27, 28, 29, 30, 31, 14, 17, 20, 33, 23], [dkC b (nI ((([] : List Rp)).length)), (b 1, .inl (tcR, 4, .inr (.inr (.inr (.inr (fun _ => none)))))), (b 2, .inr (5, [.int 0, .ref (b 24), .ref (b 23)])), (b 23, .inl (tc 0, 8, .inl (fun _ => 0))), (b 24, .inl (tcA, 8, .inr (.inr (.inr (.inr (fun G => some (ro G))))))), (ro 0, .inl (tc 0, 96, .inl ((fun _ _ => 0) 0))), (ro 1, .inl (tc 0, 96, .inl ((fun _ _ => 0) 1))), (ro 2, .inl (tc 0, 96, .inl ((fun _ _ => 0) 2))), (ro 3, .inl (tc 0, 96, .inl ((fun _ _ => 0) 3))), (ro 4, .inl (tc 0, 96, .inl ((fun _ _ => 0) 4))), (ro 5, .inl (tc 0, 96, .inl ((fun _ _ => 0) 5))), (ro 6, .inl (tc 0, 96, .inl ((fun _ _ => 0) 6))), (ro 7, .inl (tc 0, 96, .inl ((fun _ _ => 0) 7))), (b 3, .inr (0, [.ref ((b 30, 0, zf [], fun _ => 0) : RSt).1, .int (((b 30, 0, zf [], fun _ => 0) : RSt).2.2.1 0), .int (((b 30, 0, zf [], fun _ => 0) : RSt).2.2.1 1), .ref (b 13), .int (nI ((b 30, 0, zf [], fun _ => 0) : RSt).2.1), .int (((b 30, 0, zf [], fun _ => 0) : RSt).2.2.1 2), .int (((b 30, 0, zf [], fun _ => 0) : RSt).2.2.1 3), .int (((b 30, 0, zf [], fun _ => 0) : RSt).2.2.1 4), .int (((b 30, 0, zf [], fun _ => 0) : RSt).2.2.1 5), .int (((b 30, 0, zf [], fun _ => 0) : RSt).2.2.1 6)])), (b 13, .inl (tc 0, 96, .inl ((b 30, 0, zf [], fun _ => 0) : RSt).2.2.2)), (b 4, .inr (1, [.ref ((b 31, 0, zf [], fun _ => 0) : RSt).1, .int (((b 31, 0, zf [], fun _ => 0) : RSt).2.2.1 0), .int (((b 31, 0, zf [], fun _ => 0) : RSt).2.2.1 1), .ref (b 14), .int (nI ((b 31, 0, zf [], fun _ => 0) : RSt).2.1), .int (((b 31, 0, zf [], fun _ => 0) : RSt).2.2.1 2), .int (((b 31, 0, zf [], fun _ => 0) : RSt).2.2.1 3)])), (b 14, .inl (tc 0, 96, .inl ((b 31, 0, zf [], fun _ => 0) : RSt).2.2.2)), (b 5, .inr (2, [.ref ((b 32, 0, zf [], fun _ => 0) : RSt).1, .int (((b 32, 0, zf [], fun _ => 0) : RSt).2.2.1 0), .int (((b 32, 0, zf [], fun _ => 0) : RSt).2.2.1 1), .ref (b 15), .int (nI ((b 32, 0, zf [], fun _ => 0) : RSt).2.1), .int (((b 32, 0, zf [], fun _ => 0) : RSt).2.2.1 2), .int (((b 32, 0, zf [], fun _ => 0) : RSt).2.2.1 3), .int (((b 32, 0, zf [], fun _ => 0) : RSt).2.2.1 4)])), (b 15, .inl (tc 0, 96, .inl ((b 32, 0, zf [], fun _ => 0) : RSt).2.2.2)), (b 6, .inr (3, [.ref ((b 33, 0, zf [], fun _ => 0) : RSt).1, .int (((b 33, 0, zf [], fun _ => 0) : RSt).2.2.1 0), .int (((b 33, 0, zf [], fun _ => 0) : RSt).2.2.1 1), .ref (b 16), .int (nI ((b 33, 0, zf [], fun _ => 0) : RSt).2.1), .int (nI (yrN (nowN (if 0 < L then xs 0 else 0)) + 50)), .int (((b 33, 0, zf [], fun _ => 0) : RSt).2.2.1 2), .int (((b 33, 0, zf [], fun _ => 0) : RSt).2.2.1 3), .int (((b 33, 0, zf [], fun _ => 0) : RSt).2.2.1 4), .int (((b 33, 0, zf [], fun _ => 0) : RSt).2.2.1 5)])), (b 16, .inl (tc 0, 96, .inl ((b 33, 0, zf [], fun _ => 0) : RSt).2.2.2)), (b 7, .inr (4, [.ref ((b 34, 0, zf [], fun _ => 0) : RSt).1, .int (((b 34, 0, zf [], fun _ => 0) : RSt).2.2.1 0), .int (((b 34, 0, zf [], fun _ => 0) : RSt).2.2.1 1), .ref (b 17), .int (nI ((b 34, 0, zf [], fun _ => 0) : RSt).2.1), .ref (b 18), .ref (b 19), .int (((b 34, 0, zf [], fun _ => 0) : RSt).2.2.1 2), .int (nI ([] : List (Nat × Nat)).length)])), (b 17, .inl (tc 0, 96, .inl ((b 34, 0, zf [], fun _ => 0) : RSt).2.2.2)), (b 18, .inl (tc 0, 4, .inl (fun _ => 0))), (b 19, .inl (tc 0, 4, .inl (fun _ => 0))), (b 8, .inr (6, [.int (-1), sjV (none : Option (Nat × Nat × Nat)), .int (nI (lnS (-1) (sjN (none : Option (Nat × Nat × Nat))) ([] : List (Nat × Nat)))), .int (nI ([] : List (Nat × Nat)).length), .ref (b 20), .ref (b 21), .int (bI false), .ref (b 22)])), (b 20, .inl (tc 0, 4, .inl (fun _ => 0))), (b 21, .inl (tc 0, 4, .inl (fun _ => 0))), (b 22, .inr (11, [.ref v9, .int 0, .int 0, .int (nI ([] : List Nat).length)])), (v9, .inl (tc 1, 16, .inl (fun _ => 0))), (b 30, .inl (tc 0, 0, .inl (fun _ => 0))), (b 31, .inl (tc 0, 0, .inl (fun _ => 0))), (b 32, .inl (tc 0, 0, .inl (fun _ => 0))), (b 33, .inl (tc 0, 0, .inl (fun _ => 0))), (b 34, .inl (tc 0, 0, .inl (fun _ => 0)))], by decide +kernel, rfl, ?_⟩
    refine sx_new hC (ci := 9) rfl wk_Lw_18 wn_Mo wz_Mo (fs := [.long 0, .int 0, .null, .null, .null, .null, .null, .null, .int 0, .null, .null, .int 0, .int 0, .int 0, .int 0, .int 0, .int 0, .int 0, .int 0, .int 0, .int 0, .null, .null, .int 0, .int 0, .int 0, .int 0, .int 0, .null, .null, .null]) (fun j hj => by rcases (show j = 0 ∨ j = 1 ∨ j = 2 ∨ j = 3 ∨ j = 4 ∨ j = 5 ∨ j = 6 ∨ j = 7 ∨ j = 8 ∨ j = 9 ∨ j = 10 ∨ j = 11 ∨ j = 12 ∨ j = 13 ∨ j = 14 ∨ j = 15 ∨ j = 16 ∨ j = 17 ∨ j = 18 ∨ j = 19 ∨ j = 20 ∨ j = 21 ∨ j = 22 ∨ j = 23 ∨ j = 24 ∨ j = 25 ∨ j = 26 ∨ j = 27 ∨ j = 28 ∨ j = 29 ∨ j = 30 by omega) with rfl | rfl | rfl | rfl | rfl | rfl | rfl | rfl | rfl | rfl | rfl | rfl | rfl | rfl | rfl | rfl | rfl | rfl | rfl | rfl | rfl | rfl | rfl | rfl | rfl | rfl | rfl | rfl | rfl | rfl | rfl <;> rfl) ⟨by decide, by decide⟩ (fun hm => ?_)
    refine And.intro rfl ?_
    refine calls0 hC (c_Lw_cell l D tys tc hty bs L xs hL 0 (by decide)) hX wm_Lw_cell wl_Lw_9 wt_Lw_cell ⟨by decide, by decide⟩ rfl rfl (Nat.le_of_ble_eq_true rfl) ⟨by decide, by decide⟩ (fun r' hp => ?_)
    subst hp
    refine sx_ord (sx_callI (wr := [dkC b (nI ((([] : List Rp)).length)), (b 1, .inl (tcR, 4, .inr (.inr (.inr (.inr (fun _ => none)))))), (b 2, .inr (5, [.int 0, .ref (b 24), .ref (b 23)])), (b 23, .inl (tc 0, 8, .inl (fun _ => 0))), (b 24, .inl (tcA, 8, .inr (.inr (.inr (.inr (fun G => some (ro G))))))), (ro 0, .inl (tc 0, 96, .inl ((fun _ _ => 0) 0))), (ro 1, .inl (tc 0, 96, .inl ((fun _ _ => 0) 1))), (ro 2, .inl (tc 0, 96, .inl ((fun _ _ => 0) 2))), (ro 3, .inl (tc 0, 96, .inl ((fun _ _ => 0) 3))), (ro 4, .inl (tc 0, 96, .inl ((fun _ _ => 0) 4))), (ro 5, .inl (tc 0, 96, .inl ((fun _ _ => 0) 5))), (ro 6, .inl (tc 0, 96, .inl ((fun _ _ => 0) 6))), (ro 7, .inl (tc 0, 96, .inl ((fun _ _ => 0) 7))), (b 3, .inr (0, [.ref ((b 30, 0, zf [], fun _ => 0) : RSt).1, .int (((b 30, 0, zf [], fun _ => 0) : RSt).2.2.1 0), .int (((b 30, 0, zf [], fun _ => 0) : RSt).2.2.1 1), .ref (b 13), .int (nI ((b 30, 0, zf [], fun _ => 0) : RSt).2.1), .int (((b 30, 0, zf [], fun _ => 0) : RSt).2.2.1 2), .int (((b 30, 0, zf [], fun _ => 0) : RSt).2.2.1 3), .int (((b 30, 0, zf [], fun _ => 0) : RSt).2.2.1 4), .int (((b 30, 0, zf [], fun _ => 0) : RSt).2.2.1 5), .int (((b 30, 0, zf [], fun _ => 0) : RSt).2.2.1 6)])), (b 13, .inl (tc 0, 96, .inl ((b 30, 0, zf [], fun _ => 0) : RSt).2.2.2)), (b 4, .inr (1, [.ref ((b 31, 0, zf [], fun _ => 0) : RSt).1, .int (((b 31, 0, zf [], fun _ => 0) : RSt).2.2.1 0), .int (((b 31, 0, zf [], fun _ => 0) : RSt).2.2.1 1), .ref (b 14), .int (nI ((b 31, 0, zf [], fun _ => 0) : RSt).2.1), .int (((b 31, 0, zf [], fun _ => 0) : RSt).2.2.1 2), .int (((b 31, 0, zf [], fun _ => 0) : RSt).2.2.1 3)])), (b 14, .inl (tc 0, 96, .inl ((b 31, 0, zf [], fun _ => 0) : RSt).2.2.2)), (b 5, .inr (2, [.ref ((b 32, 0, zf [], fun _ => 0) : RSt).1, .int (((b 32, 0, zf [], fun _ => 0) : RSt).2.2.1 0), .int (((b 32, 0, zf [], fun _ => 0) : RSt).2.2.1 1), .ref (b 15), .int (nI ((b 32, 0, zf [], fun _ => 0) : RSt).2.1), .int (((b 32, 0, zf [], fun _ => 0) : RSt).2.2.1 2), .int (((b 32, 0, zf [], fun _ => 0) : RSt).2.2.1 3), .int (((b 32, 0, zf [], fun _ => 0) : RSt).2.2.1 4)])), (b 15, .inl (tc 0, 96, .inl ((b 32, 0, zf [], fun _ => 0) : RSt).2.2.2)), (b 6, .inr (3, [.ref ((b 33, 0, zf [], fun _ => 0) : RSt).1, .int (((b 33, 0, zf [], fun _ => 0) : RSt).2.2.1 0), .int (((b 33, 0, zf [], fun _ => 0) : RSt).2.2.1 1), .ref (b 16), .int (nI ((b 33, 0, zf [], fun _ => 0) : RSt).2.1), .int (nI (yrN (nowN (if 0 < L then xs 0 else 0)) + 50)), .int (((b 33, 0, zf [], fun _ => 0) : RSt).2.2.1 2), .int (((b 33, 0, zf [], fun _ => 0) : RSt).2.2.1 3), .int (((b 33, 0, zf [], fun _ => 0) : RSt).2.2.1 4), .int (((b 33, 0, zf [], fun _ => 0) : RSt).2.2.1 5)])), (b 16, .inl (tc 0, 96, .inl ((b 33, 0, zf [], fun _ => 0) : RSt).2.2.2)), (b 7, .inr (4, [.ref ((b 34, 0, zf [], fun _ => 0) : RSt).1, .int (((b 34, 0, zf [], fun _ => 0) : RSt).2.2.1 0), .int (((b 34, 0, zf [], fun _ => 0) : RSt).2.2.1 1), .ref (b 17), .int (nI ((b 34, 0, zf [], fun _ => 0) : RSt).2.1), .ref (b 18), .ref (b 19), .int (((b 34, 0, zf [], fun _ => 0) : RSt).2.2.1 2), .int (nI ([] : List (Nat × Nat)).length)])), (b 17, .inl (tc 0, 96, .inl ((b 34, 0, zf [], fun _ => 0) : RSt).2.2.2)), (b 18, .inl (tc 0, 4, .inl (fun _ => 0))), (b 19, .inl (tc 0, 4, .inl (fun _ => 0))), (b 8, .inr (6, [.int (-1), sjV (none : Option (Nat × Nat × Nat)), .int (nI (lnS (-1) (sjN (none : Option (Nat × Nat × Nat))) ([] : List (Nat × Nat)))), .int (nI ([] : List (Nat × Nat)).length), .ref (b 20), .ref (b 21), .int (bI false), .ref (b 22)])), (b 20, .inl (tc 0, 4, .inl (fun _ => 0))), (b 21, .inl (tc 0, 4, .inl (fun _ => 0))), (b 22, .inr (11, [.ref v9, .int 0, .int 0, .int (nI ([] : List Nat).length)])), (v9, .inl (tc 1, 16, .inl (fun _ => 0))), (b 30, .inl (tc 0, 0, .inl (fun _ => 0))), (b 31, .inl (tc 0, 0, .inl (fun _ => 0))), (b 32, .inl (tc 0, 0, .inl (fun _ => 0))), (b 33, .inl (tc 0, 0, .inl (fun _ => 0))), (b 34, .inl (tc 0, 0, .inl (fun _ => 0)))]) (wc := [(hm, .inr (9, [.long 0, .int 0, .null, .null, .null, .null, .null, .null, .int 0, .null, .null, .int 0, .int 0, .int 0, .int 0, .int 0, .int 0, .int 0, .int 0, .int 0, .int 0, .null, .null, .int 0, .int 0, .int 0, .int 0, .int 0, .null, .null, .null]))]) hC (c_Mo_init l D tys tc hty hm (if 0 < L then xs 0 else 0)) (cw_I2 wm_Mo_init wl_Lw_20 wi_Mo_init rfl hC.2.2.2.2.1 ⟨by decide, by decide⟩) [35] [0, 1, 2, 3, 4, 5, 6, 7, 8, 9, 10, 11, 12, 13, 14, 15, 16, 17, 18, 19, 20, 21, 22, 23, 24, 25, 26, 27, 28, 29, 30, 31, 32, 33, 34] rfl rfl (by decide +kernel) (by decide +kernel) (by decide +kernel) (fun _ _ _ _ _ => trivial) rfl rfl (Nat.le_of_ble_eq_true rfl) ⟨by decide, by decide⟩ (fun r' w' hp => ?_))
    obtain ⟨rfl, ar, rfl⟩ := hp
    refine ⟨[35, 36, 37, 38, 39, 40, 41, 42, 43, 44, 45, 46, 47, 48, 0, 1, 2, 3, 4, 5, 6, 7, 8, 9, 10, 11, 12, 13, 14, 15, 16, 17, 18, 19, 20, 21, 22, 23, 24, 25, 26, 27, 28, 29, 30, 31, 32, 33, 34], (LW tc tcA tcR b ro hm ar (nowN (if 0 < L then xs 0 else 0)) (0) (fun _ => none) (0) (fun _ => 0) (fun _ _ => 0) ((b 30, 0, zf [], fun _ => 0) : RSt) ((b 31, 0, zf [], fun _ => 0) : RSt) ((b 32, 0, zf [], fun _ => 0) : RSt) ((b 33, 0, zf [], fun _ => 0) : RSt) ((b 34, 0, zf [], fun _ => 0) : RSt) ([] : List (Nat × Nat)) (fun _ => 0) (fun _ => 0) (-1) (none : Option (Nat × Nat × Nat)) (false) ([] : List (Nat × Nat)) (fun _ => 0) (fun _ => 0) (v9) (0) ([] : List Nat) (16) (fun _ => 0) (fun k => if k = 23 ∨ k = 24 then (-1 : Int32) else 0) (fun _ _ => 0) (fun p => if p = 13 then moA else fun _ => 0)), by decide +kernel, rfl, ?_⟩
    refine Vx.subL (lv' := [(0, .ref bs), (1, .ref (b 0)), (2, .ref hm), (3, .int (nI 1))]) [3, 2, 1, 0] rfl ?_
    refine Vx.widen (k2 := 60 + 41 * 0) (n2 := 5000 + 3700 * 0) (Nat.le_of_ble_eq_true rfl) (Nat.le_of_ble_eq_true rfl) ?_
    exact law_loop hC hr hlocks (fun q h => h) hty htA htR hg (law_nw hts) hX hL _ 0 _ rfl (by decide) ⟨(fun _ => 0), (fun _ => []), ([] : List Re), ([] : List Rp), (fun _ => none), 0, (fun _ => 0), (fun _ _ => 0), ((b 30, 0, zf [], fun _ => 0) : RSt), ((b 31, 0, zf [], fun _ => 0) : RSt), ((b 32, 0, zf [], fun _ => 0) : RSt), ((b 33, 0, zf [], fun _ => 0) : RSt), ((b 34, 0, zf [], fun _ => 0) : RSt), ([] : List (Nat × Nat)), (fun _ => 0), (fun _ => 0), (-1), (none : Option (Nat × Nat × Nat)), false, ([] : List (Nat × Nat)), (fun _ => 0), (fun _ => 0), v9, 0, ([] : List Nat), 16, (fun _ => 0), (fun k => if k = 23 ∨ k = 24 then (-1 : Int32) else 0), (fun _ _ => 0), (fun p => if p = 13 then moA else fun _ => 0), rfl, ⟨Nat.zero_le _, (fun r h => by cases h)⟩, (fun G hG => ⟨rfl, ⟨Nat.zero_le _, (fun x9 h9 => by cases h9)⟩, (fun j hj => absurd hj (Nat.not_lt_zero _))⟩), ⟨Or.inl rfl, Or.inl rfl, Or.inl rfl, Or.inl rfl, Or.inl rfl⟩, ⟨⟨Nat.zero_le _, (fun j hj => absurd hj (Nat.not_lt_zero _))⟩, ⟨Nat.zero_le _, (fun j hj => absurd hj (Nat.not_lt_zero _))⟩, an_0⟩, ⟨⟨(fun x9 h9 => by cases h9), (fun j hj => absurd hj (Nat.not_lt_zero _))⟩, (fun _ => (by decide : fits .byte (.int 0) = true)), by decide, by decide, by decide⟩, ⟨(fun x9 h9 => by cases h9), (fun j hj => absurd hj (Nat.not_lt_zero _)), (fun u hu => by cases hu)⟩, mo_R (nw := 0) (nowN_le _), mo_A⟩
  have hl := lv_entry ([.ref bs]) (n := 4) (Nat.le_of_ble_eq_true rfl)
  rw [lg_entry_eq]
  exact key s.heap [] _ (fun k q h => by simp at h) ⟨fun i j p q h => by simp at h, fun k q h => by simp at h⟩ va_S.rf hl
-- ===== YOUR PART ENDS =====
set_option maxHeartbeats 4000000 in
theorem lw_walk (l : Launch) (b : Addr) (xs : List Int32) : MetFree l x (headSpec (Jvm.Cond.code x code maxLocals ret :: tables_1) room_1) (lw_P b xs) (fun _ _ _ _ _ => True) lw_Q := by
  refine MetFree.of_bodyS (code := code) (maxLocals := maxLocals) (ret := ret) (by decide) ?_ ?_
  · intro args s m h hn
    obtain ⟨meth, c, h1, h2, h3, h4, h5, h6, -, -⟩ := Cond.code_spec hn (atoms_spec (ws := Jvm.Cond.code x code maxLocals ret :: tables_1) h _ List.mem_cons_self)
    exact ⟨meth, c, h1, h2, h3, h4, h5, h6⟩
  · intro p e s m args below meth c s₁ B hml0 hP _
    obtain ⟨rfl, hx, hbd, hgv⟩ := hP
    obtain ⟨scr, harrAt, hlist, hof, hsmall⟩ := hx
    obtain ⟨hcb, hkn, -, -⟩ := State.arrayAt?_spec harrAt
    have hown : s.vm.findClass R_law = some m.cls := findClass_of_methodNamed B.named
    have hts0 : ∀ c ∈ (Jvm.Cond.code x code maxLocals ret :: tables_1), c.before #[Value.ref b] s = true := atoms_spec (ws := Jvm.Cond.code x code maxLocals ret :: tables_1) B.pre
    have hts : ∀ w ∈ lw_tbl, w.before #[Value.ref b] s = true := k2_hts_sels lw_privs (fun w hw => hts0 w (List.mem_cons_of_mem _ hw)) lw_privs_ok
    have hml : c.maxLocals = 4 := B.maxLocals_eq (hts0 _ List.mem_cons_self)
    have X₀ : Stand p l e room_1 s m #[Value.ref b] below meth c s₁ [] 0 0 := Stand.of_body B
    have hh0 : s₁.heap = s.heap := by rw [B.state]; rfl
    have hsz : scr.slots.size = xs.length := by rw [← Array.length_toList, hlist, List.length_map]
    have hval : ∀ j : Nat, j < xs.length → scr.slots[j]? = some (.int (xs.getD j 0)) := fun j hj => by
      rw [← Array.getElem?_toList, hlist]
      simp [hj]
    have hbl : b < s.heap.size := (Array.getElem?_eq_some_iff.mp hcb).1
    have hX : va_X b xs.length (fun j => xs.getD j 0) s s.heap := ⟨scr, hcb, hof, hkn, hsz, hval⟩
    have K : W p l e room_1 s m #[Value.ref b] below meth c s₁.heap [] 0 0 (lw_Z below #[Value.ref b] s) (entryFrame m ([Value.ref b] : List Value).toArray 4) := by
      rw [hh0]
      exact whole_start l hbd ⟨B.exec, B.bytes, B.returns, hml, hown, hts, hX, hbl, B.notSynchronized, hgv⟩
    obtain ⟨t, a1, o, b1, b2, b3⟩ := K s₁ rfl X₀
    exact ⟨t, o, a1, b1, b2, b3⟩
theorem lw_pre_spec {args : Array Value} {s : State} (h : (Jvm.Cond.and given_1 narrow_1).before args s = true) (hr : rest_1_c.before args s = true) : ∃ (b : Addr) (xs : List Int32), lw_P b xs args s := by
  have hs := flat_of_before _ h
  have hq := flat_of_before _ hr
  have hc : (Cond.count 1).before args s = true := hs _ (by decide +kernel)
  have harr : (Cond.arrayOf (.arg 0) .int).before args s = true := hs _ (by decide +kernel)
  have hle : (Cond.le (.length (.arg 0)) (.int 4097)).before args s = true := hs _ (by decide +kernel)
  have hlen : (Cond.isInt (.length (.arg 0))).before args s = true := hq _ (by decide +kernel)
  have hall : (Cond.all (.arg 0) (.isInt (.elem (.arg 0) (.index 0)))).before args s = true := hq _ (by decide +kernel)
  obtain ⟨b, xs, hb, hx⟩ := State.ints_of_pre rfl harr hlen hall
  have hsm : xs.length < 2 ^ 31 := hx.choose_spec.2.2.2
  have hev : (Term.length (.arg 0)).eval args s none [] s = some (.int xs.length.toInt32) := hx.length_eval hb
  have hv := Cond.le_ints hev (show (Term.int 4097).eval args s none [] s = some (.int 4097) from rfl)
  have hd : xs.length.toInt32 ≤ 4097 := by
    simpa [Cond.before, Cond.holds, hv] using hle
  have hN : xs.length ≤ 4097 := (Int32.ofNat_le_ofNat hsm (by decide)).mp (show Int32.ofNat xs.length ≤ Int32.ofNat 4097 from hd)
  exact ⟨b, xs, Cond.one_arg hc (show args[0]? = some (.ref b) from hb), hx, hN, h⟩
theorem lw_comes (l : Launch) : Comes l x (Jvm.Cond.code x code maxLocals ret :: tables_1) room_1 (fun tb e args s => Calls_1 tb e args s ∧ rest_1 tb e args s ∧ Pre_1 tb e args s)
    (fun _ _ args s o t => lw_Q args s o t) := by
  intro p e ha hc hk s m args below hf hfit hheap happ hpre
  obtain ⟨b, xs, hP⟩ := lw_pre_spec hpre.2.2 hpre.2.1
  obtain ⟨k, o, h1, h2, h3, hQ⟩ := lw_walk l b xs p e ha hc hk s m args below hf ((Spec.applies_iff_loose hf).mp happ).1 hP trivial
  exact ⟨k, o, h1, h2, h3, hQ⟩
theorem lw_frame {s t : State} {o : Outcome} {args : Array Value} (h : Framed s o t [] 772315 6785302) :
    Framed s o t (fieldLocs frame_1_writes args s ++ arrayLocs frame_1_arrays args s ++ staticLocs frame_1_statics s) 772315 6785302 := h
theorem lw_limb (L : Cond) (hL : ∀ (args : Array Value) (s t : State), L.after args s (.returned (some (.int 1))) t = true) :
    ArmFor flags0 classFile x code maxLocals ret World_1 tables_1 room_1 Calls_1 rest_1 Pre_1
      (fun tb e a s o t => postC L tb e a s o t ∧ Framed s o t (fieldLocs frame_1_writes a s ++ arrayLocs frame_1_arrays a s ++ staticLocs frame_1_statics s) 772315 6785302) := by
  intro l _ _ _ p e ha hc hk s m args below hf hfit hheap happ hpre
  obtain ⟨k, o, h1, h2, h3, rfl, hF⟩ := lw_comes l p e ha hc hk s m args below hf hfit hheap happ hpre
  exact ⟨k, _, h1, h2, h3, hL args s _, lw_frame hF⟩
theorem i_vc : Claimed_1_1 ∧ Claimed_1_2 := ⟨lw_limb limb_1_1 (fun args s t => by simp [limb_1_1, Cond.after, Cond.holds, Cond.value]), lw_limb limb_1_2 (fun args s t => Cond.after_iff.mpr (by
  first | (rw [show limb_1_2 = Cond.eq .result (.int 1) from rfl, Cond.eq_ints (x := 1) (y := 1) rfl rfl]; simp; done) | (simp [limb_1_2, Cond.value, Term.eval]; done)))⟩
