/-! THE REFERENCE: its constructor, by program (wip/whole/gen/p90.py) -/
def moA : Nat → Int64 := (vp_updL (vp_updL (vp_updL (vp_updL (vp_updL (vp_updL (vp_updL (vp_updL (vp_updL (vp_updL (vp_updL (vp_updL (vp_updL (vp_updL (vp_updL (fun _ => 0) 0 1954047348) 1 1819112552) 2 474214394992) 3 1852797802) 4 435526135145) 5 6778480) 6 30519660376454771) 7 465558725996) 8 8386093285582598241) 9 7237481) 10 28261) 11 495887150693) 12 25956) 13 499846571364) 14 29286)
theorem moA_W : ∀ i, i < 15 → isWd (moA i) (WDS.getD i []) := by
  intro i hi
  rcases (show i = 0 ∨ i = 1 ∨ i = 2 ∨ i = 3 ∨ i = 4 ∨ i = 5 ∨ i = 6 ∨ i = 7 ∨ i = 8 ∨ i = 9 ∨ i = 10 ∨ i = 11 ∨ i = 12 ∨ i = 13 ∨ i = 14 by omega) with rfl | rfl | rfl | rfl | rfl | rfl | rfl | rfl | rfl | rfl | rfl | rfl | rfl | rfl | rfl
  · show isWd 1954047348 (WDS.getD 0 [])
    refine ⟨by decide, ?_, ?_⟩ <;> decide
  · show isWd 1819112552 (WDS.getD 1 [])
    refine ⟨by decide, ?_, ?_⟩ <;> decide
  · show isWd 474214394992 (WDS.getD 2 [])
    refine ⟨by decide, ?_, ?_⟩ <;> decide
  · show isWd 1852797802 (WDS.getD 3 [])
    refine ⟨by decide, ?_, ?_⟩ <;> decide
  · show isWd 435526135145 (WDS.getD 4 [])
    refine ⟨by decide, ?_, ?_⟩ <;> decide
  · show isWd 6778480 (WDS.getD 5 [])
    refine ⟨by decide, ?_, ?_⟩ <;> decide
  · show isWd 30519660376454771 (WDS.getD 6 [])
    refine ⟨by decide, ?_, ?_⟩ <;> decide
  · show isWd 465558725996 (WDS.getD 7 [])
    refine ⟨by decide, ?_, ?_⟩ <;> decide
  · show isWd 8386093285582598241 (WDS.getD 8 [])
    refine ⟨by decide, ?_, ?_⟩ <;> decide
  · show isWd 7237481 (WDS.getD 9 [])
    refine ⟨by decide, ?_, ?_⟩ <;> decide
  · show isWd 28261 (WDS.getD 10 [])
    refine ⟨by decide, ?_, ?_⟩ <;> decide
  · show isWd 495887150693 (WDS.getD 11 [])
    refine ⟨by decide, ?_, ?_⟩ <;> decide
  · show isWd 25956 (WDS.getD 12 [])
    refine ⟨by decide, ?_, ?_⟩ <;> decide
  · show isWd 499846571364 (WDS.getD 13 [])
    refine ⟨by decide, ?_, ?_⟩ <;> decide
  · show isWd 29286 (WDS.getD 14 [])
    refine ⟨by decide, ?_, ?_⟩ <;> decide
def moW (tc : Nat → ClassId) (h : Nat) (ar : Nat → Nat) (now : Int64) : va_W := mdW tc h ar now (fun k => if k = 23 ∨ k = 24 then (-1 : Int32) else 0) (fun _ _ => 0) (fun p => if p = 13 then moA else fun _ => 0)
set_option maxRecDepth 100000 in
set_option maxHeartbeats 4000000 in
theorem c_Mo_init (l : Launch) (D : va_G) (tys : List (ClassId × FieldType)) (tc : Nat → ClassId) (hty : ∀ i : Nat, i < 4 → tys[i]? = some (tc i, vx_ty i)) (h : Nat) (nw : Int32) : Kt l y_Mo_init (yw y_Mo_init b_Mo_init 4 none) 1 40 13 1200 D cls tys (fun _ _ _ => True) [.ref h, .int nw] [(h, .inr (9, [.long 0, .int 0, .null, .null, .null, .null, .null, .null, .int 0, .null, .null, .int 0, .int 0, .int 0, .int 0, .int 0, .int 0, .int 0, .int 0, .int 0, .int 0, .null, .null, .int 0, .int 0, .int 0, .int 0, .int 0, .null, .null, .null]))] (fun r w => r = none ∧ ∃ ar, w = moW tc h ar (lN (nowN nw))) := by
  refine Kt.of ro_true (by decide) rfl hty (Nat.le_of_ble_eq_true rfl) ?_
  intro p e s m args below meth c0 A hC hr hlk hnm hF
  have hFt : vx_Ft y_Mo_init.cls (yw y_Mo_init b_Mo_init 4 none) cls cty ft_Mo := ft_of (fun w h => List.mem_cons_of_mem _ h) fl_Mo_in ft_Mo_b
  have hini : true = true → meth.name = "<init>" := fun _ => hnm
  refine vx_gon hC hFt hini (vx_ends hC hr hlk) jc_Mo_init 0 14 (by decide) rfl ?_
  refine sx_obj hC wl_Mo_1 (by decide) (Nat.le_of_ble_eq_true rfl) ?_
  refine sx_newI hC (y := 0) (N := 4) (by decide) rfl wa_int rfl (fun z => z) rfl (by decide) (by decide) ⟨by decide, by decide⟩ (fun a1 => ?_)
  refine And.intro rfl (And.intro (And.intro rfl rfl) ?_)
  refine sx_newI hC (y := 0) (N := 4) (by decide) rfl wa_int rfl (fun z => z) rfl (by decide) (by decide) ⟨by decide, by decide⟩ (fun a2 => ?_)
  refine And.intro rfl (And.intro (And.intro rfl rfl) ?_)
  refine sx_newI hC (y := 0) (N := 4) (by decide) rfl wa_int rfl (fun z => z) rfl (by decide) (by decide) ⟨by decide, by decide⟩ (fun a3 => ?_)
  refine And.intro rfl (And.intro (And.intro rfl rfl) ?_)
  refine Vx.subL (lv' := [(0, .ref h), (1, .int nw)]) [0, 1] rfl ?_
  refine Vx.eqs rfl (lv2 := [(0, .ref h), (1, .int nw)]) rfl rfl (w2 := [(h, .inr (9, [.long 0, .int 0, .ref a1, .ref a2, .ref a3, .null, .null, .null, .int 0, .null, .null, .int 0, .int 0, .int 0, .int 0, .int 0, .int 0, .int 0, .int 0, .int 0, .int 0, .null, .null, .int 0, .int 0, .int 0, .int 0, .int 0, .null, .null, .null])), (a1, .inl (tc 0, 4, .inl (fun _ => 0))), (a2, .inl (tc 0, 4, .inl (fun _ => 0))), (a3, .inl (tc 0, 4, .inl (fun _ => 0)))]) rfl ?_
  refine Vx.cnt (k2 := 3) (n2 := 12) rfl rfl ?_
  refine vx_gon hC hFt hini (vx_ends hC hr hlk) jc_Mo_init 14 12 (by decide) rfl ?_
  refine sx_newI hC (y := 0) (N := 4) (by decide) rfl wa_int rfl (fun z => z) rfl (by decide) (by decide) ⟨by decide, by decide⟩ (fun a4 => ?_)
  refine And.intro rfl (And.intro (And.intro rfl rfl) ?_)
  refine sx_newI hC (y := 3) (N := 4) (by decide) rfl wa_boolean rfl (fun z => z) rfl (by decide) (by decide) ⟨by decide, by decide⟩ (fun a5 => ?_)
  refine And.intro rfl (And.intro (And.intro rfl rfl) ?_)
  refine sx_newL hC (N := 4) wa_long rfl (by decide) ⟨by decide, by decide⟩ (fun a6 => ?_)
  refine And.intro rfl (And.intro (And.intro rfl rfl) ?_)
  refine Vx.subL (lv' := [(0, .ref h), (1, .int nw)]) [0, 1] rfl ?_
  refine Vx.eqs rfl (lv2 := [(0, .ref h), (1, .int nw)]) rfl rfl (w2 := [(h, .inr (9, [.long 0, .int 0, .ref a1, .ref a2, .ref a3, .ref a4, .ref a5, .ref a6, .int 0, .null, .null, .int 0, .int 0, .int 0, .int 0, .int 0, .int 0, .int 0, .int 0, .int 0, .int 0, .null, .null, .int 0, .int 0, .int 0, .int 0, .int 0, .null, .null, .null])), (a1, .inl (tc 0, 4, .inl (fun _ => 0))), (a2, .inl (tc 0, 4, .inl (fun _ => 0))), (a3, .inl (tc 0, 4, .inl (fun _ => 0))), (a4, .inl (tc 0, 4, .inl (fun _ => 0))), (a5, .inl (tc 3, 4, .inl (fun _ => 0))), (a6, .inl (tc 2, 4, .inr (.inl (fun _ => 0))))]) rfl ?_
  refine Vx.cnt (k2 := 6) (n2 := 24) rfl rfl ?_
  refine vx_gon hC hFt hini (vx_ends hC hr hlk) jc_Mo_init 26 16 (by decide) rfl ?_
  refine sx_newI hC (y := 0) (N := 768) (by decide) rfl wa_int rfl (fun z => z) rfl (by decide) (by decide) ⟨by decide, by decide⟩ (fun a7 => ?_)
  refine And.intro rfl (And.intro (And.intro rfl rfl) ?_)
  refine sx_newI hC (y := 0) (N := 8) (by decide) rfl wa_int rfl (fun z => z) rfl (by decide) (by decide) ⟨by decide, by decide⟩ (fun a8 => ?_)
  refine And.intro rfl (And.intro (And.intro rfl rfl) ?_)
  refine sx_newI hC (y := 0) (N := 96) (by decide) rfl wa_int rfl (fun z => z) rfl (by decide) (by decide) ⟨by decide, by decide⟩ (fun a9 => ?_)
  refine And.intro rfl (And.intro (And.intro rfl rfl) ?_)
  refine sx_newI hC (y := 0) (N := 96) (by decide) rfl wa_int rfl (fun z => z) rfl (by decide) (by decide) ⟨by decide, by decide⟩ (fun a10 => ?_)
  refine And.intro rfl (And.intro (And.intro rfl rfl) ?_)
  refine Vx.subL (lv' := [(0, .ref h), (1, .int nw)]) [0, 1] rfl ?_
  refine Vx.eqs rfl (lv2 := [(0, .ref h), (1, .int nw)]) rfl rfl (w2 := [(h, .inr (9, [.long 0, .int 0, .ref a1, .ref a2, .ref a3, .ref a4, .ref a5, .ref a6, .int 0, .ref a7, .ref a8, .int 0, .int 0, .int 0, .int 0, .int 0, .int 0, .int 0, .int 0, .int 0, .int 0, .ref a9, .ref a10, .int 0, .int 0, .int 0, .int 0, .int 0, .null, .null, .null])), (a1, .inl (tc 0, 4, .inl (fun _ => 0))), (a2, .inl (tc 0, 4, .inl (fun _ => 0))), (a3, .inl (tc 0, 4, .inl (fun _ => 0))), (a4, .inl (tc 0, 4, .inl (fun _ => 0))), (a5, .inl (tc 3, 4, .inl (fun _ => 0))), (a6, .inl (tc 2, 4, .inr (.inl (fun _ => 0)))), (a7, .inl (tc 0, 768, .inl (fun _ => 0))), (a8, .inl (tc 0, 8, .inl (fun _ => 0))), (a9, .inl (tc 0, 96, .inl (fun _ => 0))), (a10, .inl (tc 0, 96, .inl (fun _ => 0)))]) rfl ?_
  refine Vx.cnt (k2 := 10) (n2 := 992) rfl rfl ?_
  refine vx_gon hC hFt hini (vx_ends hC hr hlk) jc_Mo_init 42 18 (by decide) rfl ?_
  refine And.intro rfl (And.intro (And.intro rfl rfl) ?_)
  refine And.intro rfl (And.intro (And.intro rfl rfl) ?_)
  refine sx_newI hC (y := 0) (N := 4) (by decide) rfl wa_int rfl (fun z => z) rfl (by decide) (by decide) ⟨by decide, by decide⟩ (fun a11 => ?_)
  refine And.intro rfl (And.intro (And.intro rfl rfl) ?_)
  refine sx_newI hC (y := 0) (N := 4) (by decide) rfl wa_int rfl (fun z => z) rfl (by decide) (by decide) ⟨by decide, by decide⟩ (fun a12 => ?_)
  refine And.intro rfl (And.intro (And.intro rfl rfl) ?_)
  refine sx_newL hC (N := 15) wa_long rfl (by decide) ⟨by decide, by decide⟩ (fun a13 => ?_)
  refine And.intro rfl (And.intro (And.intro rfl rfl) ?_)
  refine Vx.subL (lv' := [(0, .ref h), (1, .int nw)]) [0, 1] rfl ?_
  refine Vx.eqs rfl (lv2 := [(0, .ref h), (1, .int nw)]) rfl rfl (w2 := (mdW tc h (fun i => ([0, a1, a2, a3, a4, a5, a6, a7, a8, a9, a10, a11, a12, a13] : List Nat).getD i 0) (0) (fun k => if k = 23 ∨ k = 24 then (-1 : Int32) else 0) (fun _ _ => 0) (fun p => if p = 13 then (fun _ => 0) else fun _ => 0))) rfl ?_
  refine Vx.cnt (k2 := 13) (n2 := 1015) rfl rfl ?_
  refine vx_cut (α := (Nat → Nat) × Unit) 135 (fun u => True) (fun u => [(0, .ref h)]) (fun u => []) (fun u => (mdW tc h u.1 (lN (nowN nw)) (fun k => if k = 23 ∨ k = 24 then (-1 : Int32) else 0) (fun _ _ => 0) (fun p => if p = 13 then (fun _ => 0) else fun _ => 0))) (fun tail => ?_) ?_
  · skip
    refine vx_gon hC hFt hini (vx_ends hC hr hlk) jc_Mo_init 60 14 (by decide) rfl ?_
    refine And.intro (Or.inr (Or.inl ⟨_, rfl, hC.2.2.2.2.1 _ (List.mem_cons_of_mem _ wc_Mo_58)⟩)) ?_
    refine And.intro (Or.inr (Or.inl ⟨_, rfl, hC.2.2.2.2.1 _ (List.mem_cons_of_mem _ wc_Mo_60)⟩)) ?_
    refine And.intro (fun c69 => ?_) (fun c69 => ?_)
    · skip
      have c69 : nw.toBitVec.toNat ≤ 4102444799 := le_now c69
      refine vx_gon hC hFt hini (vx_ends hC hr hlk) jc_Mo_init 72 2 (by decide) rfl ?_
      refine And.intro rfl (And.intro (And.intro rfl rfl) ?_)
      refine Vx.subL (lv' := [(0, .ref h)]) [1] rfl ?_
      refine Vx.eqs rfl (lv2 := [(0, .ref h)]) rfl rfl (w2 := (mdW tc h (fun i => ([0, a1, a2, a3, a4, a5, a6, a7, a8, a9, a10, a11, a12, a13] : List Nat).getD i 0) (lN (nowN nw)) (fun k => if k = 23 ∨ k = 24 then (-1 : Int32) else 0) (fun _ _ => 0) (fun p => if p = 13 then (fun _ => 0) else fun _ => 0))) (by rw [show nowN nw = nw.toBitVec.toNat from if_neg (by omega), ← now_and]; rfl) ?_
      exact tail ((fun i => ([0, a1, a2, a3, a4, a5, a6, a7, a8, a9, a10, a11, a12, a13] : List Nat).getD i 0), ()) trivial
    · skip
      have c69 : ¬ nw.toBitVec.toNat ≤ 4102444799 := fun z => c69 (now_le z)
      refine vx_gon hC hFt hini (vx_ends hC hr hlk) jc_Mo_init 73 1 (by decide) rfl ?_
      refine And.intro rfl (And.intro (And.intro rfl rfl) ?_)
      refine Vx.subL (lv' := [(0, .ref h)]) [1] rfl ?_
      refine Vx.eqs rfl (lv2 := [(0, .ref h)]) rfl rfl (w2 := (mdW tc h (fun i => ([0, a1, a2, a3, a4, a5, a6, a7, a8, a9, a10, a11, a12, a13] : List Nat).getD i 0) (lN (nowN nw)) (fun k => if k = 23 ∨ k = 24 then (-1 : Int32) else 0) (fun _ _ => 0) (fun p => if p = 13 then (fun _ => 0) else fun _ => 0))) (by rw [show nowN nw = 0 from if_pos (by omega)]; rfl) ?_
      exact tail ((fun i => ([0, a1, a2, a3, a4, a5, a6, a7, a8, a9, a10, a11, a12, a13] : List Nat).getD i 0), ()) trivial
  · intro u _
    refine vx_gon hC hFt hini (vx_ends hC hr hlk) jc_Mo_init 74 15 (by decide) rfl ?_
    refine And.intro rfl ?_
    refine And.intro (Or.inr (Or.inl ⟨_, rfl, hC.2.2.2.2.1 _ (List.mem_cons_of_mem _ wc_Mo_66)⟩)) ?_
    refine And.intro rfl (And.intro rfl (And.intro (show vp_in (nI 0) 15 from vp_in_nI (by decide) (by decide)) ?_))
    rw [show ((0, 0, 0, 0, 0) : wq_A).2.2.2.1.toNatClampNeg = 0 from rfl]
    refine And.intro rfl ?_
    refine And.intro (Or.inr (Or.inl ⟨_, rfl, hC.2.2.2.2.1 _ (List.mem_cons_of_mem _ wc_Mo_68)⟩)) ?_
    refine And.intro rfl (And.intro rfl (And.intro (show vp_in (nI 1) 15 from vp_in_nI (by decide) (by decide)) ?_))
    rw [show ((0, 0, 0, 1, 0) : wq_A).2.2.2.1.toNatClampNeg = 1 from rfl]
    refine And.intro rfl ?_
    refine And.intro (Or.inr (Or.inl ⟨_, rfl, hC.2.2.2.2.1 _ (List.mem_cons_of_mem _ wc_Mo_70)⟩)) ?_
    refine And.intro rfl (And.intro rfl (And.intro (show vp_in (nI 2) 15 from vp_in_nI (by decide) (by decide)) ?_))
    rw [show ((0, 0, 0, 2, 0) : wq_A).2.2.2.1.toNatClampNeg = 2 from rfl]
    refine Vx.subL (lv' := [(0, .ref h)]) [0] rfl ?_
    refine Vx.eqs rfl (lv2 := [(0, .ref h)]) rfl rfl (w2 := (mdW tc h u.1 (lN (nowN nw)) (fun k => if k = 23 ∨ k = 24 then (-1 : Int32) else 0) (fun _ _ => 0) (fun p => if p = 13 then (vp_updL (vp_updL (vp_updL (fun _ => 0) 0 1954047348) 1 1819112552) 2 474214394992) else fun _ => 0))) rfl ?_
    refine vx_gon hC hFt hini (vx_ends hC hr hlk) jc_Mo_init 89 15 (by decide) rfl ?_
    refine And.intro rfl ?_
    refine And.intro (Or.inr (Or.inl ⟨_, rfl, hC.2.2.2.2.1 _ (List.mem_cons_of_mem _ wc_Mo_72)⟩)) ?_
    refine And.intro rfl (And.intro rfl (And.intro (show vp_in (nI 3) 15 from vp_in_nI (by decide) (by decide)) ?_))
    rw [show ((0, 0, 0, 3, 0) : wq_A).2.2.2.1.toNatClampNeg = 3 from rfl]
    refine And.intro rfl ?_
    refine And.intro (Or.inr (Or.inl ⟨_, rfl, hC.2.2.2.2.1 _ (List.mem_cons_of_mem _ wc_Mo_74)⟩)) ?_
    refine And.intro rfl (And.intro rfl (And.intro (show vp_in (nI 4) 15 from vp_in_nI (by decide) (by decide)) ?_))
    rw [show ((0, 0, 0, 4, 0) : wq_A).2.2.2.1.toNatClampNeg = 4 from rfl]
    refine And.intro rfl ?_
    refine And.intro (Or.inr (Or.inl ⟨_, rfl, hC.2.2.2.2.1 _ (List.mem_cons_of_mem _ wc_Mo_76)⟩)) ?_
    refine And.intro rfl (And.intro rfl (And.intro (show vp_in (nI 5) 15 from vp_in_nI (by decide) (by decide)) ?_))
    rw [show ((0, 0, 0, 5, 0) : wq_A).2.2.2.1.toNatClampNeg = 5 from rfl]
    refine Vx.subL (lv' := [(0, .ref h)]) [0] rfl ?_
    refine Vx.eqs rfl (lv2 := [(0, .ref h)]) rfl rfl (w2 := (mdW tc h u.1 (lN (nowN nw)) (fun k => if k = 23 ∨ k = 24 then (-1 : Int32) else 0) (fun _ _ => 0) (fun p => if p = 13 then (vp_updL (vp_updL (vp_updL (vp_updL (vp_updL (vp_updL (fun _ => 0) 0 1954047348) 1 1819112552) 2 474214394992) 3 1852797802) 4 435526135145) 5 6778480) else fun _ => 0))) rfl ?_
    refine vx_gon hC hFt hini (vx_ends hC hr hlk) jc_Mo_init 104 15 (by decide) rfl ?_
    refine And.intro rfl ?_
    refine And.intro (Or.inr (Or.inl ⟨_, rfl, hC.2.2.2.2.1 _ (List.mem_cons_of_mem _ wc_Mo_78)⟩)) ?_
    refine And.intro rfl (And.intro rfl (And.intro (show vp_in (nI 6) 15 from vp_in_nI (by decide) (by decide)) ?_))
    rw [show ((0, 0, 0, 6, 0) : wq_A).2.2.2.1.toNatClampNeg = 6 from rfl]
    refine And.intro rfl ?_
    refine And.intro (Or.inr (Or.inl ⟨_, rfl, hC.2.2.2.2.1 _ (List.mem_cons_of_mem _ wc_Mo_80)⟩)) ?_
    refine And.intro rfl (And.intro rfl (And.intro (show vp_in (nI 7) 15 from vp_in_nI (by decide) (by decide)) ?_))
    rw [show ((0, 0, 0, 7, 0) : wq_A).2.2.2.1.toNatClampNeg = 7 from rfl]
    refine And.intro rfl ?_
    refine And.intro (Or.inr (Or.inl ⟨_, rfl, hC.2.2.2.2.1 _ (List.mem_cons_of_mem _ wc_Mo_82)⟩)) ?_
    refine And.intro rfl (And.intro rfl (And.intro (show vp_in (nI 8) 15 from vp_in_nI (by decide) (by decide)) ?_))
    rw [show ((0, 0, 0, 8, 0) : wq_A).2.2.2.1.toNatClampNeg = 8 from rfl]
    refine Vx.subL (lv' := [(0, .ref h)]) [0] rfl ?_
    refine Vx.eqs rfl (lv2 := [(0, .ref h)]) rfl rfl (w2 := (mdW tc h u.1 (lN (nowN nw)) (fun k => if k = 23 ∨ k = 24 then (-1 : Int32) else 0) (fun _ _ => 0) (fun p => if p = 13 then (vp_updL (vp_updL (vp_updL (vp_updL (vp_updL (vp_updL (vp_updL (vp_updL (vp_updL (fun _ => 0) 0 1954047348) 1 1819112552) 2 474214394992) 3 1852797802) 4 435526135145) 5 6778480) 6 30519660376454771) 7 465558725996) 8 8386093285582598241) else fun _ => 0))) rfl ?_
    refine vx_gon hC hFt hini (vx_ends hC hr hlk) jc_Mo_init 119 15 (by decide) rfl ?_
    refine And.intro rfl ?_
    refine And.intro (Or.inr (Or.inl ⟨_, rfl, hC.2.2.2.2.1 _ (List.mem_cons_of_mem _ wc_Mo_84)⟩)) ?_
    refine And.intro rfl (And.intro rfl (And.intro (show vp_in (nI 9) 15 from vp_in_nI (by decide) (by decide)) ?_))
    rw [show ((0, 0, 0, 9, 0) : wq_A).2.2.2.1.toNatClampNeg = 9 from rfl]
    refine And.intro rfl ?_
    refine And.intro (Or.inr (Or.inl ⟨_, rfl, hC.2.2.2.2.1 _ (List.mem_cons_of_mem _ wc_Mo_86)⟩)) ?_
    refine And.intro rfl (And.intro rfl (And.intro (show vp_in (nI 10) 15 from vp_in_nI (by decide) (by decide)) ?_))
    rw [show ((0, 0, 0, 10, 0) : wq_A).2.2.2.1.toNatClampNeg = 10 from rfl]
    refine And.intro rfl ?_
    refine And.intro (Or.inr (Or.inl ⟨_, rfl, hC.2.2.2.2.1 _ (List.mem_cons_of_mem _ wc_Mo_88)⟩)) ?_
    refine And.intro rfl (And.intro rfl (And.intro (show vp_in (nI 11) 15 from vp_in_nI (by decide) (by decide)) ?_))
    rw [show ((0, 0, 0, 11, 0) : wq_A).2.2.2.1.toNatClampNeg = 11 from rfl]
    refine Vx.subL (lv' := [(0, .ref h)]) [0] rfl ?_
    refine Vx.eqs rfl (lv2 := [(0, .ref h)]) rfl rfl (w2 := (mdW tc h u.1 (lN (nowN nw)) (fun k => if k = 23 ∨ k = 24 then (-1 : Int32) else 0) (fun _ _ => 0) (fun p => if p = 13 then (vp_updL (vp_updL (vp_updL (vp_updL (vp_updL (vp_updL (vp_updL (vp_updL (vp_updL (vp_updL (vp_updL (vp_updL (fun _ => 0) 0 1954047348) 1 1819112552) 2 474214394992) 3 1852797802) 4 435526135145) 5 6778480) 6 30519660376454771) 7 465558725996) 8 8386093285582598241) 9 7237481) 10 28261) 11 495887150693) else fun _ => 0))) rfl ?_
    refine vx_go hC hFt hini (vx_ends hC hr hlk) jc_Mo_init 134 (by decide) rfl ?_
    refine And.intro rfl ?_
    refine And.intro (Or.inr (Or.inl ⟨_, rfl, hC.2.2.2.2.1 _ (List.mem_cons_of_mem _ wc_Mo_90)⟩)) ?_
    refine And.intro rfl (And.intro rfl (And.intro (show vp_in (nI 12) 15 from vp_in_nI (by decide) (by decide)) ?_))
    rw [show ((0, 0, 0, 12, 0) : wq_A).2.2.2.1.toNatClampNeg = 12 from rfl]
    refine And.intro rfl ?_
    refine And.intro (Or.inr (Or.inl ⟨_, rfl, hC.2.2.2.2.1 _ (List.mem_cons_of_mem _ wc_Mo_92)⟩)) ?_
    refine And.intro rfl (And.intro rfl (And.intro (show vp_in (nI 13) 15 from vp_in_nI (by decide) (by decide)) ?_))
    rw [show ((0, 0, 0, 13, 0) : wq_A).2.2.2.1.toNatClampNeg = 13 from rfl]
    refine And.intro rfl ?_
    refine And.intro (Or.inr (Or.inl ⟨_, rfl, hC.2.2.2.2.1 _ (List.mem_cons_of_mem _ wc_Mo_94)⟩)) ?_
    refine And.intro rfl (And.intro rfl (And.intro (show vp_in (nI 14) 15 from vp_in_nI (by decide) (by decide)) ?_))
    rw [show ((0, 0, 0, 14, 0) : wq_A).2.2.2.1.toNatClampNeg = 14 from rfl]
    refine And.intro (trivial) (And.intro ?_ (And.intro (Nat.le_of_ble_eq_true rfl) (Nat.le_of_ble_eq_true rfl)))
    exact ⟨rfl, u.1, rfl⟩
theorem mo_R {nw : Int32} {N : Nat} (hN : N ≤ 4102444799) : mdR (lN N) (fun k => if k = 23 ∨ k = 24 then (-1 : Int32) else 0) (fun _ _ => 0) (fun p => if p = 13 then moA else fun _ => 0) N [] 0 (fun _ => []) :=
  ⟨hN, rfl, fun i hi => moA_W i hi, ⟨Nat.zero_le _, fun i r hi => by simp at hi⟩, rfl, rfl, fun G hG => ⟨hG, rfl, fun j hj => absurd hj (Nat.not_lt_zero _), Nat.zero_le _, fun x hx => by cases hx⟩⟩
theorem mo_A : mdA (fun k => if k = 23 ∨ k = 24 then (-1 : Int32) else 0) (fun _ _ => 0) (-1) none false [] := ⟨rfl, rfl, rfl, rfl, rfl, Nat.zero_le _, fun i hi => absurd hi (Nat.not_lt_zero _)⟩
theorem an_0 : anOk (-1) none [] := ⟨fun _ => ⟨rfl, by decide⟩, ⟨fun z => absurd z (by decide), fun z => absurd rfl z⟩, (fun u hu => by cases hu), Nat.zero_le _, fun i hi => absurd hi (Nat.not_lt_zero _)⟩
