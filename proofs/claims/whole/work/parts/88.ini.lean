/-! THE CLASS: its constructors, by program (wip/whole/gen/p88.py) -/
section
variable {p : Program} {l : Launch} {e : Env} {R : Room} {s : State} {m : MethodId} {args : Array Value} {below : List Frame} {meth : Method} {c : Code} {cc : ByteArray} {nL : Nat} {D : va_G} {tys : List (ClassId × FieldType)} {A : Nat → Prop} {tc : Nat → ClassId} {Q : State → Prop} {rest : List Value} {k n : Nat} {K : List Value → va_W → Nat → Nat → Prop} {y0 : MethodName} {b0 : ByteArray} {n0 index : Nat} {r0 : Option FieldType} {own : String} {ws : va_W}
/-- a new array of references -/
theorem sx_anew (hC : Cx p s m args c cc nL own (yw y0 b0 n0 r0) D cls tys A tc) {C : String} (hcl : Cond.classLink own index C ∈ gw) (hov : va_AO C s) {t0 : Nat} {tcR : ClassId} (ht : tys[t0]? = some (tcR, .object C)) {N : Nat} {n9 : Int32} (hn : n9 = nI N) (hN : N < 2 ^ 20) (hk : k + 1 ≤ R.cells ∧ n + N ≤ R.slots)
    (kk : ∀ q : Nat, K (.ref q :: rest) (ws ++ [(q, .inl (tcR, N, .inr (.inr (.inr (.inr (fun _ => none))))))]) (k + 1) (n + N)) : vx_SX cc (Vx p l e R s m args below meth c nL D cls A Q) (.anewarray index) 3 (.int n9 :: rest) ws k n K := by
  intro pc lv hdg hK H locs ls hP hD hS hl
  subst hn
  have g : ∀ {w : Cond}, w ∈ gw → w.before args s = true := fun h => hC.2.2.2.2.1 _ (List.mem_cons_of_mem _ h)
  refine va_newq hC.1 hC.2.1 hC.2.2.2.1 (g hcl) hov hC.2.2.2.2.2.1 hP hD hS hC.2.2.2.2.2.2.1 (nI_pos (by omega)) (nI_clamp (by omega)) (by omega) hk.1 hk.2 hdg (fun q cA H1 hK1 hP1 hD1 hS1 => ?_)
  have e9 : cA = tcR := by
    obtain ⟨_, _, _, _, _, h1⟩ := (hK1.2 tys.length (cA, .object C) (by simp)).2
    obtain ⟨_, _, _, _, _, h2⟩ := (hC.2.2.2.2.2.1.2 t0 _ ht).2
    exact Option.some.inj (h1.symm.trans h2)
  subst e9
  exact hK _ _ _ _ (kk q) H1 locs ls hP1 hD1 hS1 hl
theorem vd_app {L : va_W} {q : Nat} (hD : va_D A ws) (hlt : ∀ (j : Nat) (x : Nat × va_E), ws[j]? = some x → x.1 < q) (hL : ∀ (i : Nat) (x : Nat × va_E), L[i]? = some x → x.1 = q + i) (hA : ∀ a, q ≤ a → A a) : va_D A (ws ++ L) := by
  refine ⟨fun i j q1 q2 h1 h2 he => ?_, fun j x hx => ?_⟩
  · by_cases hi : i < ws.length
    · rw [List.getElem?_append_left hi] at h1
      by_cases hj : j < ws.length
      · rw [List.getElem?_append_left hj] at h2
        exact hD.1 i j q1 q2 h1 h2 he
      · rw [List.getElem?_append_right (by omega)] at h2
        have := hlt _ _ h1
        have := hL _ _ h2
        omega
    · rw [List.getElem?_append_right (by omega)] at h1
      by_cases hj : j < ws.length
      · rw [List.getElem?_append_left hj] at h2
        have := hlt _ _ h2
        have := hL _ _ h1
        omega
      · rw [List.getElem?_append_right (by omega)] at h2
        have := hL _ _ h1
        have := hL _ _ h2
        omega
  · by_cases hj : j < ws.length
    · rw [List.getElem?_append_left hj] at hx
      exact hD.2 j x hx
    · rw [List.getElem?_append_right (by omega)] at hx
      exact hA _ (by have := hL _ _ hx; omega)
def grW (tc : Nat → ClassId) (tcA : ClassId) (q : Nat) : va_W := [(q, .inl (tcA, 8, .inr (.inr (.inr (.inr (fun G => some (q + 1 + G))))))), (q + 1 + 0, .inl (tc 0, 96, .inl (fun _ => 0))), (q + 1 + 1, .inl (tc 0, 96, .inl (fun _ => 0))), (q + 1 + 2, .inl (tc 0, 96, .inl (fun _ => 0))), (q + 1 + 3, .inl (tc 0, 96, .inl (fun _ => 0))), (q + 1 + 4, .inl (tc 0, 96, .inl (fun _ => 0))), (q + 1 + 5, .inl (tc 0, 96, .inl (fun _ => 0))), (q + 1 + 6, .inl (tc 0, 96, .inl (fun _ => 0))), (q + 1 + 7, .inl (tc 0, 96, .inl (fun _ => 0)))]
theorem grW_at {tcA : ClassId} {q i : Nat} {x : Nat × va_E} (h : (grW tc tcA q)[i]? = some x) : (i = 0 ∧ x = (q, .inl (tcA, 8, .inr (.inr (.inr (.inr (fun G => some (q + 1 + G)))))))) ∨ ∃ j, j < 8 ∧ i = j + 1 ∧ x = (q + 1 + j, .inl (tc 0, 96, .inl (fun _ => 0))) := by
  have hi : i < 9 := (List.getElem?_eq_some_iff.mp h).1
  rcases (show i = 0 ∨ i = 1 ∨ i = 2 ∨ i = 3 ∨ i = 4 ∨ i = 5 ∨ i = 6 ∨ i = 7 ∨ i = 8 by omega) with rfl | rfl | rfl | rfl | rfl | rfl | rfl | rfl | rfl
  · exact Or.inl ⟨rfl, (Option.some.inj h).symm⟩
  · exact Or.inr ⟨0, by decide, rfl, (Option.some.inj h).symm⟩
  · exact Or.inr ⟨1, by decide, rfl, (Option.some.inj h).symm⟩
  · exact Or.inr ⟨2, by decide, rfl, (Option.some.inj h).symm⟩
  · exact Or.inr ⟨3, by decide, rfl, (Option.some.inj h).symm⟩
  · exact Or.inr ⟨4, by decide, rfl, (Option.some.inj h).symm⟩
  · exact Or.inr ⟨5, by decide, rfl, (Option.some.inj h).symm⟩
  · exact Or.inr ⟨6, by decide, rfl, (Option.some.inj h).symm⟩
  · exact Or.inr ⟨7, by decide, rfl, (Option.some.inj h).symm⟩
set_option maxHeartbeats 2000000 in
/-- new int[8][96] -/
theorem sx_mnew (hC : Cx p s m args c cc nL own (yw y0 b0 n0 r0) D cls tys A tc) (hcl : Cond.classLink own index "[[I" ∈ gw) (hov : (Cond.arrayOver (.array .int)).before args s = true) (hac : Cond.arrayClass .int ∈ gw) {tcA : ClassId} (ht : tys[5]? = some (tcA, .array .int)) (hk : k + (1 + 8) ≤ R.cells ∧ n + (8 + 8 * 96) ≤ R.slots)
    (kk : ∀ q : Nat, K (.ref q :: rest) (ws ++ grW tc tcA q) (k + 1 + 8) (n + 8 + 8 * 96)) : vx_SX cc (Vx p l e R s m args below meth c nL D cls A Q) (.multianewarray index 2) 4 (.int 96 :: .int 8 :: rest) ws k n K := by
  intro pc lv hdg hK H locs ls hP hD hS hl T hT X
  have g : ∀ {w : Cond}, w ∈ gw → w.before args s = true := fun h => hC.2.2.2.2.1 _ (List.mem_cons_of_mem _ h)
  obtain ⟨vm₁, cA, comp, V, L, hfA, hfC, ⟨X1, hL, -, f1, hold, f2, hin⟩, step⟩ := mn_row X hC.1 (own := own) (index := index) hC.2.2.2.1 (g hcl) hov (g hac) (g := F0 m pc ls (.int 96 :: .int 8 :: rest)) rfl (by rw [hC.2.1]; exact hdg) (rest := rest) rfl hk.1 hk.2
  have eA : cA = tcA := Option.some.inj (hfA.symm.trans (hC.2.2.2.2.2.1.2 5 _ ht).2)
  have eC : comp = tc 0 := Option.some.inj (hfC.symm.trans (hC.2.2.2.2.2.1.2 0 _ (hC.2.2.2.2.2.2.2 0 (by decide))).2)
  subst eA
  subst eC
  rw [hT] at hL f1 hold f2 hin
  have hP1 : va_P D cls (ws ++ grW tc cA H.size) V.heap := by
    refine (hP.kept (fun j x hx => hold x.1 ((hP j x hx).lt))).app (fun i x hx => ?_)
    rcases grW_at hx with ⟨-, rfl⟩ | ⟨j, hj, -, rfl⟩
    · show _ = some (vp_cell _ _)
      rw [f2, vp_cell_q]
      exact congrArg some (mn_ext (fun j hj => if_pos hj))
    · show _ = some (vp_cell _ _)
      rw [hin j hj]
      rfl
  obtain ⟨t, a1, b1⟩ := hK _ _ _ _ (kk H.size) _ L ls hP1 (vd_app hD (fun j x hx => (hP j x hx).lt) (fun i x hx => by
    rcases grW_at hx with ⟨rfl, rfl⟩ | ⟨j, hj, rfl, rfl⟩
    · rfl
    · show H.size + 1 + j = H.size + (j + 1); omega) (fun a ha => hC.2.2.2.2.2.2.1 a (Nat.le_trans hS.1 ha))) ⟨Nat.le_trans hS.1 (by rw [f1]; omega), fun x h1 h2 => (hold x (Nat.lt_of_lt_of_le h1 hS.1)).trans (hS.2.1 x h1 h2), fun y hy => by
      rcases hL y hy with h | h
      · exact hS.2.2 y h
      · rw [h]; exact hC.2.2.2.2.2.2.1 _ hS.1⟩ hl _ rfl X1
  exact ⟨t, step t (by rw [hT]; exact a1), b1⟩
end
set_option maxRecDepth 100000 in
set_option maxHeartbeats 4000000 in
theorem c_Rd_init (l : Launch) (D : va_G) (tys : List (ClassId × FieldType)) (tc : Nat → ClassId) (hty : ∀ i : Nat, i < 4 → tys[i]? = some (tc i, vx_ty i)) (ci : Nat) (hci : ci < 5) (h : Nat) (ex : List Value) : Kt l y_Rd_init (yw y_Rd_init b_Rd_init 1 none) 1 30 2 96 D cls tys (fun _ _ _ => True) [.ref h] [(h, .inr (ci, .null :: .int 0 :: .int 0 :: .null :: .int 0 :: ex))] (fun r w => r = none ∧ ∃ ra sa, w = [(h, .inr (ci, .ref ra :: .int 0 :: .int 0 :: .ref sa :: .int 0 :: ex)), (ra, .inl (tc 0, 0, .inl (fun _ => 0))), (sa, .inl (tc 0, 96, .inl (fun _ => 0)))]) := by
  refine Kt.of ro_true (by decide) rfl hty (Nat.le_of_ble_eq_true rfl) ?_
  intro p e s m args below meth c0 A hC hr hlk hnm hF
  have hFt : vx_Ft y_Rd_init.cls (yw y_Rd_init b_Rd_init 1 none) cls cty ft_Rd := ft_of (fun w h => List.mem_cons_of_mem _ h) fl_Rd_in ft_Rd_b
  have hini : true = true → meth.name = "<init>" := fun _ => hnm
  rcases (show ci = 0 ∨ ci = 1 ∨ ci = 2 ∨ ci = 3 ∨ ci = 4 by omega) with rfl | rfl | rfl | rfl | rfl
  all_goals
    refine vx_go hC hFt hini (vx_ends hC hr hlk) jc_Rd_init 0 (by decide) rfl ?_
    refine sx_obj hC wl_Rd_3 (by decide) (Nat.le_of_ble_eq_true rfl) ?_
    refine sx_newI hC (y := 0) (N := 0) (by decide) rfl wa_int rfl (fun z => z) rfl (by decide) (by decide) ⟨by decide, by decide⟩ (fun ra => ?_)
    refine And.intro rfl (And.intro (And.intro rfl rfl) ?_)
    refine sx_newI hC (y := 0) (N := 96) (by decide) rfl wa_int rfl (fun z => z) rfl (by decide) (by decide) ⟨by decide, by decide⟩ (fun sa => ?_)
    refine And.intro rfl (And.intro (And.intro rfl rfl) ?_)
    refine And.intro (trivial) (And.intro ?_ (And.intro (Nat.le_of_ble_eq_true rfl) (Nat.le_of_ble_eq_true rfl)))
    exact ⟨rfl, ra, sa, rfl⟩
def NKs : List (String × Nat × MethodName) := [("OriginDesk$Accept", 3, y_Rd_init), ("OriginDesk$Languages", 3, y_Rd_init), ("OriginDesk$Tags", 3, y_Rd_init), ("OriginDesk$Dates", 3, y_Rd_init), ("OriginDesk$Ranges", 3, y_Rd_init), ("OriginDesk", 17, y_Rq_init), ("OriginDesk", 24, y_Ac_init), ("OriginDesk", 31, y_La_init), ("OriginDesk", 38, y_Tg_init), ("OriginDesk", 45, y_Ra_init), ("OriginDesk", 52, y_Rs_init)]
/-- constructors of nest mates may be called -/
def nkF : (Nat → Prop) → State → Heap → Prop := fun _ U _ => ∀ (i : Nat) (q : String × Nat × MethodName), NKs[i]? = some q → va_Nw (.methodLinkNest q.1 q.2.1 q.2.2 "OriginDesk") U
theorem nkF_ro : RO nkF := ⟨fun _ _ _ _ ha h i q hq => (h i q hq).warmM ha, fun _ _ _ _ _ h => h, fun _ _ _ _ _ h => h⟩
set_option maxRecDepth 100000 in
set_option maxHeartbeats 4000000 in
theorem c_Ac_init (l : Launch) (D : va_G) (tys : List (ClassId × FieldType)) (tc : Nat → ClassId) (hty : ∀ i : Nat, i < 4 → tys[i]? = some (tc i, vx_ty i)) (h : Nat) : Kt l y_Ac_init (yw y_Ac_init b_Ac_init 1 none) 2 50 2 96 D cls tys nkF [.ref h] [(h, .inr (0, .null :: .int 0 :: .int 0 :: .null :: .int 0 :: [.int 0, .int 0, .int 0, .int 0, .int 0]))] (fun r w => r = none ∧ ∃ ra sa, w = [(h, .inr (0, .ref ra :: .int 0 :: .int 0 :: .ref sa :: .int 0 :: [.int 0, .int 0, .int 0, .int 0, .int 0])), (ra, .inl (tc 0, 0, .inl (fun _ => 0))), (sa, .inl (tc 0, 96, .inl (fun _ => 0)))]) := by
  refine Kt.of nkF_ro (by decide) rfl hty (Nat.le_of_ble_eq_true rfl) ?_
  intro p e s m args below meth c0 A hC hr hlk hnm hF
  have hFt : vx_Ft y_Ac_init.cls (yw y_Ac_init b_Ac_init 1 none) cls cty ft_Ac := ft_of (fun w h => List.mem_cons_of_mem _ h) fl_Ac_in ft_Ac_b
  have hini : true = true → meth.name = "<init>" := fun _ => hnm
  refine vx_go hC hFt hini (vx_ends hC hr hlk) jc_Ac_init 0 (by decide) rfl ?_
  refine sx_callIN (wr := []) (wc := [(h, .inr (0, .null :: .int 0 :: .int 0 :: .null :: .int 0 :: [.int 0, .int 0, .int 0, .int 0, .int 0]))]) hC (c_Rd_init l D tys tc hty 0 (by decide) h [.int 0, .int 0, .int 0, .int 0, .int 0]) (hF 0 _ rfl) wm_Rd_init wi_Rd_init rfl ⟨by decide, by decide⟩ [0] [] rfl rfl rfl rfl (by decide) (fun _ _ _ _ _ => trivial) rfl rfl (Nat.le_of_ble_eq_true rfl) ⟨by decide, by decide⟩ (fun r' w' hp => ?_)
  obtain ⟨rfl, ra, sa, rfl⟩ := hp
  refine And.intro (trivial) (And.intro ?_ (And.intro (Nat.le_of_ble_eq_true rfl) (Nat.le_of_ble_eq_true rfl)))
  exact ⟨rfl, ra, sa, rfl⟩
set_option maxRecDepth 100000 in
set_option maxHeartbeats 4000000 in
theorem c_La_init (l : Launch) (D : va_G) (tys : List (ClassId × FieldType)) (tc : Nat → ClassId) (hty : ∀ i : Nat, i < 4 → tys[i]? = some (tc i, vx_ty i)) (h : Nat) : Kt l y_La_init (yw y_La_init b_La_init 1 none) 2 50 2 96 D cls tys nkF [.ref h] [(h, .inr (1, .null :: .int 0 :: .int 0 :: .null :: .int 0 :: [.int 0, .int 0]))] (fun r w => r = none ∧ ∃ ra sa, w = [(h, .inr (1, .ref ra :: .int 0 :: .int 0 :: .ref sa :: .int 0 :: [.int 0, .int 0])), (ra, .inl (tc 0, 0, .inl (fun _ => 0))), (sa, .inl (tc 0, 96, .inl (fun _ => 0)))]) := by
  refine Kt.of nkF_ro (by decide) rfl hty (Nat.le_of_ble_eq_true rfl) ?_
  intro p e s m args below meth c0 A hC hr hlk hnm hF
  have hFt : vx_Ft y_La_init.cls (yw y_La_init b_La_init 1 none) cls cty ft_La := ft_of (fun w h => List.mem_cons_of_mem _ h) fl_La_in ft_La_b
  have hini : true = true → meth.name = "<init>" := fun _ => hnm
  refine vx_go hC hFt hini (vx_ends hC hr hlk) jc_La_init 0 (by decide) rfl ?_
  refine sx_callIN (wr := []) (wc := [(h, .inr (1, .null :: .int 0 :: .int 0 :: .null :: .int 0 :: [.int 0, .int 0]))]) hC (c_Rd_init l D tys tc hty 1 (by decide) h [.int 0, .int 0]) (hF 1 _ rfl) wm_Rd_init wi_Rd_init rfl ⟨by decide, by decide⟩ [0] [] rfl rfl rfl rfl (by decide) (fun _ _ _ _ _ => trivial) rfl rfl (Nat.le_of_ble_eq_true rfl) ⟨by decide, by decide⟩ (fun r' w' hp => ?_)
  obtain ⟨rfl, ra, sa, rfl⟩ := hp
  refine And.intro (trivial) (And.intro ?_ (And.intro (Nat.le_of_ble_eq_true rfl) (Nat.le_of_ble_eq_true rfl)))
  exact ⟨rfl, ra, sa, rfl⟩
set_option maxRecDepth 100000 in
set_option maxHeartbeats 4000000 in
theorem c_Tg_init (l : Launch) (D : va_G) (tys : List (ClassId × FieldType)) (tc : Nat → ClassId) (hty : ∀ i : Nat, i < 4 → tys[i]? = some (tc i, vx_ty i)) (h : Nat) : Kt l y_Tg_init (yw y_Tg_init b_Tg_init 1 none) 2 50 2 96 D cls tys nkF [.ref h] [(h, .inr (2, .null :: .int 0 :: .int 0 :: .null :: .int 0 :: [.int 0, .int 0, .int 0]))] (fun r w => r = none ∧ ∃ ra sa, w = [(h, .inr (2, .ref ra :: .int 0 :: .int 0 :: .ref sa :: .int 0 :: [.int 0, .int 0, .int 0])), (ra, .inl (tc 0, 0, .inl (fun _ => 0))), (sa, .inl (tc 0, 96, .inl (fun _ => 0)))]) := by
  refine Kt.of nkF_ro (by decide) rfl hty (Nat.le_of_ble_eq_true rfl) ?_
  intro p e s m args below meth c0 A hC hr hlk hnm hF
  have hFt : vx_Ft y_Tg_init.cls (yw y_Tg_init b_Tg_init 1 none) cls cty ft_Tg := ft_of (fun w h => List.mem_cons_of_mem _ h) fl_Tg_in ft_Tg_b
  have hini : true = true → meth.name = "<init>" := fun _ => hnm
  refine vx_go hC hFt hini (vx_ends hC hr hlk) jc_Tg_init 0 (by decide) rfl ?_
  refine sx_callIN (wr := []) (wc := [(h, .inr (2, .null :: .int 0 :: .int 0 :: .null :: .int 0 :: [.int 0, .int 0, .int 0]))]) hC (c_Rd_init l D tys tc hty 2 (by decide) h [.int 0, .int 0, .int 0]) (hF 2 _ rfl) wm_Rd_init wi_Rd_init rfl ⟨by decide, by decide⟩ [0] [] rfl rfl rfl rfl (by decide) (fun _ _ _ _ _ => trivial) rfl rfl (Nat.le_of_ble_eq_true rfl) ⟨by decide, by decide⟩ (fun r' w' hp => ?_)
  obtain ⟨rfl, ra, sa, rfl⟩ := hp
  refine And.intro (trivial) (And.intro ?_ (And.intro (Nat.le_of_ble_eq_true rfl) (Nat.le_of_ble_eq_true rfl)))
  exact ⟨rfl, ra, sa, rfl⟩
set_option maxRecDepth 100000 in
set_option maxHeartbeats 4000000 in
theorem c_Ra_init (l : Launch) (D : va_G) (tys : List (ClassId × FieldType)) (tc : Nat → ClassId) (hty : ∀ i : Nat, i < 4 → tys[i]? = some (tc i, vx_ty i)) (h : Nat) : Kt l y_Ra_init (yw y_Ra_init b_Ra_init 1 none) 2 50 4 104 D cls tys nkF [.ref h] [(h, .inr (4, .null :: .int 0 :: .int 0 :: .null :: .int 0 :: [.null, .null, .int 0, .int 0]))] (fun r w => r = none ∧ ∃ ra sa fa la, w = [(h, .inr (4, .ref ra :: .int 0 :: .int 0 :: .ref sa :: .int 0 :: [.ref fa, .ref la, .int 0, .int 0])), (ra, .inl (tc 0, 0, .inl (fun _ => 0))), (sa, .inl (tc 0, 96, .inl (fun _ => 0))), (fa, .inl (tc 0, 4, .inl (fun _ => 0))), (la, .inl (tc 0, 4, .inl (fun _ => 0)))]) := by
  refine Kt.of nkF_ro (by decide) rfl hty (Nat.le_of_ble_eq_true rfl) ?_
  intro p e s m args below meth c0 A hC hr hlk hnm hF
  have hFt : vx_Ft y_Ra_init.cls (yw y_Ra_init b_Ra_init 1 none) cls cty ft_Ra := ft_of (fun w h => List.mem_cons_of_mem _ h) fl_Ra_in ft_Ra_b
  have hini : true = true → meth.name = "<init>" := fun _ => hnm
  refine vx_go hC hFt hini (vx_ends hC hr hlk) jc_Ra_init 0 (by decide) rfl ?_
  refine sx_callIN (wr := []) (wc := [(h, .inr (4, .null :: .int 0 :: .int 0 :: .null :: .int 0 :: [.null, .null, .int 0, .int 0]))]) hC (c_Rd_init l D tys tc hty 4 (by decide) h [.null, .null, .int 0, .int 0]) (hF 4 _ rfl) wm_Rd_init wi_Rd_init rfl ⟨by decide, by decide⟩ [0] [] rfl rfl rfl rfl (by decide) (fun _ _ _ _ _ => trivial) rfl rfl (Nat.le_of_ble_eq_true rfl) ⟨by decide, by decide⟩ (fun r' w' hp => ?_)
  obtain ⟨rfl, ra, sa, rfl⟩ := hp
  refine sx_newI hC (y := 0) (N := 4) (by decide) rfl wa_int rfl (fun z => z) rfl (by decide) (by decide) ⟨by decide, by decide⟩ (fun fa => ?_)
  refine And.intro rfl (And.intro (And.intro rfl rfl) ?_)
  refine sx_newI hC (y := 0) (N := 4) (by decide) rfl wa_int rfl (fun z => z) rfl (by decide) (by decide) ⟨by decide, by decide⟩ (fun la => ?_)
  refine And.intro rfl (And.intro (And.intro rfl rfl) ?_)
  refine And.intro (trivial) (And.intro ?_ (And.intro (Nat.le_of_ble_eq_true rfl) (Nat.le_of_ble_eq_true rfl)))
  exact ⟨rfl, ra, sa, fa, la, rfl⟩
set_option maxRecDepth 100000 in
set_option maxHeartbeats 4000000 in
theorem c_Da_init (l : Launch) (D : va_G) (tys : List (ClassId × FieldType)) (tc : Nat → ClassId) (hty : ∀ i : Nat, i < 4 → tys[i]? = some (tc i, vx_ty i)) (h N : Nat) (hN : N ≤ 4102444799) : Kt l y_Da_init (yw y_Da_init b_Da_init 3 none) 2 50 2 96 D cls tys nkF [.ref h, .long (lN N)] [(h, .inr (3, .null :: .int 0 :: .int 0 :: .null :: .int 0 :: [.int 0, .int 0, .int 0, .int 0, .int 0]))] (fun r w => r = none ∧ ∃ ra sa, w = [(h, .inr (3, .ref ra :: .int 0 :: .int 0 :: .ref sa :: .int 0 :: [.int (nI (yrN N + 50)), .int 0, .int 0, .int 0, .int 0])), (ra, .inl (tc 0, 0, .inl (fun _ => 0))), (sa, .inl (tc 0, 96, .inl (fun _ => 0)))]) := by
  refine Kt.of nkF_ro (by decide) rfl hty (Nat.le_of_ble_eq_true rfl) ?_
  intro p e s m args below meth c0 A hC hr hlk hnm hF
  have hFt : vx_Ft y_Da_init.cls (yw y_Da_init b_Da_init 3 none) cls cty ft_Da := ft_of (fun w h => List.mem_cons_of_mem _ h) fl_Da_in ft_Da_b
  have hini : true = true → meth.name = "<init>" := fun _ => hnm
  refine vx_go hC hFt hini (vx_ends hC hr hlk) jc_Da_init 0 (by decide) rfl ?_
  refine sx_callIN (wr := []) (wc := [(h, .inr (3, .null :: .int 0 :: .int 0 :: .null :: .int 0 :: [.int 0, .int 0, .int 0, .int 0, .int 0]))]) hC (c_Rd_init l D tys tc hty 3 (by decide) h [.int 0, .int 0, .int 0, .int 0, .int 0]) (hF 3 _ rfl) wm_Rd_init wi_Rd_init rfl ⟨by decide, by decide⟩ [0] [] rfl rfl rfl rfl (by decide) (fun _ _ _ _ _ => trivial) rfl rfl (Nat.le_of_ble_eq_true rfl) ⟨by decide, by decide⟩ (fun r' w' hp => ?_)
  obtain ⟨rfl, ra, sa, rfl⟩ := hp
  refine calls0 hC (c_Da_yearOf l D tys tc hty N hN) trivial wm_Da_yearOf wl_Da_9 wt_Da_yearOf ⟨by decide, by decide⟩ rfl rfl (Nat.le_of_ble_eq_true rfl) ⟨by decide, by decide⟩ (fun r' hp => ?_)
  subst hp
  refine And.intro rfl (And.intro (And.intro rfl rfl) ?_)
  refine And.intro (trivial) (And.intro ?_ (And.intro (Nat.le_of_ble_eq_true rfl) (Nat.le_of_ble_eq_true rfl)))
  exact ⟨rfl, ra, sa, by rw [← nI_add]; rfl⟩
set_option maxRecDepth 100000 in
set_option maxHeartbeats 4000000 in
theorem c_Rs_init (l : Launch) (D : va_G) (tys : List (ClassId × FieldType)) (tc : Nat → ClassId) (hty : ∀ i : Nat, i < 4 → tys[i]? = some (tc i, vx_ty i)) (h : Nat) : Kt l y_Rs_init (yw y_Rs_init b_Rs_init 1 none) 3 81 4 28 D cls tys csF [.ref h] [(h, .inr (6, [.int 0, .null, .int 0, .int 0, .null, .null, .int 0, .null]))] (fun r w => r = none ∧ ∃ fa la hb v, w = [(h, .inr (6, [.int (-1), .null, .int 0, .int 0, .ref fa, .ref la, .int 0, .ref hb])), (fa, .inl (tc 0, 4, .inl (fun _ => 0))), (la, .inl (tc 0, 4, .inl (fun _ => 0)))] ++ sbW tc hb v 0 0 16 (fun _ => 0)) := by
  refine Kt.of csF_ro (by decide) rfl hty (Nat.le_of_ble_eq_true rfl) ?_
  intro p e s m args below meth c0 A hC hr hlk hnm hF
  have hFt : vx_Ft y_Rs_init.cls (yw y_Rs_init b_Rs_init 1 none) cls cty ft_Rs := ft_of (fun w h => List.mem_cons_of_mem _ h) fl_Rs_in ft_Rs_b
  have hini : true = true → meth.name = "<init>" := fun _ => hnm
  refine vx_go hC hFt hini (vx_ends hC hr hlk) jc_Rs_init 0 (by decide) rfl ?_
  refine sx_obj hC wl_Rs_3 (by decide) (Nat.le_of_ble_eq_true rfl) ?_
  refine And.intro rfl (And.intro (And.intro rfl rfl) ?_)
  refine sx_newI hC (y := 0) (N := 4) (by decide) rfl wa_int rfl (fun z => z) rfl (by decide) (by decide) ⟨by decide, by decide⟩ (fun fa => ?_)
  refine And.intro rfl (And.intro (And.intro rfl rfl) ?_)
  refine sx_newI hC (y := 0) (N := 4) (by decide) rfl wa_int rfl (fun z => z) rfl (by decide) (by decide) ⟨by decide, by decide⟩ (fun la => ?_)
  refine And.intro rfl (And.intro (And.intro rfl rfl) ?_)
  refine sx_new hC (ci := 11) rfl wk_Rs_22 wn_Sb wz_Sb (fs := [.null, .int 0, .int 0, .int 0]) (fun j hj => by rcases (show j = 0 ∨ j = 1 ∨ j = 2 ∨ j = 3 by omega) with rfl | rfl | rfl | rfl <;> rfl) ⟨by decide, by decide⟩ (fun hb => ?_)
  refine And.intro rfl ?_
  refine sx_callI (wr := [(h, .inr (6, [.int (-1), .null, .int 0, .int 0, .ref fa, .ref la, .int 0, .null])), (fa, .inl (tc 0, 4, .inl (fun _ => 0))), (la, .inl (tc 0, 4, .inl (fun _ => 0)))]) (wc := [(hb, .inr (11, [.null, .int 0, .int 0, .int 0]))]) hC (c_Sb_init1 l D tys tc hty hb) (cw_I2 wm_Sb_init1 wl_Rs_24 wi_Sb_init1 rfl hC.2.2.2.2.1 ⟨by decide, by decide⟩) [3] [0, 1, 2] rfl rfl rfl rfl (by decide) (vx_ro (wc := [(hb, .inr (11, [.null, .int 0, .int 0, .int 0]))]) csF_ro hC.2.2.2.2.2.2.1 hF [3] rfl) rfl rfl (Nat.le_of_ble_eq_true rfl) ⟨by decide, by decide⟩ (fun r' w' hp => ?_)
  obtain ⟨v, rfl, rfl⟩ := hp
  refine And.intro rfl (And.intro (And.intro rfl rfl) ?_)
  refine And.intro (trivial) (And.intro ?_ (And.intro (Nat.le_of_ble_eq_true rfl) (Nat.le_of_ble_eq_true rfl)))
  exact ⟨rfl, fa, la, hb, v, rfl⟩
/-- int[][] has been made before -/
def aoF : (Nat → Prop) → State → Heap → Prop := fun _ U _ => (Cond.arrayOver (.array .int)).before #[] U = true
def arF : (Nat → Prop) → State → Heap → Prop := fun _ U _ => va_AO "OriginDesk$Representation" U
theorem arF_ro : RO arF := ⟨fun _ _ _ _ ha h => va_AO.moved ha.alike h, fun _ _ _ _ _ h => h, fun _ _ _ _ _ h => h⟩
theorem aoF_ro : RO aoF := by
  refine ⟨fun _ u U _ ha h => ?_, fun _ _ _ _ _ h => h, fun _ _ _ _ _ h => h⟩
  exact (Cond.arrayOver_setVmC (args := #[]) (s := u) ha.alike (.array .int)).trans h
set_option maxRecDepth 100000 in
set_option maxHeartbeats 4000000 in
theorem c_Rq_init (l : Launch) (D : va_G) (tys : List (ClassId × FieldType)) (tc : Nat → ClassId) (hty : ∀ i : Nat, i < 4 → tys[i]? = some (tc i, vx_ty i)) (q : Nat) (tcA : ClassId) (htA : tys[5]? = some (tcA, .array .int)) : Kt l y_Rq_init (yw y_Rq_init b_Rq_init 1 none) 1 30 10 784 D cls tys aoF [.ref q] [(q, .inr (5, [.int 0, .null, .null]))] (fun r w => r = none ∧ ∃ t za, w = [(q, .inr (5, [.int 0, .ref t, .ref za]))] ++ grW tc tcA t ++ [(za, .inl (tc 0, 8, .inl (fun _ => 0)))]) := by
  refine Kt.of aoF_ro (by decide) rfl hty (Nat.le_of_ble_eq_true rfl) ?_
  intro p e s m args below meth c0 A hC hr hlk hnm hF
  have hFt : vx_Ft y_Rq_init.cls (yw y_Rq_init b_Rq_init 1 none) cls cty ft_Rq := ft_of (fun w h => List.mem_cons_of_mem _ h) fl_Rq_in ft_Rq_b
  have hini : true = true → meth.name = "<init>" := fun _ => hnm
  refine vx_go hC hFt hini (vx_ends hC hr hlk) jc_Rq_init 0 (by decide) rfl ?_
  refine sx_obj hC wl_Rq_3 (by decide) (Nat.le_of_ble_eq_true rfl) ?_
  refine And.intro rfl (And.intro (And.intro rfl rfl) ?_)
  refine sx_mnew hC wk_Rq_15 hF wa_int htA ⟨by decide, by decide⟩ (fun t => ?_)
  refine And.intro rfl (And.intro (And.intro rfl rfl) ?_)
  refine sx_newI hC (y := 0) (N := 8) (by decide) rfl wa_int rfl (fun z => z) rfl (by decide) (by decide) ⟨by decide, by decide⟩ (fun za => ?_)
  refine And.intro rfl (And.intro (And.intro rfl rfl) ?_)
  refine And.intro (trivial) (And.intro ?_ (And.intro (Nat.le_of_ble_eq_true rfl) (Nat.le_of_ble_eq_true rfl)))
  exact ⟨rfl, t, za, rfl⟩
/-- the seconds that a desk takes as now -/
def nowN (nw : Int32) : Nat := if 4102444799 < nw.toBitVec.toNat then 0 else nw.toBitVec.toNat
theorem nowN_le (nw : Int32) : nowN nw ≤ 4102444799 := by
  unfold nowN
  split <;> omega
theorem now_and (nw : Int32) : nw.toInt64 &&& 4294967295 = lN nw.toBitVec.toNat := by
  apply Int64.toBitVec_inj.mp
  rw [Int64.toBitVec_and, Int32.toBitVec_toInt64]
  show BitVec.signExtend 64 nw.toBitVec &&& BitVec.ofNat 64 4294967295 = BitVec.ofNat 64 nw.toBitVec.toNat
  apply BitVec.eq_of_getLsbD_eq
  intro i hi
  rw [BitVec.getLsbD_and, BitVec.getLsbD_signExtend, BitVec.getLsbD_ofNat, BitVec.getLsbD_ofNat, show 4294967295 = 2 ^ 32 - 1 from rfl, Nat.testBit_two_pow_sub_one]
  by_cases h : i < 32
  · simp [h, hi, BitVec.getLsbD]
  · have h2 : nw.toBitVec.toNat.testBit i = false := Nat.testBit_lt_two_pow (Nat.lt_of_lt_of_le nw.toBitVec.isLt (Nat.pow_le_pow_right (by decide) (by omega)))
    simp [h, h2]
/-- the cells of a new desk, in the order of their making -/
def dkN (tc : Nat → ClassId) (tcA tcR : ClassId) (b ro : Nat → Nat) (ly v : Nat) : va_W := [dkC b (nI 0), (b 1, .inl (tcR, 4, .inr (.inr (.inr (.inr (fun _ => none)))))), (b 2, .inr (5, [.int 0, .ref (b 24), .ref (b 23)])), (b 24, .inl (tcA, 8, .inr (.inr (.inr (.inr (fun G => some (ro G))))))), (ro 0, .inl (tc 0, 96, .inl (fun _ => 0))), (ro 1, .inl (tc 0, 96, .inl (fun _ => 0))), (ro 2, .inl (tc 0, 96, .inl (fun _ => 0))), (ro 3, .inl (tc 0, 96, .inl (fun _ => 0))), (ro 4, .inl (tc 0, 96, .inl (fun _ => 0))), (ro 5, .inl (tc 0, 96, .inl (fun _ => 0))), (ro 6, .inl (tc 0, 96, .inl (fun _ => 0))), (ro 7, .inl (tc 0, 96, .inl (fun _ => 0))), (b 23, .inl (tc 0, 8, .inl (fun _ => 0))), (b 3, .inr (0, [.ref (b 30), .int 0, .int 0, .ref (b 13), .int 0, .int 0, .int 0, .int 0, .int 0, .int 0])), (b 30, .inl (tc 0, 0, .inl (fun _ => 0))), (b 13, .inl (tc 0, 96, .inl (fun _ => 0))), (b 4, .inr (1, [.ref (b 31), .int 0, .int 0, .ref (b 14), .int 0, .int 0, .int 0])), (b 31, .inl (tc 0, 0, .inl (fun _ => 0))), (b 14, .inl (tc 0, 96, .inl (fun _ => 0))), (b 5, .inr (2, [.ref (b 32), .int 0, .int 0, .ref (b 15), .int 0, .int 0, .int 0, .int 0])), (b 32, .inl (tc 0, 0, .inl (fun _ => 0))), (b 15, .inl (tc 0, 96, .inl (fun _ => 0))), (b 7, .inr (4, [.ref (b 34), .int 0, .int 0, .ref (b 17), .int 0, .ref (b 18), .ref (b 19), .int 0, .int 0])), (b 34, .inl (tc 0, 0, .inl (fun _ => 0))), (b 17, .inl (tc 0, 96, .inl (fun _ => 0))), (b 18, .inl (tc 0, 4, .inl (fun _ => 0))), (b 19, .inl (tc 0, 4, .inl (fun _ => 0))), (b 8, .inr (6, [.int (-1), .null, .int 0, .int 0, .ref (b 20), .ref (b 21), .int 0, .ref (b 22)])), (b 20, .inl (tc 0, 4, .inl (fun _ => 0))), (b 21, .inl (tc 0, 4, .inl (fun _ => 0)))] ++ sbW tc (b 22) v 0 0 16 (fun _ => 0) ++ [(b 6, .inr (3, [.ref (b 33), .int 0, .int 0, .ref (b 16), .int 0, .int (nI ly), .int 0, .int 0, .int 0, .int 0])), (b 33, .inl (tc 0, 0, .inl (fun _ => 0))), (b 16, .inl (tc 0, 96, .inl (fun _ => 0)))]
theorem le_now {nw : Int32} (h : lg_cmp (nw.toInt64 &&& 4294967295) 4102444799 ≤ 0) : nw.toBitVec.toNat ≤ 4102444799 := by
  rw [now_and] at h
  refine Nat.le_of_not_lt (fun z => absurd h (Int32.not_le.mpr (lc_gt.mpr ?_)))
  exact (lW_lt (a := 4102444799) (by decide) (by have := nw.toBitVec.isLt; omega)).mpr z
theorem now_le {nw : Int32} (h : nw.toBitVec.toNat ≤ 4102444799) : lg_cmp (nw.toInt64 &&& 4294967295) 4102444799 ≤ 0 := by
  rw [now_and]
  refine Int32.not_lt.mp (fun z => ?_)
  have h2 := (lW_lt (a := 4102444799) (b := nw.toBitVec.toNat) (by decide) (by have := nw.toBitVec.isLt; omega)).mp (lc_gt.mp z)
  omega
set_option maxRecDepth 100000 in
set_option maxHeartbeats 4000000 in
theorem c_Dk_init (l : Launch) (D : va_G) (tys : List (ClassId × FieldType)) (tc : Nat → ClassId) (hty : ∀ i : Nat, i < 4 → tys[i]? = some (tc i, vx_ty i)) (h : Nat) (nw : Int32) (tcA tcR : ClassId) (htA : tys[5]? = some (tcA, .array .int)) (htR : tys[4]? = some (tcR, .object "OriginDesk$Representation")) : Kt l y_Dk_init (yw y_Dk_init b_Dk_init 4 none) 4 101 40 2000 D cls tys (fun A U H => nkF A U H ∧ csF A U H ∧ arF A U H ∧ aoF A U H) [.ref h, .int nw] [(h, .inr (8, [.null, .int 0, .null, .null, .null, .null, .null, .null, .null]))] (fun r w => r = none ∧ ∃ (b ro : Nat → Nat) (v : Nat), b 0 = h ∧ w = dkN tc tcA tcR b ro (yrN (nowN nw) + 50) v) := by
  refine Kt.of (ro_and nkF_ro (ro_and csF_ro (ro_and arF_ro aoF_ro))) (by decide) rfl hty (Nat.le_of_ble_eq_true rfl) ?_
  intro p e s m args below meth c0 A hC hr hlk hnm hF
  have hFt : vx_Ft y_Dk_init.cls (yw y_Dk_init b_Dk_init 4 none) cls cty ft_Dk := ft_of (fun w h => List.mem_cons_of_mem _ h) fl_Dk_in ft_Dk_b
  have hini : true = true → meth.name = "<init>" := fun _ => hnm
  refine vx_go hC hFt hini (vx_ends hC hr hlk) jc_Dk_init 0 (by decide) rfl ?_
  refine sx_obj hC wl_Dk_1 (by decide) (Nat.le_of_ble_eq_true rfl) ?_
  refine sx_anew hC wk_Dk_9 hF.2.2.1 htR (N := 4) rfl (by decide) ⟨by decide, by decide⟩ (fun sh => ?_)
  refine And.intro rfl (And.intro (And.intro rfl rfl) ?_)
  refine sx_new hC (ci := 5) rfl wk_Dk_15 wn_Rq wz_Rq (fs := [.int 0, .null, .null]) (fun j hj => by rcases (show j = 0 ∨ j = 1 ∨ j = 2 by omega) with rfl | rfl | rfl <;> rfl) ⟨by decide, by decide⟩ (fun q => ?_)
  refine And.intro rfl ?_
  refine sx_callIN (wr := [(h, .inr (8, [.ref sh, .int 0, .null, .null, .null, .null, .null, .null, .null])), (sh, .inl (tcR, 4, .inr (.inr (.inr (.inr (fun _ => none))))))]) (wc := [(q, .inr (5, [.int 0, .null, .null]))]) hC (c_Rq_init l D tys tc hty q tcA htA) (hF.1 5 _ rfl) wm_Rq_init wi_Rq_init rfl ⟨by decide, by decide⟩ [2] [0, 1] rfl rfl rfl rfl (by decide) (vx_ro (wc := [(q, .inr (5, [.int 0, .null, .null]))]) aoF_ro hC.2.2.2.2.2.2.1 hF.2.2.2 [2] rfl) rfl rfl (Nat.le_of_ble_eq_true rfl) ⟨by decide, by decide⟩ (fun r' w' hp => ?_)
  obtain ⟨rfl, t24, z23, rfl⟩ := hp
  refine And.intro rfl (And.intro (And.intro rfl rfl) ?_)
  refine sx_new hC (ci := 0) rfl wk_Dk_22 wn_Ac wz_Ac (fs := [.null, .int 0, .int 0, .null, .int 0, .int 0, .int 0, .int 0, .int 0, .int 0]) (fun j hj => by rcases (show j = 0 ∨ j = 1 ∨ j = 2 ∨ j = 3 ∨ j = 4 ∨ j = 5 ∨ j = 6 ∨ j = 7 ∨ j = 8 ∨ j = 9 by omega) with rfl | rfl | rfl | rfl | rfl | rfl | rfl | rfl | rfl | rfl <;> rfl) ⟨by decide, by decide⟩ (fun x3 => ?_)
  refine And.intro rfl ?_
  refine sx_callIN (wr := [(h, .inr (8, [.ref sh, .int 0, .ref q, .null, .null, .null, .null, .null, .null])), (sh, .inl (tcR, 4, .inr (.inr (.inr (.inr (fun _ => none)))))), (q, .inr (5, [.int 0, .ref t24, .ref z23])), (t24, .inl (tcA, 8, .inr (.inr (.inr (.inr (fun G => some (t24 + 1 + G))))))), (t24 + 1 + 0, .inl (tc 0, 96, .inl (fun _ => 0))), (t24 + 1 + 1, .inl (tc 0, 96, .inl (fun _ => 0))), (t24 + 1 + 2, .inl (tc 0, 96, .inl (fun _ => 0))), (t24 + 1 + 3, .inl (tc 0, 96, .inl (fun _ => 0))), (t24 + 1 + 4, .inl (tc 0, 96, .inl (fun _ => 0))), (t24 + 1 + 5, .inl (tc 0, 96, .inl (fun _ => 0))), (t24 + 1 + 6, .inl (tc 0, 96, .inl (fun _ => 0))), (t24 + 1 + 7, .inl (tc 0, 96, .inl (fun _ => 0))), (z23, .inl (tc 0, 8, .inl (fun _ => 0)))]) (wc := [(x3, .inr (0, [.null, .int 0, .int 0, .null, .int 0, .int 0, .int 0, .int 0, .int 0, .int 0]))]) hC (c_Ac_init l D tys tc hty x3) (hF.1 6 _ rfl) wm_Ac_init wi_Ac_init rfl ⟨by decide, by decide⟩ [13] [0, 1, 2, 3, 4, 5, 6, 7, 8, 9, 10, 11, 12] rfl rfl rfl rfl (by decide) (vx_ro (wc := [(x3, .inr (0, [.null, .int 0, .int 0, .null, .int 0, .int 0, .int 0, .int 0, .int 0, .int 0]))]) nkF_ro hC.2.2.2.2.2.2.1 hF.1 [13] rfl) rfl rfl (Nat.le_of_ble_eq_true rfl) ⟨by decide, by decide⟩ (fun r' w' hp => ?_)
  obtain ⟨rfl, rx3, sx3, rfl⟩ := hp
  refine And.intro rfl (And.intro (And.intro rfl rfl) ?_)
  refine sx_new hC (ci := 1) rfl wk_Dk_29 wn_La wz_La (fs := [.null, .int 0, .int 0, .null, .int 0, .int 0, .int 0]) (fun j hj => by rcases (show j = 0 ∨ j = 1 ∨ j = 2 ∨ j = 3 ∨ j = 4 ∨ j = 5 ∨ j = 6 by omega) with rfl | rfl | rfl | rfl | rfl | rfl | rfl <;> rfl) ⟨by decide, by decide⟩ (fun x4 => ?_)
  refine And.intro rfl ?_
  refine sx_callIN (wr := [(h, .inr (8, [.ref sh, .int 0, .ref q, .ref x3, .null, .null, .null, .null, .null])), (sh, .inl (tcR, 4, .inr (.inr (.inr (.inr (fun _ => none)))))), (q, .inr (5, [.int 0, .ref t24, .ref z23])), (t24, .inl (tcA, 8, .inr (.inr (.inr (.inr (fun G => some (t24 + 1 + G))))))), (t24 + 1 + 0, .inl (tc 0, 96, .inl (fun _ => 0))), (t24 + 1 + 1, .inl (tc 0, 96, .inl (fun _ => 0))), (t24 + 1 + 2, .inl (tc 0, 96, .inl (fun _ => 0))), (t24 + 1 + 3, .inl (tc 0, 96, .inl (fun _ => 0))), (t24 + 1 + 4, .inl (tc 0, 96, .inl (fun _ => 0))), (t24 + 1 + 5, .inl (tc 0, 96, .inl (fun _ => 0))), (t24 + 1 + 6, .inl (tc 0, 96, .inl (fun _ => 0))), (t24 + 1 + 7, .inl (tc 0, 96, .inl (fun _ => 0))), (z23, .inl (tc 0, 8, .inl (fun _ => 0))), (x3, .inr (0, [.ref rx3, .int 0, .int 0, .ref sx3, .int 0, .int 0, .int 0, .int 0, .int 0, .int 0])), (rx3, .inl (tc 0, 0, .inl (fun _ => 0))), (sx3, .inl (tc 0, 96, .inl (fun _ => 0)))]) (wc := [(x4, .inr (1, [.null, .int 0, .int 0, .null, .int 0, .int 0, .int 0]))]) hC (c_La_init l D tys tc hty x4) (hF.1 7 _ rfl) wm_La_init wi_La_init rfl ⟨by decide, by decide⟩ [16] [0, 1, 2, 3, 4, 5, 6, 7, 8, 9, 10, 11, 12, 13, 14, 15] rfl rfl rfl rfl (by decide) (vx_ro (wc := [(x4, .inr (1, [.null, .int 0, .int 0, .null, .int 0, .int 0, .int 0]))]) nkF_ro hC.2.2.2.2.2.2.1 hF.1 [16] rfl) rfl rfl (Nat.le_of_ble_eq_true rfl) ⟨by decide, by decide⟩ (fun r' w' hp => ?_)
  obtain ⟨rfl, rx4, sx4, rfl⟩ := hp
  refine And.intro rfl (And.intro (And.intro rfl rfl) ?_)
  refine sx_new hC (ci := 2) rfl wk_Dk_36 wn_Tg wz_Tg (fs := [.null, .int 0, .int 0, .null, .int 0, .int 0, .int 0, .int 0]) (fun j hj => by rcases (show j = 0 ∨ j = 1 ∨ j = 2 ∨ j = 3 ∨ j = 4 ∨ j = 5 ∨ j = 6 ∨ j = 7 by omega) with rfl | rfl | rfl | rfl | rfl | rfl | rfl | rfl <;> rfl) ⟨by decide, by decide⟩ (fun x5 => ?_)
  refine And.intro rfl ?_
  refine sx_callIN (wr := [(h, .inr (8, [.ref sh, .int 0, .ref q, .ref x3, .ref x4, .null, .null, .null, .null])), (sh, .inl (tcR, 4, .inr (.inr (.inr (.inr (fun _ => none)))))), (q, .inr (5, [.int 0, .ref t24, .ref z23])), (t24, .inl (tcA, 8, .inr (.inr (.inr (.inr (fun G => some (t24 + 1 + G))))))), (t24 + 1 + 0, .inl (tc 0, 96, .inl (fun _ => 0))), (t24 + 1 + 1, .inl (tc 0, 96, .inl (fun _ => 0))), (t24 + 1 + 2, .inl (tc 0, 96, .inl (fun _ => 0))), (t24 + 1 + 3, .inl (tc 0, 96, .inl (fun _ => 0))), (t24 + 1 + 4, .inl (tc 0, 96, .inl (fun _ => 0))), (t24 + 1 + 5, .inl (tc 0, 96, .inl (fun _ => 0))), (t24 + 1 + 6, .inl (tc 0, 96, .inl (fun _ => 0))), (t24 + 1 + 7, .inl (tc 0, 96, .inl (fun _ => 0))), (z23, .inl (tc 0, 8, .inl (fun _ => 0))), (x3, .inr (0, [.ref rx3, .int 0, .int 0, .ref sx3, .int 0, .int 0, .int 0, .int 0, .int 0, .int 0])), (rx3, .inl (tc 0, 0, .inl (fun _ => 0))), (sx3, .inl (tc 0, 96, .inl (fun _ => 0))), (x4, .inr (1, [.ref rx4, .int 0, .int 0, .ref sx4, .int 0, .int 0, .int 0])), (rx4, .inl (tc 0, 0, .inl (fun _ => 0))), (sx4, .inl (tc 0, 96, .inl (fun _ => 0)))]) (wc := [(x5, .inr (2, [.null, .int 0, .int 0, .null, .int 0, .int 0, .int 0, .int 0]))]) hC (c_Tg_init l D tys tc hty x5) (hF.1 8 _ rfl) wm_Tg_init wi_Tg_init rfl ⟨by decide, by decide⟩ [19] [0, 1, 2, 3, 4, 5, 6, 7, 8, 9, 10, 11, 12, 13, 14, 15, 16, 17, 18] rfl rfl rfl rfl (by decide) (vx_ro (wc := [(x5, .inr (2, [.null, .int 0, .int 0, .null, .int 0, .int 0, .int 0, .int 0]))]) nkF_ro hC.2.2.2.2.2.2.1 hF.1 [19] rfl) rfl rfl (Nat.le_of_ble_eq_true rfl) ⟨by decide, by decide⟩ (fun r' w' hp => ?_)
  obtain ⟨rfl, rx5, sx5, rfl⟩ := hp
  refine And.intro rfl (And.intro (And.intro rfl rfl) ?_)
  refine sx_new hC (ci := 4) rfl wk_Dk_43 wn_Ra wz_Ra (fs := [.null, .int 0, .int 0, .null, .int 0, .null, .null, .int 0, .int 0]) (fun j hj => by rcases (show j = 0 ∨ j = 1 ∨ j = 2 ∨ j = 3 ∨ j = 4 ∨ j = 5 ∨ j = 6 ∨ j = 7 ∨ j = 8 by omega) with rfl | rfl | rfl | rfl | rfl | rfl | rfl | rfl | rfl <;> rfl) ⟨by decide, by decide⟩ (fun x7 => ?_)
  refine And.intro rfl ?_
  refine sx_callIN (wr := [(h, .inr (8, [.ref sh, .int 0, .ref q, .ref x3, .ref x4, .ref x5, .null, .null, .null])), (sh, .inl (tcR, 4, .inr (.inr (.inr (.inr (fun _ => none)))))), (q, .inr (5, [.int 0, .ref t24, .ref z23])), (t24, .inl (tcA, 8, .inr (.inr (.inr (.inr (fun G => some (t24 + 1 + G))))))), (t24 + 1 + 0, .inl (tc 0, 96, .inl (fun _ => 0))), (t24 + 1 + 1, .inl (tc 0, 96, .inl (fun _ => 0))), (t24 + 1 + 2, .inl (tc 0, 96, .inl (fun _ => 0))), (t24 + 1 + 3, .inl (tc 0, 96, .inl (fun _ => 0))), (t24 + 1 + 4, .inl (tc 0, 96, .inl (fun _ => 0))), (t24 + 1 + 5, .inl (tc 0, 96, .inl (fun _ => 0))), (t24 + 1 + 6, .inl (tc 0, 96, .inl (fun _ => 0))), (t24 + 1 + 7, .inl (tc 0, 96, .inl (fun _ => 0))), (z23, .inl (tc 0, 8, .inl (fun _ => 0))), (x3, .inr (0, [.ref rx3, .int 0, .int 0, .ref sx3, .int 0, .int 0, .int 0, .int 0, .int 0, .int 0])), (rx3, .inl (tc 0, 0, .inl (fun _ => 0))), (sx3, .inl (tc 0, 96, .inl (fun _ => 0))), (x4, .inr (1, [.ref rx4, .int 0, .int 0, .ref sx4, .int 0, .int 0, .int 0])), (rx4, .inl (tc 0, 0, .inl (fun _ => 0))), (sx4, .inl (tc 0, 96, .inl (fun _ => 0))), (x5, .inr (2, [.ref rx5, .int 0, .int 0, .ref sx5, .int 0, .int 0, .int 0, .int 0])), (rx5, .inl (tc 0, 0, .inl (fun _ => 0))), (sx5, .inl (tc 0, 96, .inl (fun _ => 0)))]) (wc := [(x7, .inr (4, [.null, .int 0, .int 0, .null, .int 0, .null, .null, .int 0, .int 0]))]) hC (c_Ra_init l D tys tc hty x7) (hF.1 9 _ rfl) wm_Ra_init wi_Ra_init rfl ⟨by decide, by decide⟩ [22] [0, 1, 2, 3, 4, 5, 6, 7, 8, 9, 10, 11, 12, 13, 14, 15, 16, 17, 18, 19, 20, 21] rfl rfl rfl rfl (by decide) (vx_ro (wc := [(x7, .inr (4, [.null, .int 0, .int 0, .null, .int 0, .null, .null, .int 0, .int 0]))]) nkF_ro hC.2.2.2.2.2.2.1 hF.1 [22] rfl) rfl rfl (Nat.le_of_ble_eq_true rfl) ⟨by decide, by decide⟩ (fun r' w' hp => ?_)
  obtain ⟨rfl, rx7, sx7, f18, f19, rfl⟩ := hp
  refine And.intro rfl (And.intro (And.intro rfl rfl) ?_)
  refine sx_new hC (ci := 6) rfl wk_Dk_50 wn_Rs wz_Rs (fs := [.int 0, .null, .int 0, .int 0, .null, .null, .int 0, .null]) (fun j hj => by rcases (show j = 0 ∨ j = 1 ∨ j = 2 ∨ j = 3 ∨ j = 4 ∨ j = 5 ∨ j = 6 ∨ j = 7 by omega) with rfl | rfl | rfl | rfl | rfl | rfl | rfl | rfl <;> rfl) ⟨by decide, by decide⟩ (fun x8 => ?_)
  refine And.intro rfl ?_
  refine sx_callIN (wr := [(h, .inr (8, [.ref sh, .int 0, .ref q, .ref x3, .ref x4, .ref x5, .null, .ref x7, .null])), (sh, .inl (tcR, 4, .inr (.inr (.inr (.inr (fun _ => none)))))), (q, .inr (5, [.int 0, .ref t24, .ref z23])), (t24, .inl (tcA, 8, .inr (.inr (.inr (.inr (fun G => some (t24 + 1 + G))))))), (t24 + 1 + 0, .inl (tc 0, 96, .inl (fun _ => 0))), (t24 + 1 + 1, .inl (tc 0, 96, .inl (fun _ => 0))), (t24 + 1 + 2, .inl (tc 0, 96, .inl (fun _ => 0))), (t24 + 1 + 3, .inl (tc 0, 96, .inl (fun _ => 0))), (t24 + 1 + 4, .inl (tc 0, 96, .inl (fun _ => 0))), (t24 + 1 + 5, .inl (tc 0, 96, .inl (fun _ => 0))), (t24 + 1 + 6, .inl (tc 0, 96, .inl (fun _ => 0))), (t24 + 1 + 7, .inl (tc 0, 96, .inl (fun _ => 0))), (z23, .inl (tc 0, 8, .inl (fun _ => 0))), (x3, .inr (0, [.ref rx3, .int 0, .int 0, .ref sx3, .int 0, .int 0, .int 0, .int 0, .int 0, .int 0])), (rx3, .inl (tc 0, 0, .inl (fun _ => 0))), (sx3, .inl (tc 0, 96, .inl (fun _ => 0))), (x4, .inr (1, [.ref rx4, .int 0, .int 0, .ref sx4, .int 0, .int 0, .int 0])), (rx4, .inl (tc 0, 0, .inl (fun _ => 0))), (sx4, .inl (tc 0, 96, .inl (fun _ => 0))), (x5, .inr (2, [.ref rx5, .int 0, .int 0, .ref sx5, .int 0, .int 0, .int 0, .int 0])), (rx5, .inl (tc 0, 0, .inl (fun _ => 0))), (sx5, .inl (tc 0, 96, .inl (fun _ => 0))), (x7, .inr (4, [.ref rx7, .int 0, .int 0, .ref sx7, .int 0, .ref f18, .ref f19, .int 0, .int 0])), (rx7, .inl (tc 0, 0, .inl (fun _ => 0))), (sx7, .inl (tc 0, 96, .inl (fun _ => 0))), (f18, .inl (tc 0, 4, .inl (fun _ => 0))), (f19, .inl (tc 0, 4, .inl (fun _ => 0)))]) (wc := [(x8, .inr (6, [.int 0, .null, .int 0, .int 0, .null, .null, .int 0, .null]))]) hC (c_Rs_init l D tys tc hty x8) (hF.1 10 _ rfl) wm_Rs_init wi_Rs_init rfl ⟨by decide, by decide⟩ [27] [0, 1, 2, 3, 4, 5, 6, 7, 8, 9, 10, 11, 12, 13, 14, 15, 16, 17, 18, 19, 20, 21, 22, 23, 24, 25, 26] rfl rfl rfl rfl (by decide) (vx_ro (wc := [(x8, .inr (6, [.int 0, .null, .int 0, .int 0, .null, .null, .int 0, .null]))]) csF_ro hC.2.2.2.2.2.2.1 hF.2.1 [27] rfl) rfl rfl (Nat.le_of_ble_eq_true rfl) ⟨by decide, by decide⟩ (fun r' w' hp => ?_)
  obtain ⟨rfl, f20, f21, h22, v9, rfl⟩ := hp
  refine And.intro rfl (And.intro (And.intro rfl rfl) ?_)
  refine And.intro (Or.inr (Or.inl ⟨_, rfl, hC.2.2.2.2.1 _ (List.mem_cons_of_mem _ wc_Dk_57)⟩)) ?_
  refine sx_new hC (ci := 3) rfl wk_Dk_59 wn_Da wz_Da (fs := [.null, .int 0, .int 0, .null, .int 0, .int 0, .int 0, .int 0, .int 0, .int 0]) (fun j hj => by rcases (show j = 0 ∨ j = 1 ∨ j = 2 ∨ j = 3 ∨ j = 4 ∨ j = 5 ∨ j = 6 ∨ j = 7 ∨ j = 8 ∨ j = 9 by omega) with rfl | rfl | rfl | rfl | rfl | rfl | rfl | rfl | rfl | rfl <;> rfl) ⟨by decide, by decide⟩ (fun x6 => ?_)
  refine And.intro rfl ?_
  refine And.intro (Or.inr (Or.inl ⟨_, rfl, hC.2.2.2.2.1 _ (List.mem_cons_of_mem _ wc_Dk_61)⟩)) ?_
  refine And.intro (fun c47 => ?_) (fun c47 => ?_)
  · skip
    have c47 : nw.toBitVec.toNat ≤ 4102444799 := le_now c47
    refine vx_go hC hFt hini (vx_ends hC hr hlk) jc_Dk_init 50 (by decide) rfl ?_
    refine sx_callI (wr := [(h, .inr (8, [.ref sh, .int 0, .ref q, .ref x3, .ref x4, .ref x5, .null, .ref x7, .ref x8])), (sh, .inl (tcR, 4, .inr (.inr (.inr (.inr (fun _ => none)))))), (q, .inr (5, [.int 0, .ref t24, .ref z23])), (t24, .inl (tcA, 8, .inr (.inr (.inr (.inr (fun G => some (t24 + 1 + G))))))), (t24 + 1 + 0, .inl (tc 0, 96, .inl (fun _ => 0))), (t24 + 1 + 1, .inl (tc 0, 96, .inl (fun _ => 0))), (t24 + 1 + 2, .inl (tc 0, 96, .inl (fun _ => 0))), (t24 + 1 + 3, .inl (tc 0, 96, .inl (fun _ => 0))), (t24 + 1 + 4, .inl (tc 0, 96, .inl (fun _ => 0))), (t24 + 1 + 5, .inl (tc 0, 96, .inl (fun _ => 0))), (t24 + 1 + 6, .inl (tc 0, 96, .inl (fun _ => 0))), (t24 + 1 + 7, .inl (tc 0, 96, .inl (fun _ => 0))), (z23, .inl (tc 0, 8, .inl (fun _ => 0))), (x3, .inr (0, [.ref rx3, .int 0, .int 0, .ref sx3, .int 0, .int 0, .int 0, .int 0, .int 0, .int 0])), (rx3, .inl (tc 0, 0, .inl (fun _ => 0))), (sx3, .inl (tc 0, 96, .inl (fun _ => 0))), (x4, .inr (1, [.ref rx4, .int 0, .int 0, .ref sx4, .int 0, .int 0, .int 0])), (rx4, .inl (tc 0, 0, .inl (fun _ => 0))), (sx4, .inl (tc 0, 96, .inl (fun _ => 0))), (x5, .inr (2, [.ref rx5, .int 0, .int 0, .ref sx5, .int 0, .int 0, .int 0, .int 0])), (rx5, .inl (tc 0, 0, .inl (fun _ => 0))), (sx5, .inl (tc 0, 96, .inl (fun _ => 0))), (x7, .inr (4, [.ref rx7, .int 0, .int 0, .ref sx7, .int 0, .ref f18, .ref f19, .int 0, .int 0])), (rx7, .inl (tc 0, 0, .inl (fun _ => 0))), (sx7, .inl (tc 0, 96, .inl (fun _ => 0))), (f18, .inl (tc 0, 4, .inl (fun _ => 0))), (f19, .inl (tc 0, 4, .inl (fun _ => 0))), (x8, .inr (6, [.int (-1), .null, .int 0, .int 0, .ref f20, .ref f21, .int 0, .ref h22])), (f20, .inl (tc 0, 4, .inl (fun _ => 0))), (f21, .inl (tc 0, 4, .inl (fun _ => 0))), (h22, .inr (11, [.ref v9, .int 0, .int 0, .int (nI 0)])), (v9, .inl (tc 1, 16, .inl (fun _ => 0)))]) (wc := [(x6, .inr (3, [.null, .int 0, .int 0, .null, .int 0, .int 0, .int 0, .int 0, .int 0, .int 0]))]) hC (c_Da_init l D tys tc hty x6 nw.toBitVec.toNat c47) (cw_I2 wm_Da_init wl_Dk_63 wi_Da_init rfl hC.2.2.2.2.1 ⟨by decide, by decide⟩) [32] [0, 1, 2, 3, 4, 5, 6, 7, 8, 9, 10, 11, 12, 13, 14, 15, 16, 17, 18, 19, 20, 21, 22, 23, 24, 25, 26, 27, 28, 29, 30, 31] rfl rfl rfl rfl (by decide) (vx_ro (wc := [(x6, .inr (3, [.null, .int 0, .int 0, .null, .int 0, .int 0, .int 0, .int 0, .int 0, .int 0]))]) nkF_ro hC.2.2.2.2.2.2.1 hF.1 [32] rfl) rfl (show [Value.long (nw.toInt64 &&& 4294967295), Value.ref x6, Value.ref x6, Value.ref h] = [Value.long (lN nw.toBitVec.toNat), Value.ref x6, Value.ref x6, Value.ref h] by rw [now_and]) (Nat.le_of_ble_eq_true rfl) ⟨by decide, by decide⟩ (fun r' w' hp => ?_)
    obtain ⟨rfl, rx6, sx6, rfl⟩ := hp
    refine And.intro rfl (And.intro (And.intro rfl rfl) ?_)
    refine And.intro (trivial) (And.intro ?_ (And.intro (Nat.le_of_ble_eq_true rfl) (Nat.le_of_ble_eq_true rfl)))
    rw [show nowN nw = _ from if_neg (by omega)]
    exact ⟨rfl, fun i => ([h, sh, q, x3, x4, x5, x6, x7, x8, 0, 0, 0, 0, sx3, sx4, sx5, sx6, sx7, f18, f19, f20, f21, h22, z23, t24, 0, 0, 0, 0, 0, rx3, rx4, rx5, rx6, rx7] : List Nat).getD i 0, fun G => t24 + 1 + G, v9, rfl, rfl⟩
  · skip
    have c47 : ¬ nw.toBitVec.toNat ≤ 4102444799 := fun z => c47 (now_le z)
    refine vx_go hC hFt hini (vx_ends hC hr hlk) jc_Dk_init 51 (by decide) rfl ?_
    refine sx_callI (wr := [(h, .inr (8, [.ref sh, .int 0, .ref q, .ref x3, .ref x4, .ref x5, .null, .ref x7, .ref x8])), (sh, .inl (tcR, 4, .inr (.inr (.inr (.inr (fun _ => none)))))), (q, .inr (5, [.int 0, .ref t24, .ref z23])), (t24, .inl (tcA, 8, .inr (.inr (.inr (.inr (fun G => some (t24 + 1 + G))))))), (t24 + 1 + 0, .inl (tc 0, 96, .inl (fun _ => 0))), (t24 + 1 + 1, .inl (tc 0, 96, .inl (fun _ => 0))), (t24 + 1 + 2, .inl (tc 0, 96, .inl (fun _ => 0))), (t24 + 1 + 3, .inl (tc 0, 96, .inl (fun _ => 0))), (t24 + 1 + 4, .inl (tc 0, 96, .inl (fun _ => 0))), (t24 + 1 + 5, .inl (tc 0, 96, .inl (fun _ => 0))), (t24 + 1 + 6, .inl (tc 0, 96, .inl (fun _ => 0))), (t24 + 1 + 7, .inl (tc 0, 96, .inl (fun _ => 0))), (z23, .inl (tc 0, 8, .inl (fun _ => 0))), (x3, .inr (0, [.ref rx3, .int 0, .int 0, .ref sx3, .int 0, .int 0, .int 0, .int 0, .int 0, .int 0])), (rx3, .inl (tc 0, 0, .inl (fun _ => 0))), (sx3, .inl (tc 0, 96, .inl (fun _ => 0))), (x4, .inr (1, [.ref rx4, .int 0, .int 0, .ref sx4, .int 0, .int 0, .int 0])), (rx4, .inl (tc 0, 0, .inl (fun _ => 0))), (sx4, .inl (tc 0, 96, .inl (fun _ => 0))), (x5, .inr (2, [.ref rx5, .int 0, .int 0, .ref sx5, .int 0, .int 0, .int 0, .int 0])), (rx5, .inl (tc 0, 0, .inl (fun _ => 0))), (sx5, .inl (tc 0, 96, .inl (fun _ => 0))), (x7, .inr (4, [.ref rx7, .int 0, .int 0, .ref sx7, .int 0, .ref f18, .ref f19, .int 0, .int 0])), (rx7, .inl (tc 0, 0, .inl (fun _ => 0))), (sx7, .inl (tc 0, 96, .inl (fun _ => 0))), (f18, .inl (tc 0, 4, .inl (fun _ => 0))), (f19, .inl (tc 0, 4, .inl (fun _ => 0))), (x8, .inr (6, [.int (-1), .null, .int 0, .int 0, .ref f20, .ref f21, .int 0, .ref h22])), (f20, .inl (tc 0, 4, .inl (fun _ => 0))), (f21, .inl (tc 0, 4, .inl (fun _ => 0))), (h22, .inr (11, [.ref v9, .int 0, .int 0, .int (nI 0)])), (v9, .inl (tc 1, 16, .inl (fun _ => 0)))]) (wc := [(x6, .inr (3, [.null, .int 0, .int 0, .null, .int 0, .int 0, .int 0, .int 0, .int 0, .int 0]))]) hC (c_Da_init l D tys tc hty x6 0 (by decide)) (cw_I2 wm_Da_init wl_Dk_63 wi_Da_init rfl hC.2.2.2.2.1 ⟨by decide, by decide⟩) [32] [0, 1, 2, 3, 4, 5, 6, 7, 8, 9, 10, 11, 12, 13, 14, 15, 16, 17, 18, 19, 20, 21, 22, 23, 24, 25, 26, 27, 28, 29, 30, 31] rfl rfl rfl rfl (by decide) (vx_ro (wc := [(x6, .inr (3, [.null, .int 0, .int 0, .null, .int 0, .int 0, .int 0, .int 0, .int 0, .int 0]))]) nkF_ro hC.2.2.2.2.2.2.1 hF.1 [32] rfl) rfl rfl (Nat.le_of_ble_eq_true rfl) ⟨by decide, by decide⟩ (fun r' w' hp => ?_)
    obtain ⟨rfl, rx6, sx6, rfl⟩ := hp
    refine And.intro rfl (And.intro (And.intro rfl rfl) ?_)
    refine And.intro (trivial) (And.intro ?_ (And.intro (Nat.le_of_ble_eq_true rfl) (Nat.le_of_ble_eq_true rfl)))
    rw [show nowN nw = _ from if_pos (by omega)]
    exact ⟨rfl, fun i => ([h, sh, q, x3, x4, x5, x6, x7, x8, 0, 0, 0, 0, sx3, sx4, sx5, sx6, sx7, f18, f19, f20, f21, h22, z23, t24, 0, 0, 0, 0, 0, rx3, rx4, rx5, rx6, rx7] : List Nat).getD i 0, fun G => t24 + 1 + G, v9, rfl, rfl⟩
