/-! THE REFERENCE: dates, by program (wip/whole/gen/p49.py) -/
theorem nI_ge0 {n : Nat} (h : n < 2 ^ 31) : (0 : Int32) ≤ nI n := nI_pos' h
def sb {α : Type} (b : Bool × List Nat) (f : List Nat → Option α) : Option α := if b.1 = true then f b.2 else none
def sn {α : Type} (v : Option (Nat × List Nat)) (f : Nat → List Nat → Option α) : Option α := match v with
  | none => none
  | some u => f u.1 u.2
def dgO (k : Nat) (rs : List Nat) : Option (Nat × List Nat) := (dgs k 0 rs).1.map (fun v => (v, (dgs k 0 rs).2))
def zz (oy om od ot : Option Nat) (r : List Nat) : Option (Nat × List Nat) := (calO oy om od ot).map (fun t => (t, r))
/-- a date's forms, step by step -/
def dA6 (om od ot : Option Nat) (r : List Nat) : Option (Nat × List Nat) := sn (dgO 4 r) (fun y r => zz (some y) om od ot r)
def dA5 (om od ot : Option Nat) (r : List Nat) : Option (Nat × List Nat) := sb (pk 32 r) (dA6 om od ot)
def dA4 (om od : Option Nat) (r : List Nat) : Option (Nat × List Nat) := sn (clk r) (fun t r => dA5 om od (some t) r)
def dA3 (om od : Option Nat) (r : List Nat) : Option (Nat × List Nat) := sb (pk 32 r) (dA4 om od)
def dA2 (om : Option Nat) (r : List Nat) : Option (Nat × List Nat) := sn (pday r) (fun d r => dA3 om (some d) r)
def dA1 (om : Option Nat) (r : List Nat) : Option (Nat × List Nat) := sb (pk 32 r) (dA2 om)
def dA0 (r : List Nat) : Option (Nat × List Nat) := sn (nmO monL r) (fun k r => dA1 (some (k + 1)) r)
def spf (fu : Bool) : Nat := if fu = true then 45 else 32
def dE9 (oy om od ot : Option Nat) (r : List Nat) : Option (Nat × List Nat) := sb (tt gmtL r) (zz oy om od ot)
def dE8 (oy om od : Option Nat) (r : List Nat) : Option (Nat × List Nat) := sn (clk r) (fun t r => dE9 oy om od (some t) r)
def dE7 (om od oy : Option Nat) (r : List Nat) : Option (Nat × List Nat) := sb (pk 32 r) (dE8 oy om od)
def dE6 (ly : Nat) (fu : Bool) (om od : Option Nat) (r : List Nat) : Option (Nat × List Nat) := if fu = true then sn (dgO 2 r) (fun v r => dE7 om od (shv ly (some v)) r) else sn (dgO 4 r) (fun y r => dE7 om od (some y) r)
def dE5 (ly : Nat) (fu : Bool) (od om : Option Nat) (r : List Nat) : Option (Nat × List Nat) := sb (pk (spf fu) r) (dE6 ly fu om od)
def dE4 (ly : Nat) (fu : Bool) (od : Option Nat) (r : List Nat) : Option (Nat × List Nat) := sn (nmO monL r) (fun k r => dE5 ly fu od (some (k + 1)) r)
def dE3 (ly : Nat) (fu : Bool) (od : Option Nat) (r : List Nat) : Option (Nat × List Nat) := sb (pk (spf fu) r) (dE4 ly fu od)
def dE2 (ly : Nat) (fu : Bool) (r : List Nat) : Option (Nat × List Nat) := sn (dgO 2 r) (fun d r => dE3 ly fu (some d) r)
def dE1 (ly : Nat) (fu : Bool) (r : List Nat) : Option (Nat × List Nat) := sb (pk 44 r) (fun r => sb (pk 32 r) (dE2 ly fu))
/-- what stands behind the day's short name -/
def dtB (ly wd : Nat) (rs : List Nat) : Option (Nat × List Nat) := if (pk 32 rs).1 = true then dA0 (pk 32 rs).2 else if (pk 44 rs).1 = true then dE1 ly false rs else sb (tt (rstL wd) rs) (dE1 ly true)
/-- a field's date -/
def dtO (ly : Nat) (T : List Nat) : Option Nat := match nmO dayL (gp T) with
  | none => none
  | some u => match dtB ly u.1 u.2 with
    | none => none
    | some v => if gp v.2 = [] then some v.1 else none
theorem sn_nn {α : Type} {v : Option (Nat × List Nat)} : sn v (fun _ _ => (none : Option α)) = none := by cases v <;> rfl
theorem sb_nn {α : Type} {b : Bool × List Nat} : sb b (fun _ => (none : Option α)) = none := by unfold sb; split <;> rfl
theorem sn_e {α : Type} {v : Option (Nat × List Nat)} {f : Nat → List Nat → Option α} (h : ∀ x r, f x r = none) : sn v f = none := by cases v with
  | none => rfl
  | some u => exact h _ _
theorem sb_e {α : Type} {b : Bool × List Nat} {f : List Nat → Option α} (h : ∀ r, f r = none) : sb b f = none := by unfold sb; split; exact h _; rfl
theorem zz_y {om od ot : Option Nat} {r : List Nat} : zz none om od ot r = none := rfl
theorem zz_m {oy od ot : Option Nat} {r : List Nat} : zz oy none od ot r = none := by cases oy <;> rfl
theorem zz_d {oy om ot : Option Nat} {r : List Nat} : zz oy om none ot r = none := by cases oy <;> cases om <;> rfl
theorem zz_t {oy om od : Option Nat} {r : List Nat} : zz oy om od none r = none := by cases oy <;> cases om <;> cases od <;> rfl
theorem dA1_n {r : List Nat} : dA1 none r = none := sb_e (fun _ => sn_e (fun _ _ => sb_e (fun _ => sn_e (fun _ _ => sb_e (fun _ => sn_e (fun _ _ => zz_m))))))
theorem dA3_n {om : Option Nat} {r : List Nat} : dA3 om none r = none := sb_e (fun _ => sn_e (fun _ _ => sb_e (fun _ => sn_e (fun _ _ => zz_d))))
theorem dA5_n {om od : Option Nat} {r : List Nat} : dA5 om od none r = none := sb_e (fun _ => sn_e (fun _ _ => zz_t))
theorem dE9_n {oy om od : Option Nat} {r : List Nat} : dE9 oy om od none r = none := sb_e (fun _ => zz_t)
theorem dE7_n {om od : Option Nat} {r : List Nat} : dE7 om od none r = none := sb_e (fun _ => sn_e (fun _ _ => sb_e (fun _ => zz_y)))
theorem dE5_n {ly : Nat} {fu : Bool} {od : Option Nat} {r : List Nat} : dE5 ly fu od none r = none := sb_e (fun _ => by
  unfold dE6
  split
  · exact sn_e (fun _ _ => sb_e (fun _ => sn_e (fun _ _ => sb_e (fun _ => zz_m))))
  · exact sn_e (fun _ _ => sb_e (fun _ => sn_e (fun _ _ => sb_e (fun _ => zz_m)))))
theorem dE3_n {ly : Nat} {fu : Bool} {r : List Nat} : dE3 ly fu none r = none := sb_e (fun _ => sn_e (fun _ _ => sb_e (fun _ => by
  unfold dE6
  split
  · exact sn_e (fun _ _ => sb_e (fun _ => sn_e (fun _ _ => sb_e (fun _ => zz_d))))
  · exact sn_e (fun _ _ => sb_e (fun _ => sn_e (fun _ _ => sb_e (fun _ => zz_d)))))))
theorem sb_pk {α : Type} {T : List Nat} {p c : Nat} {F : List Nat → Option α} (hc : 0 < c) : sb (pk c (T.drop p)) F = if T.getD p 0 = c then F (T.drop (p + 1)) else none := by
  rw [pk_at hc]
  by_cases e : T.getD p 0 = c
  · rw [if_pos e, if_pos e]; rfl
  · rw [if_neg e, if_neg e]; rfl
theorem st_n {α : Type} {S : Option α} {g : Bool} {v : Option (Nat × List Nat)} {F : Option Nat → List Nat → Option α} {k : Nat → Nat} {r : List Nat} {ov : Option Nat} (hov : ov = v.map (fun u => k u.1)) (h : S = if g = true then sn v (fun z r => F (some (k z)) r) else none) (hF : ∀ r, F none r = none) (hp : ∀ u, v = some u → r = u.2) : S = if g = true then F ov r else none := by
  rw [h, hov]
  cases v with
  | none =>
    show (if g = true then none else none) = if g = true then F none r else none
    rw [hF]
  | some u => rw [hp u rfl]; rfl
theorem st_b {α : Type} {S : Option α} {g b : Bool} {T : List Nat} {p c q : Nat} {F : List Nat → Option α} (hc : 0 < c) (hb : decide (T.getD p 0 = c) = b) (hq : (if T.getD p 0 = c then p + 1 else p) = q) (h : S = if g = true then sb (pk c (T.drop p)) F else none) : S = if (b && g) = true then F (T.drop q) else none := by
  rw [h, sb_pk hc, ← hb, ← hq]
  by_cases e : T.getD p 0 = c
  · rw [if_pos e, if_pos e, decide_eq_true e]; cases g <;> rfl
  · rw [if_neg e, if_neg e, decide_eq_false e]; cases g <;> rfl
theorem st_t {α : Type} {S : Option α} {g : Bool} {v : Bool × List Nat} {r : List Nat} {F : List Nat → Option α} (h : S = if g = true then sb v F else none) (hv : v.1 = true → r = v.2) : S = if (v.1 && g) = true then F r else none := by
  rw [h]
  obtain ⟨a, b⟩ := v
  cases a with
  | true => rw [show r = b from hv rfl]; cases g <;> rfl
  | false => cases g <;> rfl
theorem dgO_at {T : List Nat} {k p : Nat} : dgO k (T.drop p) = (dgq T k 0 p).1.map (fun v => (v, T.drop (dgq T k 0 p).2)) := by unfold dgO; rw [dgq_dgs]
theorem dgO_m {T : List Nat} {k p : Nat} : (dgq T k 0 p).1 = (dgO k (T.drop p)).map (fun u => u.1) := by rw [dgO_at]; cases (dgq T k 0 p).1 <;> rfl
theorem dgO_r {T : List Nat} {k p : Nat} (u : Nat × List Nat) (h : dgO k (T.drop p) = some u) : T.drop (dgq T k 0 p).2 = u.2 := by
  rw [dgO_at] at h
  cases hd : (dgq T k 0 p).1 with
  | none => rw [hd] at h; cases h
  | some v => rw [hd] at h; obtain rfl := Option.some.inj h; rfl
theorem nms_lt : ∀ (n : Nat) (W : List Nat) (a b c k j : Nat), W.length < 3 * n + 3 → nms W a b c k = some j → j < k + n
  | 0, W, a, b, c, k, j, hl, h => by
    match W, hl, h with
    | [], _, h => cases h
    | [_], _, h => cases h
    | [_, _], _, h => cases h
    | _ :: _ :: _ :: _, hl, _ => simp at hl; omega
  | n + 1, W, a, b, c, k, j, hl, h => by
    match W, hl, h with
    | [], _, h => cases h
    | [_], _, h => cases h
    | [_, _], _, h => cases h
    | _ :: _ :: _ :: W, hl, h =>
      rw [nms] at h
      split at h
      · have := Option.some.inj h; omega
      · have := nms_lt n W a b c (k + 1) j (by simp only [List.length_cons] at hl; omega) h; omega
theorem nmO_lt {W rs : List Nat} {u : Nat × List Nat} (n : Nat) (hl : W.length < 3 * n + 3) (h : nmO W rs = some u) : u.1 < n := by
  unfold nmO nmAt at h
  split at h
  · split at h
    · rename_i hn
      obtain rfl := Option.some.inj h
      exact Nat.lt_of_lt_of_le (nms_lt n W _ _ _ _ _ hl hn) (by omega)
    · cases h
  · cases h
theorem mon_ok {rs : List Nat} {ov : Option Nat} (h : ov = (nmO monL rs).map (fun u => (fun k => k + 1) u.1)) (mo : Nat) (hm : ov = some mo) : 1 ≤ mo ∧ mo ≤ 12 := by
  rw [h] at hm
  cases hn : nmO monL rs with
  | none => rw [hn] at hm; cases hm
  | some u =>
    have := nmO_lt 12 (by decide) hn
    rw [hn] at hm
    have := Option.some.inj hm
    simp only [] at this
    omega
theorem dgs_lt {k a : Nat} {rs r : List Nat} {v : Nat} (h : dgs k a rs = (some v, r)) : v < (a + 1) * 10 ^ k := by
  have h1 := dgq_dgs (T := rs) (k := k) (a := a) (ps := 0)
  rw [List.drop_zero, h] at h1
  exact (dgq_v (T := rs) (congrArg Prod.fst h1).symm).1
theorem day_ok {rs : List Nat} {ov : Option Nat} (h : ov = (pday rs).map (fun u => (fun k => k) u.1)) (d : Nat) (hm : ov = some d) : d ≤ 99 := by
  rw [h] at hm
  unfold pday at hm
  split at hm
  · split at hm
    · rename_i e; have := dgs_lt e; have := Option.some.inj hm; simp only [] at this; omega
    · cases hm
  · split at hm
    · rename_i e
      have := dgs_lt e
      split at hm
      · cases hm
      · have := Option.some.inj hm; simp only [] at this; omega
    · cases hm
theorem clk_ok {T : List Nat} {p : Nat} {ov : Option Nat} (h : ov = (clk (T.drop p)).map (fun u => (fun k => k) u.1)) (d : Nat) (hm : ov = some d) : d ≤ 86399 := by
  rw [h] at hm
  unfold clk at hm
  split at hm
  · cases hm
  · split at hm
    · cases hm
    · split at hm
      · cases hm
      · split at hm
        · cases hm
        · split at hm
          · cases hm
          · split at hm
            · cases hm
            · split at hm
              · cases hm
              · split at hm
                · cases hm
                · have := Option.some.inj hm; simp only [] at this; omega
theorem dg_ok {T : List Nat} {k p d : Nat} (h : (dgq T k 0 p).1 = some d) : d < 10 ^ k := by have := (dgq_v h).1; omega
theorem shv_ok {ly d : Nat} {v : Option Nat} (hv : ∀ d, v = some d → d ≤ 99) (h : shv ly v = some d) : d ≤ 9999 := by
  cases v with
  | none => cases h
  | some a =>
    have := hv a rfl
    have hs : shy ly a ≤ 9999 := by unfold shy; split <;> omega
    have h : (if 1970 ≤ shy ly a then some (shy ly a) else none) = some d := h
    split at h
    · have := Option.some.inj h; omega
    · cases h
theorem nP.ob {tc : Nat → ClassId} {h : Nat} {ar : Nat → Nat} {now : Int64} {sc : Nat → Int32} {ai : Nat → Nat → Int32} {al : Nat → Nat → Int64} {T : List Nat} {bnd : Nat} {f : Nat → Nat} {v : Option (Nat × List Nat)} {r : Option Value} {w : va_W} (hp : nP tc h ar now sc ai al T bnd f v r w) : ∃ ov s2 p2, ov = v.map (fun u => f u.1) ∧ r = some (.int (iI ov)) ∧ w = mdW tc h ar now s2 ai al ∧ gq sc s2 ∧ s2 11 = sc 11 ∧ s2 12 = nI p2 ∧ p2 ≤ bnd ∧ ∀ u, v = some u → T.drop p2 = u.2 ∧ p2 ≤ T.length := by
  obtain ⟨h1, s2, p2, h2⟩ := hp
  exact ⟨_, s2, p2, rfl, h1, h2⟩
set_option maxRecDepth 100000 in
set_option maxHeartbeats 4000000 in
theorem c_Mo_dateBehind (l : Launch) (D : va_G) (tys : List (ClassId × FieldType)) (tc : Nat → ClassId) (hty : ∀ i : Nat, i < 4 → tys[i]? = some (tc i, vx_ty i)) (h : Nat) (ar : Nat → Nat) (now : Int64) (sc : Nat → Int32) (ai : Nat → Nat → Int32) (al : Nat → Nat → Int64) (F : Nat) (T : List Nat) (ps : Nat) (hM : mdS sc ai F T ps) (N : Nat) (hN : N ≤ 4102444799) (hnow : now = lN N) (wd : Nat) (hwd : wd < 7) (hp3 : ps ≤ T.length) : Kt l y_Mo_dateBehind (yw y_Mo_dateBehind b_Mo_dateBehind 8 (some .long)) 4 88 0 0 D cls tys (fun _ _ _ => True) [.ref h, .int (nI wd)] (mdW tc h ar now sc ai al) (fun r w => r = some (.long (lI ((dtB (yrN N + 50) wd (T.drop ps)).map fun u => u.1))) ∧ ∃ s2 p2, w = mdW tc h ar now s2 ai al ∧ gq sc s2 ∧ s2 11 = sc 11 ∧ s2 12 = nI p2 ∧ p2 ≤ ps + 50 ∧ ∀ u, dtB (yrN N + 50) wd (T.drop ps) = some u → T.drop p2 = u.2 ∧ p2 ≤ T.length) := by
  refine Kt.of ro_true (by decide) rfl hty (Nat.le_of_ble_eq_true rfl) ?_
  intro p e s m args below meth c0 A hC hr hlk hnm hF
  have hFt : vx_Ft y_Mo_dateBehind.cls (yw y_Mo_dateBehind b_Mo_dateBehind 8 (some .long)) cls cty ft_Mo := ft_of (fun w h => List.mem_cons_of_mem _ h) fl_Mo_in ft_Mo_b
  have hini : false = true → meth.name = "<init>" := fun h => by cases h
  obtain ⟨hF8, h11, hlenT, htx, hT, h12, hps⟩ := id hM
  have hTl := hT.1
  obtain ⟨SP, hSP⟩ : ∃ SP, dtB (yrN N + 50) wd (T.drop ps) = SP := ⟨_, rfl⟩
  rw [hSP]
  refine vx_cut (α := ((Bool × Nat × (Nat → Int32)) × Option Nat × Option Nat × Option Nat × Option Nat)) 282 (fun u => gq sc u.1.2.2 ∧ u.1.2.2 11 = sc 11 ∧ u.1.2.2 12 = nI u.1.2.1 ∧ u.1.2.1 ≤ ps + 50 ∧ SP = (if u.1.1 = true then zz u.2.1 u.2.2.1 u.2.2.2.1 u.2.2.2.2 (T.drop u.1.2.1) else none) ∧ (∀ d, u.2.1 = some d → d ≤ 9999) ∧ (∀ mo, u.2.2.1 = some mo → 1 ≤ mo ∧ mo ≤ 12) ∧ (∀ d, u.2.2.2.1 = some d → d ≤ 99) ∧ (∀ d, u.2.2.2.2 = some d → d ≤ 86399) ∧ (u.1.1 = true → ∀ d, u.2.1 = some d → u.1.2.1 ≤ T.length)) (fun u => [(0, .ref h), (2, .int (bI u.1.1)), (3, .int (iI u.2.2.2.1)), (4, .int (iI u.2.2.1)), (5, .int (iI u.2.1)), (6, .int (iI u.2.2.2.2))]) (fun u => []) (fun u => mdW tc h ar now u.1.2.2 ai al) (fun hJ145 => ?_) ?_
  · skip
    refine vx_gon hC hFt hini (vx_ends hC hr hlk) jc_Mo_dateBehind 0 12 (by decide) rfl ?_
    refine mo_call hC (c_Mo_next l D tys tc hty h ar now sc ai al F T ps hM) wm_Mo_next wl_Mo_115 wi_Mo_next ws_Mo_Mo_next ⟨by decide, by decide⟩ rfl rfl (Nat.le_of_ble_eq_true rfl) ⟨Nat.zero_le _, Nat.zero_le _⟩ (fun r' w1 hp => ?_)
    obtain ⟨rfl, rfl⟩ := hp
    refine And.intro (fun c5 => ?_) (fun c5 => ?_)
    · skip
      have c5 : ¬ T.getD ps 0 = 32 := fun z => c5 (by rw [z]; rfl)
      refine Vx.subL (lv' := [(0, .ref h), (1, .int (nI wd)), (2, .int 1)]) [1, 2, 0] rfl ?_
      refine vx_cut (α := ((Bool × Nat × (Nat → Int32)) × Bool)) 146 (fun u => gq sc u.1.2.2 ∧ u.1.2.2 11 = sc 11 ∧ u.1.2.2 12 = nI u.1.2.1 ∧ u.1.2.1 ≤ ps + 10 ∧ SP = (if u.1.1 = true then dE2 (yrN N + 50) u.2 (T.drop u.1.2.1) else none)) (fun u => [(0, .ref h), (2, .int (bI u.1.1)), (7, .int (bI u.2))]) (fun u => []) (fun u => mdW tc h ar now u.1.2.2 ai al) (fun hJ76 => ?_) ?_
      · skip
        refine vx_gon hC hFt hini (vx_ends hC hr hlk) jc_Mo_dateBehind 50 26 (by decide) rfl ?_
        refine mo_call hC (c_Mo_next l D tys tc hty h ar now sc ai al F T ps hM) wm_Mo_next wl_Mo_115 wi_Mo_next ws_Mo_Mo_next ⟨by decide, by decide⟩ rfl rfl (Nat.le_of_ble_eq_true rfl) ⟨Nat.zero_le _, Nat.zero_le _⟩ (fun r' w1 hp => ?_)
        obtain ⟨rfl, rfl⟩ := hp
        refine And.intro (fun c53 => ?_) (fun c53 => ?_)
        · skip
          have c53 : T.getD ps 0 = 44 := (nI_eq (by have := T_lt hT ps; omega) (by omega)).mp c53
          have hSA : SP = dE1 (yrN N + 50) false (T.drop ps) := by rw [← hSP, dtB, pk_at (by decide), if_neg c5, if_neg (fun z => by cases z), pk_at (by decide), if_pos c53, if_pos rfl]
          refine vx_gon hC hFt hini (vx_ends hC hr hlk) jc_Mo_dateBehind 56 20 (by decide) rfl ?_
          refine And.intro (fun c59 => ?_) (fun c59 => ?_)
          · skip
            refine vx_gon hC hFt hini (vx_ends hC hr hlk) jc_Mo_dateBehind 64 12 (by decide) rfl ?_
            refine mo_call hC (c_Mo_take l D tys tc hty h ar now sc ai al F T ps hM 44 (by decide)) wm_Mo_take wl_Mo_153 wi_Mo_take ws_Mo_Mo_take ⟨by decide, by decide⟩ rfl rfl (Nat.le_of_ble_eq_true rfl) ⟨Nat.zero_le _, Nat.zero_le _⟩ (fun r' w1 hp => ?_)
            obtain ⟨rfl, rfl⟩ := hp
            refine And.intro (fun c67 => ?_) (fun c67 => ?_)
            · skip
              exact absurd c53 (of_decide_eq_false (bI_eq c67))
            · skip
              rw [if_pos c53]
              have hS2 : SP = sb (pk 32 (T.drop (ps + 1))) (dE2 (yrN N + 50) false) := by rw [hSA, dE1, sb_pk (by decide), if_pos c53]
              refine mo_call hC (c_Mo_take l D tys tc hty h ar now (upd sc 12 (nI (ps + 1))) ai al F T (ps + 1) (hM.at (by omega)) 32 (by decide)) wm_Mo_take wl_Mo_153 wi_Mo_take ws_Mo_Mo_take ⟨by decide, by decide⟩ rfl rfl (Nat.le_of_ble_eq_true rfl) ⟨Nat.zero_le _, Nat.zero_le _⟩ (fun r' w1 hp => ?_)
              obtain ⟨rfl, rfl⟩ := hp
              refine And.intro (fun c71 => ?_) (fun c71 => ?_)
              · skip
                have c71 : ¬ T.getD (ps + 1) 0 = 32 := of_decide_eq_false (bI_eq c71)
                rw [if_neg c71]
                have hSk : SP = none := by rw [hS2, sb_pk (by decide), if_neg c71]
                refine vx_gon hC hFt hini (vx_ends hC hr hlk) jc_Mo_dateBehind 74 2 (by decide) rfl ?_
                refine Vx.subL (lv' := [(0, .ref h), (2, .int (bI false)), (7, .int (bI false))]) [2, 0, 1] rfl ?_
                exact hJ76 ((false, ps + 1, upd (upd sc 12 (nI (ps + 1))) 12 (nI (ps + 1))), false) ⟨((gq.refl.upd (k := 12) (by decide)).upd (k := 12) (by decide)), ((rfl)), rfl, (show ps + 1 ≤ ps + 10 by omega), hSk⟩
              · skip
                have c71 : T.getD (ps + 1) 0 = 32 := of_decide_eq_true (bI_ne c71)
                rw [if_pos c71]
                have hSk : SP = dE2 (yrN N + 50) false (T.drop (ps + 1 + 1)) := by rw [hS2, sb_pk (by decide), if_pos c71]
                refine vx_gon hC hFt hini (vx_ends hC hr hlk) jc_Mo_dateBehind 75 1 (by decide) rfl ?_
                refine Vx.subL (lv' := [(0, .ref h), (2, .int (bI true)), (7, .int (bI false))]) [2, 0, 1] rfl ?_
                exact hJ76 ((true, ps + 2, upd (upd sc 12 (nI (ps + 1))) 12 (nI (ps + 1 + 1))), false) ⟨((gq.refl.upd (k := 12) (by decide)).upd (k := 12) (by decide)), ((rfl)), rfl, (show ps + 2 ≤ ps + 10 by omega), hSk⟩
          · skip
            exact absurd rfl c59
        · skip
          have c53 : ¬ T.getD ps 0 = 44 := fun z => c53 (by rw [z]; rfl)
          have hSB : SP = sb (tt (rstL wd) (T.drop ps)) (dE1 (yrN N + 50) true) := by rw [← hSP, dtB, pk_at (by decide), if_neg c5, if_neg (fun z => by cases z), pk_at (by decide), if_neg c53, if_neg (fun z => by cases z)]
          refine vx_gon hC hFt hini (vx_ends hC hr hlk) jc_Mo_dateBehind 57 19 (by decide) rfl ?_
          refine And.intro (fun c59 => ?_) (fun c59 => ?_)
          · skip
            exact absurd c59 (by decide)
          · skip
            refine mo_call hC (c_Mo_restOf l D tys tc hty h ar now sc ai al F T ps hM hp3 wd hwd) wm_Mo_restOf wl_Mo_281 wi_Mo_restOf ws_Mo_Mo_restOf ⟨by decide, by decide⟩ rfl rfl (Nat.le_of_ble_eq_true rfl) ⟨Nat.zero_le _, Nat.zero_le _⟩ (fun r' w1 hp => ?_)
            obtain ⟨rfl, s1, p1, rfl, hg1, h111, h112, hb1, hx1⟩ := hp
            have hM1 : mdS s1 ai F T p1 := ⟨hF8, by rw [h111]; exact h11, hlenT, htx, hT, h112, by omega⟩
            refine And.intro (fun c63 => ?_) (fun c63 => ?_)
            · skip
              have c63 : (tt (rstL wd) (T.drop ps)).1 = false := bI_eq c63
              have hSk : SP = none := by rw [hSB, sb, c63]; rfl
              refine vx_gon hC hFt hini (vx_ends hC hr hlk) jc_Mo_dateBehind 74 2 (by decide) rfl ?_
              refine Vx.subL (lv' := [(0, .ref h), (2, .int (bI false)), (7, .int (bI true))]) [2, 0, 1] rfl ?_
              exact hJ76 ((false, p1, s1), true) ⟨hg1, h111, h112, (show p1 ≤ ps + 10 by omega), hSk⟩
            · skip
              have c63 : (tt (rstL wd) (T.drop ps)).1 = true := bI_ne c63
              have hS1 : SP = dE1 (yrN N + 50) true (T.drop p1) := by rw [hSB, sb, if_pos c63, (hx1 c63).1]
              refine mo_call hC (c_Mo_take l D tys tc hty h ar now s1 ai al F T p1 hM1 44 (by decide)) wm_Mo_take wl_Mo_153 wi_Mo_take ws_Mo_Mo_take ⟨by decide, by decide⟩ rfl rfl (Nat.le_of_ble_eq_true rfl) ⟨Nat.zero_le _, Nat.zero_le _⟩ (fun r' w1 hp => ?_)
              obtain ⟨rfl, rfl⟩ := hp
              refine And.intro (fun c67 => ?_) (fun c67 => ?_)
              · skip
                have c67 : ¬ T.getD p1 0 = 44 := of_decide_eq_false (bI_eq c67)
                rw [if_neg c67]
                have hSk : SP = none := by rw [hS1, dE1, sb_pk (by decide), if_neg c67]
                refine vx_gon hC hFt hini (vx_ends hC hr hlk) jc_Mo_dateBehind 74 2 (by decide) rfl ?_
                refine Vx.subL (lv' := [(0, .ref h), (2, .int (bI false)), (7, .int (bI true))]) [2, 0, 1] rfl ?_
                exact hJ76 ((false, p1, upd s1 12 (nI p1)), true) ⟨(hg1.upd (k := 12) (by decide)), (h111), rfl, (show p1 ≤ ps + 10 by omega), hSk⟩
              · skip
                have c67 : T.getD p1 0 = 44 := of_decide_eq_true (bI_ne c67)
                rw [if_pos c67]
                have hS2 : SP = sb (pk 32 (T.drop (p1 + 1))) (dE2 (yrN N + 50) true) := by rw [hS1, dE1, sb_pk (by decide), if_pos c67]
                refine mo_call hC (c_Mo_take l D tys tc hty h ar now (upd s1 12 (nI (p1 + 1))) ai al F T (p1 + 1) (hM1.at (by omega)) 32 (by decide)) wm_Mo_take wl_Mo_153 wi_Mo_take ws_Mo_Mo_take ⟨by decide, by decide⟩ rfl rfl (Nat.le_of_ble_eq_true rfl) ⟨Nat.zero_le _, Nat.zero_le _⟩ (fun r' w1 hp => ?_)
                obtain ⟨rfl, rfl⟩ := hp
                refine And.intro (fun c71 => ?_) (fun c71 => ?_)
                · skip
                  have c71 : ¬ T.getD (p1 + 1) 0 = 32 := of_decide_eq_false (bI_eq c71)
                  rw [if_neg c71]
                  have hSk : SP = none := by rw [hS2, sb_pk (by decide), if_neg c71]
                  refine vx_gon hC hFt hini (vx_ends hC hr hlk) jc_Mo_dateBehind 74 2 (by decide) rfl ?_
                  refine Vx.subL (lv' := [(0, .ref h), (2, .int (bI false)), (7, .int (bI true))]) [2, 0, 1] rfl ?_
                  exact hJ76 ((false, p1 + 1, upd (upd s1 12 (nI (p1 + 1))) 12 (nI (p1 + 1))), true) ⟨((hg1.upd (k := 12) (by decide)).upd (k := 12) (by decide)), ((h111)), rfl, (show p1 + 1 ≤ ps + 10 by omega), hSk⟩
                · skip
                  have c71 : T.getD (p1 + 1) 0 = 32 := of_decide_eq_true (bI_ne c71)
                  rw [if_pos c71]
                  have hSk : SP = dE2 (yrN N + 50) true (T.drop (p1 + 1 + 1)) := by rw [hS2, sb_pk (by decide), if_pos c71]
                  refine vx_gon hC hFt hini (vx_ends hC hr hlk) jc_Mo_dateBehind 75 1 (by decide) rfl ?_
                  refine Vx.subL (lv' := [(0, .ref h), (2, .int (bI true)), (7, .int (bI true))]) [2, 0, 1] rfl ?_
                  exact hJ76 ((true, p1 + 2, upd (upd s1 12 (nI (p1 + 1))) 12 (nI (p1 + 1 + 1))), true) ⟨((hg1.upd (k := 12) (by decide)).upd (k := 12) (by decide)), ((h111)), rfl, (show p1 + 2 ≤ ps + 10 by omega), hSk⟩
      · rintro ⟨⟨g1, p1, s1⟩, fu⟩ ⟨hg1, h111, h112, hb1, hS1⟩
        replace hg1 : gq sc s1 := hg1
        replace h111 : s1 11 = sc 11 := h111
        replace h112 : s1 12 = nI p1 := h112
        replace hb1 : p1 ≤ ps + 10 := hb1
        replace hS1 : SP = (if g1 = true then dE2 (yrN N + 50) fu (T.drop p1) else none) := hS1
        have hM1 : mdS s1 ai F T p1 := ⟨hF8, by rw [h111]; exact h11, hlenT, htx, hT, h112, by omega⟩
        refine vx_cut (α := ((Bool × Nat × (Nat → Int32)) × Option Nat)) 181 (fun u => gq sc u.1.2.2 ∧ u.1.2.2 11 = sc 11 ∧ u.1.2.2 12 = nI u.1.2.1 ∧ u.1.2.1 ≤ ps + 13 ∧ SP = (if u.1.1 = true then dE4 (yrN N + 50) fu u.2 (T.drop u.1.2.1) else none) ∧ (∀ d, u.2 = some d → d ≤ 99)) (fun u => [(0, .ref h), (2, .int (bI u.1.1)), (3, .int (iI u.2)), (7, .int (bI fu))]) (fun u => []) (fun u => mdW tc h ar now u.1.2.2 ai al) (fun hJ94 => ?_) ?_
        · skip
          refine vx_gon hC hFt hini (vx_ends hC hr hlk) jc_Mo_dateBehind 76 18 (by decide) rfl ?_
          refine mo_call hC (c_Mo_digits l D tys tc hty h ar now s1 ai al F T p1 hM1 2 (by decide)) wm_Mo_digits wl_Mo_254 wi_Mo_digits ws_Mo_Mo_digits ⟨by decide, by decide⟩ rfl rfl (Nat.le_of_ble_eq_true rfl) ⟨Nat.zero_le _, Nat.zero_le _⟩ (fun r' w1 hp => ?_)
          obtain ⟨rfl, rfl⟩ := hp
          have hle := (dgq_le (T := T) (k := 2) (a := 0) (ps := p1)).1
          have hSd := st_n (F := dE3 (yrN N + 50) fu) dgO_m hS1 (fun r => dE3_n) dgO_r
          refine And.intro (fun c82 => ?_) (fun c82 => ?_)
          · skip
            have c82 : fu = false := bI_eq c82
            subst c82
            refine vx_gon hC hFt hini (vx_ends hC hr hlk) jc_Mo_dateBehind 85 9 (by decide) rfl ?_
            refine mo_call hC (c_Mo_take l D tys tc hty h ar now (upd s1 12 (nI (dgq T 2 0 p1).2)) ai al F T (dgq T 2 0 p1).2 (hM1.at (by omega)) 32 (by decide)) wm_Mo_take wl_Mo_153 wi_Mo_take ws_Mo_Mo_take ⟨by decide, by decide⟩ rfl rfl (Nat.le_of_ble_eq_true rfl) ⟨Nat.zero_le _, Nat.zero_le _⟩ (fun r' w1 hp => ?_)
            obtain ⟨rfl, rfl⟩ := hp
            obtain ⟨b3, hb3⟩ : ∃ b, decide (T.getD (dgq T 2 0 p1).2 0 = 32) = b := ⟨_, rfl⟩
            obtain ⟨p3, hq3⟩ : ∃ q, (if T.getD (dgq T 2 0 p1).2 0 = 32 then (dgq T 2 0 p1).2 + 1 else (dgq T 2 0 p1).2) = q := ⟨_, rfl⟩
            have hqb3 : p3 ≤ (dgq T 2 0 p1).2 + 1 := by rw [← hq3]; split <;> omega
            have hS3 := st_b (c := 32) (F := dE4 (yrN N + 50) false (dgq T 2 0 p1).1) (by decide) hb3 hq3 hSd
            rw [hb3, hq3]
            refine And.intro (fun c87 => ?_) (fun c87 => ?_)
            · skip
              have c87 : b3 = false := bI_eq c87
              refine vx_gon hC hFt hini (vx_ends hC hr hlk) jc_Mo_dateBehind 92 2 (by decide) rfl ?_
              refine Vx.subL (lv' := [(0, .ref h), (2, .int (bI false)), (3, .int (iI (dgq T 2 0 p1).1)), (7, .int (bI false))]) [2, 0, 1, 3] rfl ?_
              exact hJ94 ((false, p3, upd (upd s1 12 (nI (dgq T 2 0 p1).2)) 12 (nI p3)), (dgq T 2 0 p1).1) ⟨(hg1.upd (by decide)).upd (by decide), (h111), rfl, (show p3 ≤ ps + 13 by omega), (by rw [hS3, c87]; rfl), (fun d hd => by have := dg_ok hd; omega)⟩
            · skip
              have c87 : b3 = true := bI_ne c87
              refine And.intro (fun c89 => ?_) (fun c89 => ?_)
              · skip
                have c89 : g1 = false := bI_eq c89
                refine vx_gon hC hFt hini (vx_ends hC hr hlk) jc_Mo_dateBehind 92 2 (by decide) rfl ?_
                refine Vx.subL (lv' := [(0, .ref h), (2, .int (bI false)), (3, .int (iI (dgq T 2 0 p1).1)), (7, .int (bI false))]) [2, 0, 1, 3] rfl ?_
                exact hJ94 ((false, p3, upd (upd s1 12 (nI (dgq T 2 0 p1).2)) 12 (nI p3)), (dgq T 2 0 p1).1) ⟨(hg1.upd (by decide)).upd (by decide), (h111), rfl, (show p3 ≤ ps + 13 by omega), (by rw [hS3, c89, Bool.and_false]), (fun d hd => by have := dg_ok hd; omega)⟩
              · skip
                have c89 : g1 = true := bI_ne c89
                refine vx_gon hC hFt hini (vx_ends hC hr hlk) jc_Mo_dateBehind 93 1 (by decide) rfl ?_
                refine Vx.subL (lv' := [(0, .ref h), (2, .int (bI true)), (3, .int (iI (dgq T 2 0 p1).1)), (7, .int (bI false))]) [2, 0, 1, 3] rfl ?_
                exact hJ94 ((true, p3, upd (upd s1 12 (nI (dgq T 2 0 p1).2)) 12 (nI p3)), (dgq T 2 0 p1).1) ⟨(hg1.upd (by decide)).upd (by decide), (h111), rfl, (show p3 ≤ ps + 13 by omega), (by rw [hS3, c87, c89]; rfl), (fun d hd => by have := dg_ok hd; omega)⟩
          · skip
            have c82 : fu = true := bI_ne c82
            subst c82
            refine vx_gon hC hFt hini (vx_ends hC hr hlk) jc_Mo_dateBehind 86 8 (by decide) rfl ?_
            refine mo_call hC (c_Mo_take l D tys tc hty h ar now (upd s1 12 (nI (dgq T 2 0 p1).2)) ai al F T (dgq T 2 0 p1).2 (hM1.at (by omega)) 45 (by decide)) wm_Mo_take wl_Mo_153 wi_Mo_take ws_Mo_Mo_take ⟨by decide, by decide⟩ rfl rfl (Nat.le_of_ble_eq_true rfl) ⟨Nat.zero_le _, Nat.zero_le _⟩ (fun r' w1 hp => ?_)
            obtain ⟨rfl, rfl⟩ := hp
            obtain ⟨b3, hb3⟩ : ∃ b, decide (T.getD (dgq T 2 0 p1).2 0 = 45) = b := ⟨_, rfl⟩
            obtain ⟨p3, hq3⟩ : ∃ q, (if T.getD (dgq T 2 0 p1).2 0 = 45 then (dgq T 2 0 p1).2 + 1 else (dgq T 2 0 p1).2) = q := ⟨_, rfl⟩
            have hqb3 : p3 ≤ (dgq T 2 0 p1).2 + 1 := by rw [← hq3]; split <;> omega
            have hS3 := st_b (c := 45) (F := dE4 (yrN N + 50) true (dgq T 2 0 p1).1) (by decide) hb3 hq3 hSd
            rw [hb3, hq3]
            refine And.intro (fun c87 => ?_) (fun c87 => ?_)
            · skip
              have c87 : b3 = false := bI_eq c87
              refine vx_gon hC hFt hini (vx_ends hC hr hlk) jc_Mo_dateBehind 92 2 (by decide) rfl ?_
              refine Vx.subL (lv' := [(0, .ref h), (2, .int (bI false)), (3, .int (iI (dgq T 2 0 p1).1)), (7, .int (bI true))]) [2, 0, 1, 3] rfl ?_
              exact hJ94 ((false, p3, upd (upd s1 12 (nI (dgq T 2 0 p1).2)) 12 (nI p3)), (dgq T 2 0 p1).1) ⟨(hg1.upd (by decide)).upd (by decide), (h111), rfl, (show p3 ≤ ps + 13 by omega), (by rw [hS3, c87]; rfl), (fun d hd => by have := dg_ok hd; omega)⟩
            · skip
              have c87 : b3 = true := bI_ne c87
              refine And.intro (fun c89 => ?_) (fun c89 => ?_)
              · skip
                have c89 : g1 = false := bI_eq c89
                refine vx_gon hC hFt hini (vx_ends hC hr hlk) jc_Mo_dateBehind 92 2 (by decide) rfl ?_
                refine Vx.subL (lv' := [(0, .ref h), (2, .int (bI false)), (3, .int (iI (dgq T 2 0 p1).1)), (7, .int (bI true))]) [2, 0, 1, 3] rfl ?_
                exact hJ94 ((false, p3, upd (upd s1 12 (nI (dgq T 2 0 p1).2)) 12 (nI p3)), (dgq T 2 0 p1).1) ⟨(hg1.upd (by decide)).upd (by decide), (h111), rfl, (show p3 ≤ ps + 13 by omega), (by rw [hS3, c89, Bool.and_false]), (fun d hd => by have := dg_ok hd; omega)⟩
              · skip
                have c89 : g1 = true := bI_ne c89
                refine vx_gon hC hFt hini (vx_ends hC hr hlk) jc_Mo_dateBehind 93 1 (by decide) rfl ?_
                refine Vx.subL (lv' := [(0, .ref h), (2, .int (bI true)), (3, .int (iI (dgq T 2 0 p1).1)), (7, .int (bI true))]) [2, 0, 1, 3] rfl ?_
                exact hJ94 ((true, p3, upd (upd s1 12 (nI (dgq T 2 0 p1).2)) 12 (nI p3)), (dgq T 2 0 p1).1) ⟨(hg1.upd (by decide)).upd (by decide), (h111), rfl, (show p3 ≤ ps + 13 by omega), (by rw [hS3, c87, c89]; rfl), (fun d hd => by have := dg_ok hd; omega)⟩
        · rintro ⟨⟨g3, p3, s3⟩, od⟩ ⟨hg3, h311, h312, hb3, hS3, hOd⟩
          replace hg3 : gq sc s3 := hg3
          replace h311 : s3 11 = sc 11 := h311
          replace h312 : s3 12 = nI p3 := h312
          replace hb3 : p3 ≤ ps + 13 := hb3
          replace hS3 : SP = (if g3 = true then dE4 (yrN N + 50) fu od (T.drop p3) else none) := hS3
          have hM3 : mdS s3 ai F T p3 := ⟨hF8, by rw [h311]; exact h11, hlenT, htx, hT, h312, by omega⟩
          replace hOd : (∀ d, od = some d → d ≤ 99) := hOd
          refine vx_cut (α := ((Bool × Nat × (Nat → Int32)) × Option Nat)) 216 (fun u => gq sc u.1.2.2 ∧ u.1.2.2 11 = sc 11 ∧ u.1.2.2 12 = nI u.1.2.1 ∧ u.1.2.1 ≤ ps + 17 ∧ SP = (if u.1.1 = true then dE6 (yrN N + 50) fu u.2 od (T.drop u.1.2.1) else none) ∧ (∀ mo, u.2 = some mo → 1 ≤ mo ∧ mo ≤ 12)) (fun u => [(0, .ref h), (2, .int (bI u.1.1)), (3, .int (iI od)), (4, .int (iI u.2)), (7, .int (bI fu))]) (fun u => []) (fun u => mdW tc h ar now u.1.2.2 ai al) (fun hJ111 => ?_) ?_
          · skip
            refine vx_gon hC hFt hini (vx_ends hC hr hlk) jc_Mo_dateBehind 94 17 (by decide) rfl ?_
            refine mo_call hC (c_Mo_monthName l D tys tc hty h ar now s3 ai al F T p3 hM3) wm_Mo_monthName wl_Mo_272 wi_Mo_monthName ws_Mo_Mo_monthName ⟨by decide, by decide⟩ rfl rfl (Nat.le_of_ble_eq_true rfl) ⟨Nat.zero_le _, Nat.zero_le _⟩ (fun r' w1 hp => ?_)
            obtain ⟨o4, s4, p4, ho4, rfl, rfl, hg4, h411, h412, hb4, hx4⟩ := hp.ob
            have hM4 : mdS s4 ai F T p4 := ⟨hF8, by rw [h411]; exact hM3.2.1, hlenT, htx, hT, h412, by omega⟩
            have hS4 := st_n (F := (dE5 (yrN N + 50) fu od)) ho4 hS3 (fun r => dE5_n) (fun u hu => (hx4 u hu).1)
            have hO4 := mon_ok ho4
            refine And.intro (fun c99 => ?_) (fun c99 => ?_)
            · skip
              have c99 : fu = false := bI_eq c99
              subst c99
              refine vx_gon hC hFt hini (vx_ends hC hr hlk) jc_Mo_dateBehind 102 9 (by decide) rfl ?_
              refine mo_call hC (c_Mo_take l D tys tc hty h ar now s4 ai al F T p4 hM4 32 (by decide)) wm_Mo_take wl_Mo_153 wi_Mo_take ws_Mo_Mo_take ⟨by decide, by decide⟩ rfl rfl (Nat.le_of_ble_eq_true rfl) ⟨Nat.zero_le _, Nat.zero_le _⟩ (fun r' w1 hp => ?_)
              obtain ⟨rfl, rfl⟩ := hp
              obtain ⟨b5, hb5⟩ : ∃ b, decide (T.getD p4 0 = 32) = b := ⟨_, rfl⟩
              obtain ⟨p5, hq5⟩ : ∃ q, (if T.getD p4 0 = 32 then p4 + 1 else p4) = q := ⟨_, rfl⟩
              have hqb5 : p5 ≤ p4 + 1 := by rw [← hq5]; split <;> omega
              have hS5 := st_b (c := 32) (F := dE6 (yrN N + 50) false o4 od) (by decide) hb5 hq5 hS4
              rw [hb5, hq5]
              refine And.intro (fun c104 => ?_) (fun c104 => ?_)
              · skip
                have c104 : b5 = false := bI_eq c104
                refine vx_gon hC hFt hini (vx_ends hC hr hlk) jc_Mo_dateBehind 109 2 (by decide) rfl ?_
                refine Vx.subL (lv' := [(0, .ref h), (2, .int (bI false)), (3, .int (iI od)), (4, .int (iI o4)), (7, .int (bI false))]) [2, 0, 3, 1, 4] rfl ?_
                exact hJ111 ((false, p5, upd s4 12 (nI p5)), o4) ⟨(hg3.trans hg4).upd (by decide), (h411.trans h311), rfl, (show p5 ≤ ps + 17 by omega), (by rw [hS5, c104]; rfl), hO4⟩
              · skip
                have c104 : b5 = true := bI_ne c104
                refine And.intro (fun c106 => ?_) (fun c106 => ?_)
                · skip
                  have c106 : g3 = false := bI_eq c106
                  refine vx_gon hC hFt hini (vx_ends hC hr hlk) jc_Mo_dateBehind 109 2 (by decide) rfl ?_
                  refine Vx.subL (lv' := [(0, .ref h), (2, .int (bI false)), (3, .int (iI od)), (4, .int (iI o4)), (7, .int (bI false))]) [2, 0, 3, 1, 4] rfl ?_
                  exact hJ111 ((false, p5, upd s4 12 (nI p5)), o4) ⟨(hg3.trans hg4).upd (by decide), (h411.trans h311), rfl, (show p5 ≤ ps + 17 by omega), (by rw [hS5, c106, Bool.and_false]), hO4⟩
                · skip
                  have c106 : g3 = true := bI_ne c106
                  refine vx_gon hC hFt hini (vx_ends hC hr hlk) jc_Mo_dateBehind 110 1 (by decide) rfl ?_
                  refine Vx.subL (lv' := [(0, .ref h), (2, .int (bI true)), (3, .int (iI od)), (4, .int (iI o4)), (7, .int (bI false))]) [2, 0, 3, 1, 4] rfl ?_
                  exact hJ111 ((true, p5, upd s4 12 (nI p5)), o4) ⟨(hg3.trans hg4).upd (by decide), (h411.trans h311), rfl, (show p5 ≤ ps + 17 by omega), (by rw [hS5, c104, c106]; rfl), hO4⟩
            · skip
              have c99 : fu = true := bI_ne c99
              subst c99
              refine vx_gon hC hFt hini (vx_ends hC hr hlk) jc_Mo_dateBehind 103 8 (by decide) rfl ?_
              refine mo_call hC (c_Mo_take l D tys tc hty h ar now s4 ai al F T p4 hM4 45 (by decide)) wm_Mo_take wl_Mo_153 wi_Mo_take ws_Mo_Mo_take ⟨by decide, by decide⟩ rfl rfl (Nat.le_of_ble_eq_true rfl) ⟨Nat.zero_le _, Nat.zero_le _⟩ (fun r' w1 hp => ?_)
              obtain ⟨rfl, rfl⟩ := hp
              obtain ⟨b5, hb5⟩ : ∃ b, decide (T.getD p4 0 = 45) = b := ⟨_, rfl⟩
              obtain ⟨p5, hq5⟩ : ∃ q, (if T.getD p4 0 = 45 then p4 + 1 else p4) = q := ⟨_, rfl⟩
              have hqb5 : p5 ≤ p4 + 1 := by rw [← hq5]; split <;> omega
              have hS5 := st_b (c := 45) (F := dE6 (yrN N + 50) true o4 od) (by decide) hb5 hq5 hS4
              rw [hb5, hq5]
              refine And.intro (fun c104 => ?_) (fun c104 => ?_)
              · skip
                have c104 : b5 = false := bI_eq c104
                refine vx_gon hC hFt hini (vx_ends hC hr hlk) jc_Mo_dateBehind 109 2 (by decide) rfl ?_
                refine Vx.subL (lv' := [(0, .ref h), (2, .int (bI false)), (3, .int (iI od)), (4, .int (iI o4)), (7, .int (bI true))]) [2, 0, 3, 1, 4] rfl ?_
                exact hJ111 ((false, p5, upd s4 12 (nI p5)), o4) ⟨(hg3.trans hg4).upd (by decide), (h411.trans h311), rfl, (show p5 ≤ ps + 17 by omega), (by rw [hS5, c104]; rfl), hO4⟩
              · skip
                have c104 : b5 = true := bI_ne c104
                refine And.intro (fun c106 => ?_) (fun c106 => ?_)
                · skip
                  have c106 : g3 = false := bI_eq c106
                  refine vx_gon hC hFt hini (vx_ends hC hr hlk) jc_Mo_dateBehind 109 2 (by decide) rfl ?_
                  refine Vx.subL (lv' := [(0, .ref h), (2, .int (bI false)), (3, .int (iI od)), (4, .int (iI o4)), (7, .int (bI true))]) [2, 0, 3, 1, 4] rfl ?_
                  exact hJ111 ((false, p5, upd s4 12 (nI p5)), o4) ⟨(hg3.trans hg4).upd (by decide), (h411.trans h311), rfl, (show p5 ≤ ps + 17 by omega), (by rw [hS5, c106, Bool.and_false]), hO4⟩
                · skip
                  have c106 : g3 = true := bI_ne c106
                  refine vx_gon hC hFt hini (vx_ends hC hr hlk) jc_Mo_dateBehind 110 1 (by decide) rfl ?_
                  refine Vx.subL (lv' := [(0, .ref h), (2, .int (bI true)), (3, .int (iI od)), (4, .int (iI o4)), (7, .int (bI true))]) [2, 0, 3, 1, 4] rfl ?_
                  exact hJ111 ((true, p5, upd s4 12 (nI p5)), o4) ⟨(hg3.trans hg4).upd (by decide), (h411.trans h311), rfl, (show p5 ≤ ps + 17 by omega), (by rw [hS5, c104, c106]; rfl), hO4⟩
          · rintro ⟨⟨g5, p5, s5⟩, om⟩ ⟨hg5, h511, h512, hb5, hS5, hOm⟩
            replace hg5 : gq sc s5 := hg5
            replace h511 : s5 11 = sc 11 := h511
            replace h512 : s5 12 = nI p5 := h512
            replace hb5 : p5 ≤ ps + 17 := hb5
            replace hS5 : SP = (if g5 = true then dE6 (yrN N + 50) fu om od (T.drop p5) else none) := hS5
            have hM5 : mdS s5 ai F T p5 := ⟨hF8, by rw [h511]; exact h11, hlenT, htx, hT, h512, by omega⟩
            replace hOm : (∀ mo, om = some mo → 1 ≤ mo ∧ mo ≤ 12) := hOm
            refine vx_cut (α := ((Bool × Nat × (Nat → Int32)) × Option Nat)) 259 (fun u => gq sc u.1.2.2 ∧ u.1.2.2 11 = sc 11 ∧ u.1.2.2 12 = nI u.1.2.1 ∧ u.1.2.1 ≤ ps + 22 ∧ SP = (if u.1.1 = true then dE8 u.2 om od (T.drop u.1.2.1) else none) ∧ (∀ d, u.2 = some d → d ≤ 9999)) (fun u => [(0, .ref h), (2, .int (bI u.1.1)), (3, .int (iI od)), (4, .int (iI om)), (5, .int (iI u.2))]) (fun u => []) (fun u => mdW tc h ar now u.1.2.2 ai al) (fun hJ133 => ?_) ?_
            · skip
              refine vx_gon hC hFt hini (vx_ends hC hr hlk) jc_Mo_dateBehind 111 22 (by decide) rfl ?_
              refine And.intro (fun c112 => ?_) (fun c112 => ?_)
              · skip
                have c112 : fu = false := bI_eq c112
                subst c112
                refine vx_gon hC hFt hini (vx_ends hC hr hlk) jc_Mo_dateBehind 119 14 (by decide) rfl ?_
                refine mo_call hC (c_Mo_digits l D tys tc hty h ar now s5 ai al F T p5 hM5 4 (by decide)) wm_Mo_digits wl_Mo_254 wi_Mo_digits ws_Mo_Mo_digits ⟨by decide, by decide⟩ rfl rfl (Nat.le_of_ble_eq_true rfl) ⟨Nat.zero_le _, Nat.zero_le _⟩ (fun r' w1 hp => ?_)
                obtain ⟨rfl, rfl⟩ := hp
                have hle := (dgq_le (T := T) (k := 4) (a := 0) (ps := p5)).1
                have hSd := st_n (F := dE7 om od) dgO_m (show SP = if g5 = true then sn (dgO 4 (T.drop p5)) (fun y r => dE7 om od (some y) r) else none from hS5) (fun r => dE7_n) dgO_r
                refine mo_call hC (c_Mo_take l D tys tc hty h ar now (upd s5 12 (nI (dgq T 4 0 p5).2)) ai al F T (dgq T 4 0 p5).2 (hM5.at (by omega)) 32 (by decide)) wm_Mo_take wl_Mo_153 wi_Mo_take ws_Mo_Mo_take ⟨by decide, by decide⟩ rfl rfl (Nat.le_of_ble_eq_true rfl) ⟨Nat.zero_le _, Nat.zero_le _⟩ (fun r' w1 hp => ?_)
                obtain ⟨rfl, rfl⟩ := hp
                obtain ⟨b8, hb8⟩ : ∃ b, decide (T.getD (dgq T 4 0 p5).2 0 = 32) = b := ⟨_, rfl⟩
                obtain ⟨p8, hq8⟩ : ∃ q, (if T.getD (dgq T 4 0 p5).2 0 = 32 then (dgq T 4 0 p5).2 + 1 else (dgq T 4 0 p5).2) = q := ⟨_, rfl⟩
                have hqb8 : p8 ≤ (dgq T 4 0 p5).2 + 1 := by rw [← hq8]; split <;> omega
                have hS8 := st_b (c := 32) (F := dE8 (dgq T 4 0 p5).1 om od) (by decide) hb8 hq8 hSd
                rw [hb8, hq8]
                refine And.intro (fun c126 => ?_) (fun c126 => ?_)
                · skip
                  have c126 : b8 = false := bI_eq c126
                  refine vx_gon hC hFt hini (vx_ends hC hr hlk) jc_Mo_dateBehind 131 2 (by decide) rfl ?_
                  refine Vx.subL (lv' := [(0, .ref h), (2, .int (bI false)), (3, .int (iI od)), (4, .int (iI om)), (5, .int (iI (dgq T 4 0 p5).1))]) [2, 0, 3, 4, 1] rfl ?_
                  exact hJ133 ((false, p8, upd (upd s5 12 (nI (dgq T 4 0 p5).2)) 12 (nI p8)), (dgq T 4 0 p5).1) ⟨(hg5.upd (by decide)).upd (by decide), (h511), rfl, (show p8 ≤ ps + 22 by omega), (by rw [hS8, c126]; rfl), (fun d hd => by have := dg_ok hd; omega)⟩
                · skip
                  have c126 : b8 = true := bI_ne c126
                  refine And.intro (fun c128 => ?_) (fun c128 => ?_)
                  · skip
                    have c128 : g5 = false := bI_eq c128
                    refine vx_gon hC hFt hini (vx_ends hC hr hlk) jc_Mo_dateBehind 131 2 (by decide) rfl ?_
                    refine Vx.subL (lv' := [(0, .ref h), (2, .int (bI false)), (3, .int (iI od)), (4, .int (iI om)), (5, .int (iI (dgq T 4 0 p5).1))]) [2, 0, 3, 4, 1] rfl ?_
                    exact hJ133 ((false, p8, upd (upd s5 12 (nI (dgq T 4 0 p5).2)) 12 (nI p8)), (dgq T 4 0 p5).1) ⟨(hg5.upd (by decide)).upd (by decide), (h511), rfl, (show p8 ≤ ps + 22 by omega), (by rw [hS8, c128, Bool.and_false]), (fun d hd => by have := dg_ok hd; omega)⟩
                  · skip
                    have c128 : g5 = true := bI_ne c128
                    refine vx_gon hC hFt hini (vx_ends hC hr hlk) jc_Mo_dateBehind 132 1 (by decide) rfl ?_
                    refine Vx.subL (lv' := [(0, .ref h), (2, .int (bI true)), (3, .int (iI od)), (4, .int (iI om)), (5, .int (iI (dgq T 4 0 p5).1))]) [2, 0, 3, 4, 1] rfl ?_
                    exact hJ133 ((true, p8, upd (upd s5 12 (nI (dgq T 4 0 p5).2)) 12 (nI p8)), (dgq T 4 0 p5).1) ⟨(hg5.upd (by decide)).upd (by decide), (h511), rfl, (show p8 ≤ ps + 22 by omega), (by rw [hS8, c126, c128]; rfl), (fun d hd => by have := dg_ok hd; omega)⟩
              · skip
                have c112 : fu = true := bI_ne c112
                subst c112
                refine mo_call hC (c_Mo_digits l D tys tc hty h ar now s5 ai al F T p5 hM5 2 (by decide)) wm_Mo_digits wl_Mo_254 wi_Mo_digits ws_Mo_Mo_digits ⟨by decide, by decide⟩ rfl rfl (Nat.le_of_ble_eq_true rfl) ⟨Nat.zero_le _, Nat.zero_le _⟩ (fun r' w1 hp => ?_)
                obtain ⟨rfl, rfl⟩ := hp
                have hle := (dgq_le (T := T) (k := 2) (a := 0) (ps := p5)).1
                have hSd := st_n (F := fun v r => dE7 om od (shv (yrN N + 50) v) r) dgO_m (show SP = if g5 = true then sn (dgO 2 (T.drop p5)) (fun v r => dE7 om od (shv (yrN N + 50) (some v)) r) else none from hS5) (fun r => dE7_n) dgO_r
                refine mo_call hC (c_Mo_shortYear l D tys tc hty h ar now (upd s5 12 (nI (dgq T 2 0 p5).2)) ai al N hN hnow (dgq T 2 0 p5).1 (fun d hd => by have := dg_ok hd; omega)) wm_Mo_shortYear wl_Mo_284 wi_Mo_shortYear ws_Mo_Mo_shortYear ⟨by decide, by decide⟩ rfl rfl (Nat.le_of_ble_eq_true rfl) ⟨Nat.zero_le _, Nat.zero_le _⟩ (fun r' w1 hp => ?_)
                obtain ⟨rfl, rfl⟩ := hp
                refine vx_gon hC hFt hini (vx_ends hC hr hlk) jc_Mo_dateBehind 122 11 (by decide) rfl ?_
                refine mo_call hC (c_Mo_take l D tys tc hty h ar now (upd s5 12 (nI (dgq T 2 0 p5).2)) ai al F T (dgq T 2 0 p5).2 (hM5.at (by omega)) 32 (by decide)) wm_Mo_take wl_Mo_153 wi_Mo_take ws_Mo_Mo_take ⟨by decide, by decide⟩ rfl rfl (Nat.le_of_ble_eq_true rfl) ⟨Nat.zero_le _, Nat.zero_le _⟩ (fun r' w1 hp => ?_)
                obtain ⟨rfl, rfl⟩ := hp
                obtain ⟨b8, hb8⟩ : ∃ b, decide (T.getD (dgq T 2 0 p5).2 0 = 32) = b := ⟨_, rfl⟩
                obtain ⟨p8, hq8⟩ : ∃ q, (if T.getD (dgq T 2 0 p5).2 0 = 32 then (dgq T 2 0 p5).2 + 1 else (dgq T 2 0 p5).2) = q := ⟨_, rfl⟩
                have hqb8 : p8 ≤ (dgq T 2 0 p5).2 + 1 := by rw [← hq8]; split <;> omega
                have hS8 := st_b (c := 32) (F := dE8 (shv (yrN N + 50) (dgq T 2 0 p5).1) om od) (by decide) hb8 hq8 hSd
                rw [hb8, hq8]
                refine And.intro (fun c126 => ?_) (fun c126 => ?_)
                · skip
                  have c126 : b8 = false := bI_eq c126
                  refine vx_gon hC hFt hini (vx_ends hC hr hlk) jc_Mo_dateBehind 131 2 (by decide) rfl ?_
                  refine Vx.subL (lv' := [(0, .ref h), (2, .int (bI false)), (3, .int (iI od)), (4, .int (iI om)), (5, .int (iI (shv (yrN N + 50) (dgq T 2 0 p5).1)))]) [2, 0, 3, 4, 1] rfl ?_
                  exact hJ133 ((false, p8, upd (upd s5 12 (nI (dgq T 2 0 p5).2)) 12 (nI p8)), (shv (yrN N + 50) (dgq T 2 0 p5).1)) ⟨(hg5.upd (by decide)).upd (by decide), (h511), rfl, (show p8 ≤ ps + 22 by omega), (by rw [hS8, c126]; rfl), (fun d hd => shv_ok (fun d hd => by have := dg_ok hd; omega) hd)⟩
                · skip
                  have c126 : b8 = true := bI_ne c126
                  refine And.intro (fun c128 => ?_) (fun c128 => ?_)
                  · skip
                    have c128 : g5 = false := bI_eq c128
                    refine vx_gon hC hFt hini (vx_ends hC hr hlk) jc_Mo_dateBehind 131 2 (by decide) rfl ?_
                    refine Vx.subL (lv' := [(0, .ref h), (2, .int (bI false)), (3, .int (iI od)), (4, .int (iI om)), (5, .int (iI (shv (yrN N + 50) (dgq T 2 0 p5).1)))]) [2, 0, 3, 4, 1] rfl ?_
                    exact hJ133 ((false, p8, upd (upd s5 12 (nI (dgq T 2 0 p5).2)) 12 (nI p8)), (shv (yrN N + 50) (dgq T 2 0 p5).1)) ⟨(hg5.upd (by decide)).upd (by decide), (h511), rfl, (show p8 ≤ ps + 22 by omega), (by rw [hS8, c128, Bool.and_false]), (fun d hd => shv_ok (fun d hd => by have := dg_ok hd; omega) hd)⟩
                  · skip
                    have c128 : g5 = true := bI_ne c128
                    refine vx_gon hC hFt hini (vx_ends hC hr hlk) jc_Mo_dateBehind 132 1 (by decide) rfl ?_
                    refine Vx.subL (lv' := [(0, .ref h), (2, .int (bI true)), (3, .int (iI od)), (4, .int (iI om)), (5, .int (iI (shv (yrN N + 50) (dgq T 2 0 p5).1)))]) [2, 0, 3, 4, 1] rfl ?_
                    exact hJ133 ((true, p8, upd (upd s5 12 (nI (dgq T 2 0 p5).2)) 12 (nI p8)), (shv (yrN N + 50) (dgq T 2 0 p5).1)) ⟨(hg5.upd (by decide)).upd (by decide), (h511), rfl, (show p8 ≤ ps + 22 by omega), (by rw [hS8, c126, c128]; rfl), (fun d hd => shv_ok (fun d hd => by have := dg_ok hd; omega) hd)⟩
            · rintro ⟨⟨g8, p8, s8⟩, oy⟩ ⟨hg8, h811, h812, hb8, hS8, hOy⟩
              replace hg8 : gq sc s8 := hg8
              replace h811 : s8 11 = sc 11 := h811
              replace h812 : s8 12 = nI p8 := h812
              replace hb8 : p8 ≤ ps + 22 := hb8
              replace hS8 : SP = (if g8 = true then dE8 oy om od (T.drop p8) else none) := hS8
              have hM8 : mdS s8 ai F T p8 := ⟨hF8, by rw [h811]; exact h11, hlenT, htx, hT, h812, by omega⟩
              replace hOy : (∀ d, oy = some d → d ≤ 9999) := hOy
              refine vx_gon hC hFt hini (vx_ends hC hr hlk) jc_Mo_dateBehind 133 12 (by decide) rfl ?_
              refine mo_call hC (c_Mo_time l D tys tc hty h ar now s8 ai al F T p8 hM8 (by omega)) wm_Mo_time wl_Mo_278 wi_Mo_time ws_Mo_Mo_time ⟨by decide, by decide⟩ rfl rfl (Nat.le_of_ble_eq_true rfl) ⟨Nat.zero_le _, Nat.zero_le _⟩ (fun r' w1 hp => ?_)
              obtain ⟨o9, s9, p9, ho9, rfl, rfl, hg9, h911, h912, hb9, hx9⟩ := hp.ob
              have hM9 : mdS s9 ai F T p9 := ⟨hF8, by rw [h911]; exact hM8.2.1, hlenT, htx, hT, h912, by omega⟩
              have hS9 := st_n (F := (dE9 oy om od)) ho9 hS8 (fun r => dE9_n) (fun u hu => (hx9 u hu).1)
              have hO9 := clk_ok ho9
              refine mo_call hC (c_Mo_zone l D tys tc hty h ar now s9 ai al F T p9 hM9 (by omega)) wm_Mo_zone wl_Mo_287 wi_Mo_zone ws_Mo_Mo_zone ⟨by decide, by decide⟩ rfl rfl (Nat.le_of_ble_eq_true rfl) ⟨Nat.zero_le _, Nat.zero_le _⟩ (fun r' w1 hp => ?_)
              obtain ⟨rfl, sA, pA, rfl, hgA, hA11, hA12, hbA, hxA⟩ := hp
              have hSA := st_t hS9 (fun z => (hxA z).1)
              refine And.intro (fun c138 => ?_) (fun c138 => ?_)
              · skip
                have c138 : (tt gmtL (T.drop p9)).1 = false := bI_eq c138
                refine vx_gon hC hFt hini (vx_ends hC hr hlk) jc_Mo_dateBehind 143 2 (by decide) rfl ?_
                refine Vx.subL (lv' := [(0, .ref h), (2, .int (bI false)), (3, .int (iI od)), (4, .int (iI om)), (5, .int (iI oy)), (6, .int (iI o9))]) [2, 0, 3, 4, 5, 1] rfl ?_
                exact hJ145 ((false, pA, sA), oy, om, od, o9) ⟨(hg8.trans hg9).trans hgA, hA11.trans (h911.trans h811), hA12, (show pA ≤ ps + 50 by omega), (by rw [hSA, c138]; rfl), hOy, hOm, hOd, hO9, (fun z => by cases z)⟩
              · skip
                have c138 : (tt gmtL (T.drop p9)).1 = true := bI_ne c138
                refine And.intro (fun c140 => ?_) (fun c140 => ?_)
                · skip
                  have c140 : g8 = false := bI_eq c140
                  refine vx_gon hC hFt hini (vx_ends hC hr hlk) jc_Mo_dateBehind 143 2 (by decide) rfl ?_
                  refine Vx.subL (lv' := [(0, .ref h), (2, .int (bI false)), (3, .int (iI od)), (4, .int (iI om)), (5, .int (iI oy)), (6, .int (iI o9))]) [2, 0, 3, 4, 5, 1] rfl ?_
                  exact hJ145 ((false, pA, sA), oy, om, od, o9) ⟨(hg8.trans hg9).trans hgA, hA11.trans (h911.trans h811), hA12, (show pA ≤ ps + 50 by omega), (by rw [hSA, c140, Bool.and_false]), hOy, hOm, hOd, hO9, (fun z => by cases z)⟩
                · skip
                  have c140 : g8 = true := bI_ne c140
                  refine vx_gon hC hFt hini (vx_ends hC hr hlk) jc_Mo_dateBehind 144 1 (by decide) rfl ?_
                  refine Vx.subL (lv' := [(0, .ref h), (2, .int (bI true)), (3, .int (iI od)), (4, .int (iI om)), (5, .int (iI oy)), (6, .int (iI o9))]) [2, 0, 3, 4, 5, 1] rfl ?_
                  exact hJ145 ((true, pA, sA), oy, om, od, o9) ⟨(hg8.trans hg9).trans hgA, hA11.trans (h911.trans h811), hA12, (show pA ≤ ps + 50 by omega), (by rw [hSA, c138, c140]; rfl), hOy, hOm, hOd, hO9, (fun _ d hd => (hxA c138).2)⟩
    · skip
      have c5 : T.getD ps 0 = 32 := (nI_eq (by have := T_lt hT ps; omega) (by omega)).mp c5
      refine And.intro rfl ?_
      refine And.intro rfl ?_
      refine And.intro rfl (And.intro (And.intro rfl rfl) ?_)
      refine Vx.eqs rfl rfl rfl (show _ = mdW tc h ar now (upd sc 12 (sc 12 + 1)) ai al from rfl) ?_
      refine Vx.subL (lv' := [(0, .ref h)]) [1] rfl ?_
      rw [h12, nI_1]
      have hM0 := hM.at (p2 := ps + 1) (by omega)
      have hS0 : SP = (if true = true then dA0 (T.drop (ps + 1)) else none) := by rw [← hSP, dtB, pk_at (by decide), if_pos c5, if_pos rfl, if_pos rfl]
      refine vx_cut (α := ((Bool × Nat × (Nat → Int32)) × Option Nat × Option Nat)) 58 (fun u => gq sc u.1.2.2 ∧ u.1.2.2 11 = sc 11 ∧ u.1.2.2 12 = nI u.1.2.1 ∧ u.1.2.1 ≤ ps + 8 ∧ SP = (if u.1.1 = true then dA4 u.2.1 u.2.2 (T.drop u.1.2.1) else none) ∧ (∀ mo, u.2.1 = some mo → 1 ≤ mo ∧ mo ≤ 12) ∧ (∀ d, u.2.2 = some d → d ≤ 99)) (fun u => [(0, .ref h), (2, .int (bI u.1.1)), (3, .int (iI u.2.2)), (4, .int (iI u.2.1))]) (fun u => []) (fun u => mdW tc h ar now u.1.2.2 ai al) (fun hJ32 => ?_) ?_
      · skip
        refine vx_gon hC hFt hini (vx_ends hC hr hlk) jc_Mo_dateBehind 12 20 (by decide) rfl ?_
        refine mo_call hC (c_Mo_monthName l D tys tc hty h ar now (upd sc 12 (nI (ps + 1))) ai al F T (ps + 1) hM0) wm_Mo_monthName wl_Mo_272 wi_Mo_monthName ws_Mo_Mo_monthName ⟨by decide, by decide⟩ rfl rfl (Nat.le_of_ble_eq_true rfl) ⟨Nat.zero_le _, Nat.zero_le _⟩ (fun r' w1 hp => ?_)
        obtain ⟨o1, s1, p1, ho1, rfl, rfl, hg1, h111, h112, hb1, hx1⟩ := hp.ob
        have hM1 : mdS s1 ai F T p1 := ⟨hF8, by rw [h111]; exact hM0.2.1, hlenT, htx, hT, h112, by omega⟩
        have hS1 := st_n (F := dA1) ho1 hS0 (fun r => dA1_n) (fun u hu => (hx1 u hu).1)
        have hO1 := mon_ok ho1
        refine mo_call hC (c_Mo_take l D tys tc hty h ar now s1 ai al F T p1 hM1 32 (by decide)) wm_Mo_take wl_Mo_153 wi_Mo_take ws_Mo_Mo_take ⟨by decide, by decide⟩ rfl rfl (Nat.le_of_ble_eq_true rfl) ⟨Nat.zero_le _, Nat.zero_le _⟩ (fun r' w1 hp => ?_)
        obtain ⟨rfl, rfl⟩ := hp
        obtain ⟨b2, hb2⟩ : ∃ b, decide (T.getD p1 0 = 32) = b := ⟨_, rfl⟩
        obtain ⟨p2, hq2⟩ : ∃ q, (if T.getD p1 0 = 32 then p1 + 1 else p1) = q := ⟨_, rfl⟩
        have hqb2 : p2 ≤ p1 + 1 := by rw [← hq2]; split <;> omega
        have hS2 := (by
          have hz := st_b (c := 32) (F := dA2 o1) (by decide) hb2 hq2 hS1
          rw [Bool.and_true] at hz
          exact hz : SP = if b2 = true then dA2 o1 (T.drop p2) else none)
        rw [hb2, hq2]
        refine mo_call hC (c_Mo_paddedDay l D tys tc hty h ar now (upd s1 12 (nI p2)) ai al F T p2 (hM1.at (p2 := p2) (by omega)) (by omega)) wm_Mo_paddedDay wl_Mo_275 wi_Mo_paddedDay ws_Mo_Mo_paddedDay ⟨by decide, by decide⟩ rfl rfl (Nat.le_of_ble_eq_true rfl) ⟨Nat.zero_le _, Nat.zero_le _⟩ (fun r' w1 hp => ?_)
        obtain ⟨o3, s3, p3, ho3, rfl, rfl, hg3, h311, h312, hb3, hx3⟩ := hp.ob
        have hM3 : mdS s3 ai F T p3 := ⟨hF8, by rw [h311]; exact (hM1.at (p2 := p2) (by omega)).2.1, hlenT, htx, hT, h312, by omega⟩
        have hS3 := st_n (F := (dA3 o1)) ho3 hS2 (fun r => dA3_n) (fun u hu => (hx3 u hu).1)
        have hO3 := day_ok ho3
        refine mo_call hC (c_Mo_take l D tys tc hty h ar now s3 ai al F T p3 hM3 32 (by decide)) wm_Mo_take wl_Mo_153 wi_Mo_take ws_Mo_Mo_take ⟨by decide, by decide⟩ rfl rfl (Nat.le_of_ble_eq_true rfl) ⟨Nat.zero_le _, Nat.zero_le _⟩ (fun r' w1 hp => ?_)
        obtain ⟨rfl, rfl⟩ := hp
        obtain ⟨b4, hb4⟩ : ∃ b, decide (T.getD p3 0 = 32) = b := ⟨_, rfl⟩
        obtain ⟨p4, hq4⟩ : ∃ q, (if T.getD p3 0 = 32 then p3 + 1 else p3) = q := ⟨_, rfl⟩
        have hqb4 : p4 ≤ p3 + 1 := by rw [← hq4]; split <;> omega
        have hS4 := st_b (c := 32) (F := dA4 o1 o3) (by decide) hb4 hq4 hS3
        rw [hb4, hq4]
        refine And.intro (fun c25 => ?_) (fun c25 => ?_)
        · skip
          have c25 : b4 = false := bI_eq c25
          refine vx_gon hC hFt hini (vx_ends hC hr hlk) jc_Mo_dateBehind 30 2 (by decide) rfl ?_
          refine Vx.subL (lv' := [(0, .ref h), (2, .int (bI false)), (3, .int (iI o3)), (4, .int (iI o1))]) [3, 0, 1, 2] rfl ?_
          exact hJ32 ((false, p4, upd s3 12 (nI p4)), o1, o3) ⟨((((gq.refl.upd (by decide)).trans hg1).upd (by decide)).trans hg3).upd (by decide), (h311.trans ((h111))), rfl, (show p4 ≤ ps + 8 by omega), (by rw [hS4, c25]; rfl), hO1, hO3⟩
        · skip
          have c25 : b4 = true := bI_ne c25
          refine And.intro (fun c27 => ?_) (fun c27 => ?_)
          · skip
            have c27 : b2 = false := bI_eq c27
            refine vx_gon hC hFt hini (vx_ends hC hr hlk) jc_Mo_dateBehind 30 2 (by decide) rfl ?_
            refine Vx.subL (lv' := [(0, .ref h), (2, .int (bI false)), (3, .int (iI o3)), (4, .int (iI o1))]) [3, 0, 1, 2] rfl ?_
            exact hJ32 ((false, p4, upd s3 12 (nI p4)), o1, o3) ⟨((((gq.refl.upd (by decide)).trans hg1).upd (by decide)).trans hg3).upd (by decide), (h311.trans ((h111))), rfl, (show p4 ≤ ps + 8 by omega), (by rw [hS4, c27, Bool.and_false]), hO1, hO3⟩
          · skip
            have c27 : b2 = true := bI_ne c27
            refine vx_gon hC hFt hini (vx_ends hC hr hlk) jc_Mo_dateBehind 31 1 (by decide) rfl ?_
            refine Vx.subL (lv' := [(0, .ref h), (2, .int (bI true)), (3, .int (iI o3)), (4, .int (iI o1))]) [3, 0, 1, 2] rfl ?_
            exact hJ32 ((true, p4, upd s3 12 (nI p4)), o1, o3) ⟨((((gq.refl.upd (by decide)).trans hg1).upd (by decide)).trans hg3).upd (by decide), (h311.trans ((h111))), rfl, (show p4 ≤ ps + 8 by omega), (by rw [hS4, c25, c27]; rfl), hO1, hO3⟩
      · rintro ⟨⟨g4, p4, s4⟩, om, od⟩ ⟨hg4, h411, h412, hb4, hS4, hOm, hOd⟩
        replace hg4 : gq sc s4 := hg4
        replace h411 : s4 11 = sc 11 := h411
        replace h412 : s4 12 = nI p4 := h412
        replace hb4 : p4 ≤ ps + 8 := hb4
        replace hS4 : SP = (if g4 = true then dA4 om od (T.drop p4) else none) := hS4
        have hM4 : mdS s4 ai F T p4 := ⟨hF8, by rw [h411]; exact h11, hlenT, htx, hT, h412, by omega⟩
        replace hOm : (∀ mo, om = some mo → 1 ≤ mo ∧ mo ≤ 12) := hOm
        replace hOd : (∀ d, od = some d → d ≤ 99) := hOd
        obtain ⟨g, rfl⟩ : ∃ g, g = g4 := ⟨_, rfl⟩
        refine vx_cut (α := ((Bool × Nat × (Nat → Int32)) × Option Nat)) 83 (fun u => gq sc u.1.2.2 ∧ u.1.2.2 11 = sc 11 ∧ u.1.2.2 12 = nI u.1.2.1 ∧ u.1.2.1 ≤ ps + 17 ∧ SP = (if u.1.1 = true then dA6 om od u.2 (T.drop u.1.2.1) else none) ∧ (∀ d, u.2 = some d → d ≤ 86399)) (fun u => [(0, .ref h), (2, .int (bI u.1.1)), (3, .int (iI od)), (4, .int (iI om)), (6, .int (iI u.2))]) (fun u => []) (fun u => mdW tc h ar now u.1.2.2 ai al) (fun hJ45 => ?_) ?_
        · skip
          refine vx_gon hC hFt hini (vx_ends hC hr hlk) jc_Mo_dateBehind 32 13 (by decide) rfl ?_
          refine mo_call hC (c_Mo_time l D tys tc hty h ar now s4 ai al F T p4 hM4 (by omega)) wm_Mo_time wl_Mo_278 wi_Mo_time ws_Mo_Mo_time ⟨by decide, by decide⟩ rfl rfl (Nat.le_of_ble_eq_true rfl) ⟨Nat.zero_le _, Nat.zero_le _⟩ (fun r' w1 hp => ?_)
          obtain ⟨o5, s5, p5, ho5, rfl, rfl, hg5, h511, h512, hb5, hx5⟩ := hp.ob
          have hM5 : mdS s5 ai F T p5 := ⟨hF8, by rw [h511]; exact hM4.2.1, hlenT, htx, hT, h512, by omega⟩
          have hS5 := st_n (F := (dA5 om od)) ho5 hS4 (fun r => dA5_n) (fun u hu => (hx5 u hu).1)
          have hO5 := clk_ok ho5
          refine mo_call hC (c_Mo_take l D tys tc hty h ar now s5 ai al F T p5 hM5 32 (by decide)) wm_Mo_take wl_Mo_153 wi_Mo_take ws_Mo_Mo_take ⟨by decide, by decide⟩ rfl rfl (Nat.le_of_ble_eq_true rfl) ⟨Nat.zero_le _, Nat.zero_le _⟩ (fun r' w1 hp => ?_)
          obtain ⟨rfl, rfl⟩ := hp
          obtain ⟨b6, hb6⟩ : ∃ b, decide (T.getD p5 0 = 32) = b := ⟨_, rfl⟩
          obtain ⟨p6, hq6⟩ : ∃ q, (if T.getD p5 0 = 32 then p5 + 1 else p5) = q := ⟨_, rfl⟩
          have hqb6 : p6 ≤ p5 + 1 := by rw [← hq6]; split <;> omega
          have hS6 := st_b (c := 32) (F := dA6 om od o5) (by decide) hb6 hq6 hS5
          rw [hb6, hq6]
          refine And.intro (fun c38 => ?_) (fun c38 => ?_)
          · skip
            have c38 : b6 = false := bI_eq c38
            refine vx_gon hC hFt hini (vx_ends hC hr hlk) jc_Mo_dateBehind 43 2 (by decide) rfl ?_
            refine Vx.subL (lv' := [(0, .ref h), (2, .int (bI false)), (3, .int (iI od)), (4, .int (iI om)), (6, .int (iI o5))]) [2, 0, 3, 4, 1] rfl ?_
            exact hJ45 ((false, p6, upd s5 12 (nI p6)), o5) ⟨(hg4.trans hg5).upd (by decide), (h511.trans h411), rfl, (show p6 ≤ ps + 17 by omega), (by rw [hS6, c38]; rfl), hO5⟩
          · skip
            have c38 : b6 = true := bI_ne c38
            refine And.intro (fun c40 => ?_) (fun c40 => ?_)
            · skip
              have c40 : g = false := bI_eq c40
              refine vx_gon hC hFt hini (vx_ends hC hr hlk) jc_Mo_dateBehind 43 2 (by decide) rfl ?_
              refine Vx.subL (lv' := [(0, .ref h), (2, .int (bI false)), (3, .int (iI od)), (4, .int (iI om)), (6, .int (iI o5))]) [2, 0, 3, 4, 1] rfl ?_
              exact hJ45 ((false, p6, upd s5 12 (nI p6)), o5) ⟨(hg4.trans hg5).upd (by decide), (h511.trans h411), rfl, (show p6 ≤ ps + 17 by omega), (by rw [hS6, c40, Bool.and_false]), hO5⟩
            · skip
              have c40 : g = true := bI_ne c40
              refine vx_gon hC hFt hini (vx_ends hC hr hlk) jc_Mo_dateBehind 44 1 (by decide) rfl ?_
              refine Vx.subL (lv' := [(0, .ref h), (2, .int (bI true)), (3, .int (iI od)), (4, .int (iI om)), (6, .int (iI o5))]) [2, 0, 3, 4, 1] rfl ?_
              exact hJ45 ((true, p6, upd s5 12 (nI p6)), o5) ⟨(hg4.trans hg5).upd (by decide), (h511.trans h411), rfl, (show p6 ≤ ps + 17 by omega), (by rw [hS6, c38, c40]; rfl), hO5⟩
        · rintro ⟨⟨g6, p6, s6⟩, ot⟩ ⟨hg6, h611, h612, hb6, hS6, hOt⟩
          replace hg6 : gq sc s6 := hg6
          replace h611 : s6 11 = sc 11 := h611
          replace h612 : s6 12 = nI p6 := h612
          replace hb6 : p6 ≤ ps + 17 := hb6
          replace hS6 : SP = (if g6 = true then dA6 om od ot (T.drop p6) else none) := hS6
          have hM6 : mdS s6 ai F T p6 := ⟨hF8, by rw [h611]; exact h11, hlenT, htx, hT, h612, by omega⟩
          replace hOt : (∀ d, ot = some d → d ≤ 86399) := hOt
          refine vx_gon hC hFt hini (vx_ends hC hr hlk) jc_Mo_dateBehind 45 100 (by decide) rfl ?_
          refine mo_call hC (c_Mo_digits l D tys tc hty h ar now s6 ai al F T p6 hM6 4 (by decide)) wm_Mo_digits wl_Mo_254 wi_Mo_digits ws_Mo_Mo_digits ⟨by decide, by decide⟩ rfl rfl (Nat.le_of_ble_eq_true rfl) ⟨Nat.zero_le _, Nat.zero_le _⟩ (fun r' w1 hp => ?_)
          obtain ⟨rfl, rfl⟩ := hp
          refine Vx.subL (lv' := [(0, .ref h), (2, .int (bI g6)), (3, .int (iI od)), (4, .int (iI om)), (5, .int (iI (dgq T 4 0 p6).1)), (6, .int (iI ot))]) [1, 2, 3, 4, 0, 5] rfl ?_
          exact hJ145 ((g6, (dgq T 4 0 p6).2, upd s6 12 (nI (dgq T 4 0 p6).2)), (dgq T 4 0 p6).1, om, od, ot) ⟨hg6.upd (by decide), h611, rfl, (show (dgq T 4 0 p6).2 ≤ ps + 50 by have := (dgq_le (T := T) (k := 4) (a := 0) (ps := p6)).1; omega), st_n (F := fun oy r => zz oy om od ot r) dgO_m hS6 (fun r => zz_y) dgO_r, (fun d hd => by have := dg_ok hd; omega), hOm, hOd, hOt, (fun _ d hd => (dgq_v hd).2 (by decide))⟩
  · rintro ⟨⟨gZ, pZ, sZ⟩, oy, om, od, ot⟩ ⟨hgZ, hZ11, hZ12, hbZ, hSZ, hOy, hOm, hOd, hOt, hOl⟩
    replace hgZ : gq sc sZ := hgZ
    replace hZ11 : sZ 11 = sc 11 := hZ11
    replace hZ12 : sZ 12 = nI pZ := hZ12
    replace hbZ : pZ ≤ ps + 50 := hbZ
    replace hSZ : SP = (if gZ = true then zz oy om od ot (T.drop pZ) else none) := hSZ
    have hMZ : mdS sZ ai F T pZ := ⟨hF8, by rw [hZ11]; exact h11, hlenT, htx, hT, hZ12, by omega⟩
    replace hOy : (∀ d, oy = some d → d ≤ 9999) := hOy
    replace hOm : (∀ mo, om = some mo → 1 ≤ mo ∧ mo ≤ 12) := hOm
    replace hOd : (∀ d, od = some d → d ≤ 99) := hOd
    replace hOt : (∀ d, ot = some d → d ≤ 86399) := hOt
    replace hOl : (gZ = true → ∀ d, oy = some d → pZ ≤ T.length) := hOl
    refine vx_go hC hFt hini (vx_ends hC hr hlk) jc_Mo_dateBehind 145 (by decide) rfl ?_
    refine And.intro (fun c146 => ?_) (fun c146 => ?_)
    · skip
      have c146 : gZ = false := bI_eq c146
      refine vx_go hC hFt hini (vx_ends hC hr hlk) jc_Mo_dateBehind 153 (by decide) rfl ?_
      refine And.intro (Or.inr (Or.inl ⟨_, rfl, hC.2.2.2.2.1 _ (List.mem_cons_of_mem _ wc_Mo_267)⟩)) ?_
      refine And.intro (trivial) (And.intro ?_ (And.intro (Nat.le_refl _) (Nat.le_refl _)))
      subst c146
      replace hSZ : SP = none := hSZ
      rw [hSZ]
      exact ⟨rfl, sZ, pZ, rfl, hgZ, hZ11, hZ12, hbZ, (fun u hu => by cases hu)⟩
    · skip
      have c146 : gZ = true := bI_ne c146
      refine mo_calls hC (c_Mo_secondsOf l D tys tc hty oy om od ot hOy hOm hOd hOt) wm_Mo_secondsOf wl_Mo_290 wt_Mo_secondsOf ⟨by decide, by decide⟩ rfl rfl (Nat.le_of_ble_eq_true rfl) ⟨Nat.zero_le _, Nat.zero_le _⟩ (fun r' hp => ?_)
      subst hp
      refine vx_go hC hFt hini (vx_ends hC hr hlk) jc_Mo_dateBehind 154 (by decide) rfl ?_
      refine And.intro (trivial) (And.intro ?_ (And.intro (Nat.le_refl _) (Nat.le_refl _)))
      subst c146
      replace hSZ : SP = (calO oy om od ot).map (fun t => (t, T.drop pZ)) := hSZ
      rw [hSZ]
      refine ⟨?_, sZ, pZ, rfl, hgZ, hZ11, hZ12, hbZ, ?_⟩
      · cases calO oy om od ot <;> rfl
      · intro u hu
        cases hc : calO oy om od ot with
        | none => rw [hc] at hu; cases hu
        | some t =>
          rw [hc] at hu
          obtain rfl := Option.some.inj hu
          refine ⟨rfl, ?_⟩
          cases hy9 : oy with
          | none => rw [hy9] at hc; cases hc
          | some y => exact hOl rfl y hy9
set_option maxRecDepth 100000 in
set_option maxHeartbeats 4000000 in
theorem c_Mo_dateOf (l : Launch) (D : va_G) (tys : List (ClassId × FieldType)) (tc : Nat → ClassId) (hty : ∀ i : Nat, i < 4 → tys[i]? = some (tc i, vx_ty i)) (h : Nat) (ar : Nat → Nat) (now : Int64) (sc : Nat → Int32) (ai : Nat → Nat → Int32) (al : Nat → Nat → Int64) (G : Nat) (T : List Nat) (hT : mdT ai G T) (N : Nat) (hN : N ≤ 4102444799) (hnow : now = lN N) : Kt l y_Mo_dateOf (yw y_Mo_dateOf b_Mo_dateOf 5 (some .long)) 5 115 0 0 D cls tys (fun _ _ _ => True) [.ref h, .int (nI G)] (mdW tc h ar now sc ai al) (fun r w => r = some (.long (lI (dtO (yrN N + 50) T))) ∧ ∃ s2, w = mdW tc h ar now s2 ai al ∧ gq sc s2) := by
  refine Kt.of ro_true (by decide) rfl hty (Nat.le_of_ble_eq_true rfl) ?_
  intro p e s m args below meth c0 A hC hr hlk hnm hF
  have hFt : vx_Ft y_Mo_dateOf.cls (yw y_Mo_dateOf b_Mo_dateOf 5 (some .long)) cls cty ft_Mo := ft_of (fun w h => List.mem_cons_of_mem _ h) fl_Mo_in ft_Mo_b
  have hini : false = true → meth.name = "<init>" := fun h => by cases h
  have hTl := hT.2.2.2.1
  obtain ⟨P0, hP0⟩ : ∃ P0, pz T 0 isGp = P0 := ⟨_, rfl⟩
  have hP0l : P0 ≤ T.length := by rw [← hP0]; exact pz_lt (Nat.zero_le _)
  have hgpT : gp T = T.drop P0 := by rw [← hP0]; exact gp_at (ps := 0)
  refine vx_go hC hFt hini (vx_ends hC hr hlk) jc_Mo_dateOf 0 (by decide) rfl ?_
  refine mo_call hC (c_Mo_open l D tys tc hty h ar now sc ai al G) wm_Mo_open wl_Mo_199 wi_Mo_open ws_Mo_Mo_open ⟨by decide, by decide⟩ rfl rfl (Nat.le_of_ble_eq_true rfl) ⟨Nat.zero_le _, Nat.zero_le _⟩ (fun r' w1 hp => ?_)
  obtain ⟨rfl, rfl⟩ := hp
  refine mo_call hC (c_Mo_gap l D tys tc hty h ar now (upd (upd sc 11 (nI G)) 12 (nI 0)) ai al G T 0 hT.opn) wm_Mo_gap wl_Mo_156 wi_Mo_gap ws_Mo_Mo_gap ⟨by decide, by decide⟩ rfl rfl (Nat.le_of_ble_eq_true rfl) ⟨Nat.zero_le _, Nat.zero_le _⟩ (fun r' w1 hp => ?_)
  obtain ⟨rfl, rfl⟩ := hp
  rw [hP0]
  refine mo_call hC (c_Mo_dayName l D tys tc hty h ar now (upd (upd (upd sc 11 (nI G)) 12 (nI 0)) 12 (nI P0)) ai al G T P0 (hT.opn.at (by omega))) wm_Mo_dayName wl_Mo_294 wi_Mo_dayName ws_Mo_Mo_dayName ⟨by decide, by decide⟩ rfl rfl (Nat.le_of_ble_eq_true rfl) ⟨Nat.zero_le _, Nat.zero_le _⟩ (fun r' w1 hp => ?_)
  obtain ⟨o1, s1, p1, ho1, rfl, rfl, hg1, h111, h112, hb1, hx1⟩ := hp.ob
  have hM1 : mdS s1 ai G T p1 := ⟨hT.1, by rw [h111]; exact (rfl), hT.2.1, hT.2.2.1, hT.2.2.2, h112, by omega⟩
  refine And.intro (fun c9 => ?_) (fun c9 => ?_)
  · skip
    obtain ⟨wd, hwd, hnm⟩ : ∃ wd, wd < 7 ∧ o1 = some wd ∧ nmO dayL (T.drop P0) = some (wd, T.drop p1) := by
      cases hn : nmO dayL (T.drop P0) with
      | none => rw [ho1, hn] at c9; exact absurd c9 (by decide)
      | some u => exact ⟨u.1, nmO_lt 7 (by decide) hn, by rw [ho1, hn]; rfl, by rw [(hx1 u hn).1]⟩
    obtain ⟨rfl, hnm⟩ := hnm
    have hp1l := (hx1 _ hnm).2
    have hdt : dtO (yrN N + 50) T = (match dtB (yrN N + 50) wd (T.drop p1) with
        | none => none
        | some v => if gp v.2 = [] then some v.1 else none) := by rw [dtO, hgpT, hnm]
    refine vx_go hC hFt hini (vx_ends hC hr hlk) jc_Mo_dateOf 12 (by decide) rfl ?_
    refine mo_call hC (c_Mo_dateBehind l D tys tc hty h ar now s1 ai al G T p1 hM1 N hN hnow wd hwd hp1l) wm_Mo_dateBehind wl_Mo_297 wi_Mo_dateBehind ws_Mo_Mo_dateBehind ⟨by decide, by decide⟩ rfl rfl (Nat.le_of_ble_eq_true rfl) ⟨Nat.zero_le _, Nat.zero_le _⟩ (fun r' w1 hp => ?_)
    obtain ⟨rfl, s2, p2, rfl, hg2, h211, h212, hb2, hx2⟩ := hp
    have hM2 : mdS s2 ai G T p2 := ⟨hT.1, by rw [h211]; exact hM1.2.1, hT.2.1, hT.2.2.1, hT.2.2.2, h212, by omega⟩
    have hpz := pz_le (T := T) (ps := p2) (M := 400) (q := isGp) (by omega) (by omega)
    refine mo_call hC (c_Mo_gap l D tys tc hty h ar now s2 ai al G T p2 hM2) wm_Mo_gap wl_Mo_156 wi_Mo_gap ws_Mo_Mo_gap ⟨by decide, by decide⟩ rfl rfl (Nat.le_of_ble_eq_true rfl) ⟨Nat.zero_le _, Nat.zero_le _⟩ (fun r' w1 hp => ?_)
    obtain ⟨rfl, rfl⟩ := hp
    refine mo_call hC (c_Mo_ended l D tys tc hty h ar now (upd s2 12 (nI (pz T p2 isGp))) ai al G T (pz T p2 isGp) (hM2.at hpz)) wm_Mo_ended wl_Mo_166 wi_Mo_ended ws_Mo_Mo_ended ⟨by decide, by decide⟩ rfl rfl (Nat.le_of_ble_eq_true rfl) ⟨Nat.zero_le _, Nat.zero_le _⟩ (fun r' w1 hp => ?_)
    obtain ⟨rfl, rfl⟩ := hp
    refine And.intro (fun c20 => ?_) (fun c20 => ?_)
    · skip
      have c20 : ¬ T.length ≤ pz T p2 isGp := of_decide_eq_false (bI_eq c20)
      refine vx_go hC hFt hini (vx_ends hC hr hlk) jc_Mo_dateOf 31 (by decide) rfl ?_
      refine And.intro (Or.inr (Or.inl ⟨_, rfl, hC.2.2.2.2.1 _ (List.mem_cons_of_mem _ wc_Mo_267)⟩)) ?_
      refine And.intro (trivial) (And.intro ?_ (And.intro (Nat.le_refl _) (Nat.le_refl _)))
      rw [show dtO (yrN N + 50) T = none by
        rw [hdt]
        cases hv : dtB (yrN N + 50) wd (T.drop p1) with
        | none => rfl
        | some v =>
          show (if gp v.2 = [] then some v.1 else none) = none
          rw [← (hx2 v hv).1, gp_at, if_neg (by rw [drop_get (Nat.lt_of_not_le c20)]; exact List.cons_ne_nil _ _)]]
      exact ⟨rfl, _, rfl, (((((((gq.refl.upd (k := 11) (by decide)).upd (k := 12) (by decide)).upd (k := 12) (by decide)).trans hg1).trans hg2).upd (k := 12) (by decide)))⟩
    · skip
      have c20 : T.length ≤ pz T p2 isGp := of_decide_eq_true (bI_ne c20)
      refine And.intro rfl ?_
      refine And.intro rfl ?_
      refine And.intro rfl ?_
      have h9 : (upd s2 12 (nI (pz T p2 isGp))) 11 = nI G := hM2.2.1
      refine And.intro rfl (And.intro rfl (And.intro (by rw [h9]; exact vp_in_nI hT.1 (by decide)) ?_))
      rw [h9, nI_clamp (by have := hT.1; omega), hT.2.1, show (upd s2 12 (nI (pz T p2 isGp))) 12 = nI (pz T p2 isGp) from rfl]
      refine And.intro (fun c28 => ?_) (fun c28 => ?_)
      · skip
        have c28 : ¬ pz T p2 isGp = T.length := fun z => c28 (by rw [z])
        refine vx_go hC hFt hini (vx_ends hC hr hlk) jc_Mo_dateOf 31 (by decide) rfl ?_
        refine And.intro (Or.inr (Or.inl ⟨_, rfl, hC.2.2.2.2.1 _ (List.mem_cons_of_mem _ wc_Mo_267)⟩)) ?_
        refine And.intro (trivial) (And.intro ?_ (And.intro (Nat.le_refl _) (Nat.le_refl _)))
        rw [show dtO (yrN N + 50) T = none by
          rw [hdt]
          cases hv : dtB (yrN N + 50) wd (T.drop p1) with
          | none => rfl
          | some v =>
            have := pz_lt (T := T) (a := p2) (q := isGp) (hx2 v hv).2
            exact absurd (show pz T p2 isGp = T.length by omega) c28]
        exact ⟨rfl, _, rfl, (((((((gq.refl.upd (k := 11) (by decide)).upd (k := 12) (by decide)).upd (k := 12) (by decide)).trans hg1).trans hg2).upd (k := 12) (by decide)))⟩
      · skip
        have c28 : pz T p2 isGp = T.length := (nI_eq (by omega) (by omega)).mp c28
        refine vx_go hC hFt hini (vx_ends hC hr hlk) jc_Mo_dateOf 32 (by decide) rfl ?_
        refine And.intro (trivial) (And.intro ?_ (And.intro (Nat.le_refl _) (Nat.le_refl _)))
        rw [show dtO (yrN N + 50) T = (dtB (yrN N + 50) wd (T.drop p1)).map (fun u => u.1) by
          rw [hdt]
          cases hv : dtB (yrN N + 50) wd (T.drop p1) with
          | none => rfl
          | some v =>
            show (if gp v.2 = [] then some v.1 else none) = some v.1
            rw [← (hx2 v hv).1, gp_at, if_pos (drop_end c20)]]
        exact ⟨rfl, _, rfl, (((((((gq.refl.upd (k := 11) (by decide)).upd (k := 12) (by decide)).upd (k := 12) (by decide)).trans hg1).trans hg2).upd (k := 12) (by decide)))⟩
  · skip
    refine And.intro (Or.inr (Or.inl ⟨_, rfl, hC.2.2.2.2.1 _ (List.mem_cons_of_mem _ wc_Mo_267)⟩)) ?_
    refine And.intro (trivial) (And.intro ?_ (And.intro (Nat.le_refl _) (Nat.le_refl _)))
    rw [show dtO (yrN N + 50) T = none by
      rw [dtO, hgpT]
      cases hn : nmO dayL (T.drop P0) with
      | none => rfl
      | some u => rw [ho1, hn] at c9; exact absurd (show (0 : Int32) ≤ nI u.1 from nI_ge0 (by have := nmO_lt 7 (by decide) hn; omega)) c9]
    exact ⟨rfl, _, rfl, ((((gq.refl.upd (k := 11) (by decide)).upd (k := 12) (by decide)).upd (k := 12) (by decide)).trans hg1)⟩
