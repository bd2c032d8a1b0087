/-! THE REFERENCE: words of types and languages, by program (wip/whole/gen/p37.py) -/
def WDS : List (List Nat) := [[116, 101, 120, 116], [104, 116, 109, 108], [112, 108, 97, 105, 110], [106, 115, 111, 110], [105, 109, 97, 103, 101], [112, 110, 103], [115, 118, 103, 43, 120, 109, 108], [108, 101, 118, 101, 108], [97, 112, 112, 108, 105, 99, 97, 116], [105, 111, 110], [101, 110], [101, 110, 45, 117, 115], [100, 101], [100, 101, 45, 97, 116], [102, 114]]
/-- the words that the reference keeps -/
def mdWd (al : Nat → Nat → Int64) : Prop := ∀ i, i < 15 → isWd (al 13 i) (WDS.getD i [])
def mnL (k : Nat) : List Nat := if k = 2 then [97, 112, 112, 108, 105, 99, 97, 116, 105, 111, 110] else if k = 3 ∨ k = 5 then [105, 109, 97, 103, 101] else [116, 101, 120, 116]
def snL (k : Nat) : List Nat := if k = 0 ∨ k = 4 then [104, 116, 109, 108] else if k = 1 then [112, 108, 97, 105, 110] else if k = 2 then [106, 115, 111, 110] else if k = 3 then [112, 110, 103] else [115, 118, 103, 43, 120, 109, 108]
theorem sl_cons {T : List Nat} {a b : Nat} (h : a < b) (hb : b ≤ T.length) : sl T a b = T.getD a 0 :: sl T (a + 1) b := by
  unfold sl
  rw [drop_get (by omega), show b - a = (b - (a + 1)) + 1 by omega, List.take_succ_cons]
theorem syq_sl {T W : List Nat} {a b : Nat} (h : a ≤ b) (hb : b ≤ T.length) : (decide (b - a = W.length) && syq T a W) = decide ((sl T a b).map lwr = W) := by
  induction W generalizing a with
  | nil =>
    rw [show syq T a [] = true from rfl, Bool.and_true]
    by_cases e : b - a = 0
    · rw [show a = b by omega, sl_nil]; simp
    · rw [sl_cons (by omega) hb, decide_eq_false (show ¬ (b - a = ([] : List Nat).length) from e)]; simp
  | cons c W ih =>
    by_cases e : a < b
    · rw [sl_cons e hb, List.map_cons]
      have := ih (a := a + 1) (by omega)
      by_cases e2 : lwr (T.getD a 0) = c
      · rw [e2]
        rw [show decide (c :: (sl T (a + 1) b).map lwr = c :: W) = decide ((sl T (a + 1) b).map lwr = W) by simp, ← this]
        rw [syq, decide_eq_true e2, Bool.true_and, show decide (b - a = (c :: W).length) = decide (b - (a + 1) = W.length) by simp only [List.length_cons]; congr 1; apply propext; omega]
      · rw [syq, decide_eq_false e2, Bool.false_and, Bool.and_false, decide_eq_false (fun z => e2 (List.cons.inj z).1)]
    · rw [show a = b by omega, sl_nil]; simp
theorem syq_app {T V W : List Nat} {a : Nat} : syq T a (V ++ W) = (syq T a V && syq T (a + V.length) W) := by
  induction V generalizing a with
  | nil => simp [syq]
  | cons c V ih => rw [List.cons_append, syq, ih, syq, Bool.and_assoc, List.length_cons, show a + 1 + V.length = a + (V.length + 1) by omega]
theorem stq_sl {T : List Nat} {a b : Nat} (h : a ≤ b) (hb : b ≤ T.length) : stq T (b - a) a = ss_star (sl T a b) := by
  induction hn : b - a generalizing a with
  | zero => rw [show a = b by omega, sl_nil]; rfl
  | succ n ih =>
    rw [sl_cons (by omega) hb, stq, ih (by omega) (by omega)]; rfl
section
variable {p : Program} {l : Launch} {e : Env} {R : Room} {s : State} {m : MethodId} {args : Array Value} {below : List Frame} {meth : Method} {c : Code} {nL : Nat} {D : va_G} {A : Nat → Prop} {cl : List vw_C} {Q : State → Prop}
/-- a place where roads meet -/
theorem vx_cut {α : Type} (pc2 : Nat) (J : α → Prop) (lvf : α → wq_L) (st2 : α → List Value) (wsf : α → va_W) {pc k n : Nat} {lv : wq_L} {st : List Value} {ws : va_W} (h2 : (∀ x, J x → Vx p l e R s m args below meth c nL D cl A Q pc2 (lvf x) (st2 x) (wsf x) k n) → Vx p l e R s m args below meth c nL D cl A Q pc lv st ws k n) (h1 : ∀ x, J x → Vx p l e R s m args below meth c nL D cl A Q pc2 (lvf x) (st2 x) (wsf x) k n) : Vx p l e R s m args below meth c nL D cl A Q pc lv st ws k n := h2 h1
end
theorem lgc {x y : Int64} : lg_cmp x y = 0 ↔ x = y := by
  unfold lg_cmp
  by_cases h : x > y
  · rw [if_pos h]
    refine ⟨fun z => absurd z (by decide), fun z => ?_⟩
    rw [z] at h
    exact absurd h (Int64.lt_irrefl)
  · rw [if_neg h]
    by_cases h2 : x = y
    · rw [if_pos h2]; exact ⟨fun _ => h2, fun _ => rfl⟩
    · rw [if_neg h2]; exact ⟨fun z => absurd z (by decide), fun z => absurd z h2⟩
theorem take_snoc {W : List Nat} {i : Nat} (h : i < W.length) : W.take (i + 1) = W.take i ++ [W.getD i 0] := by
  rw [← List.take_append_getElem h, List.getD_eq_getElem?_getD, List.getElem?_eq_getElem h]; rfl
theorem take_getD {W : List Nat} {i n : Nat} (h : i < n) : (W.take n).getD i 0 = W.getD i 0 := by
  rw [List.getD_eq_getElem?_getD, List.getD_eq_getElem?_getD, List.getElem?_take, if_pos h]
/-- S is W or what stands in it before a - -/
def spk (S W : List Nat) : Bool := decide (S.length ≤ W.length) && (decide (S.map lwr = W.take S.length) && (decide (S.length = W.length) || decide (W.getD S.length 0 = 45)))
set_option maxRecDepth 100000 in
set_option maxHeartbeats 4000000 in
theorem c_Mo_isMain (l : Launch) (D : va_G) (tys : List (ClassId × FieldType)) (tc : Nat → ClassId) (hty : ∀ i : Nat, i < 4 → tys[i]? = some (tc i, vx_ty i)) (h : Nat) (ar : Nat → Nat) (now : Int64) (sc : Nat → Int32) (ai : Nat → Nat → Int32) (al : Nat → Nat → Int64) (F : Nat) (T : List Nat) (ps : Nat) (hM : mdS sc ai F T ps) (a b : Nat) (hab : a ≤ b) (hb : b ≤ T.length) (kd : Nat) (hkd : kd < 6) (hWd : mdWd al) : Kt l y_Mo_isMain (yw y_Mo_isMain b_Mo_isMain 4 (some .boolean)) 3 72 0 0 D cls tys (fun _ _ _ => True) [.ref h, .int (nI a), .int (nI b), .int (nI kd)] (mdW tc h ar now sc ai al) (fun r w => r = some (.int (bI (decide ((sl T a b).map lwr = mnL kd)))) ∧ w = (mdW tc h ar now sc ai al)) := by
  refine Kt.of ro_true (by decide) rfl hty (Nat.le_of_ble_eq_true rfl) ?_
  intro p e s m args below meth c0 A hC hr hlk hnm hF
  have hFt : vx_Ft y_Mo_isMain.cls (yw y_Mo_isMain b_Mo_isMain 4 (some .boolean)) cls cty ft_Mo := ft_of (fun w h => List.mem_cons_of_mem _ h) fl_Mo_in ft_Mo_b
  have hini : false = true → meth.name = "<init>" := fun h => by cases h
  obtain ⟨hF8, h11, hlenT, htx, hT, h12, hps⟩ := id hM
  have hTl := hT.1
  refine vx_go hC hFt hini (vx_ends hC hr hlk) jc_Mo_isMain 0 (by decide) rfl ?_
  refine And.intro (fun c2 => ?_) (fun c2 => ?_)
  · skip
    have c2 : ¬ (kd = 2) := fun z => c2 (by rw [z]; rfl)
    refine vx_go hC hFt hini (vx_ends hC hr hlk) jc_Mo_isMain 30 (by decide) rfl ?_
    refine And.intro (fun c35 => ?_) (fun c35 => ?_)
    · skip
      have c35 : kd = 3 := (nI_eq (a := kd) (b := 3) (by omega) (by omega)).mp c35
      refine vx_go hC hFt hini (vx_ends hC hr hlk) jc_Mo_isMain 39 (by decide) rfl ?_
      refine And.intro rfl ?_
      refine And.intro rfl (And.intro rfl (And.intro (vp_in_nI (n := 4) (N := 15) (by decide) (by decide)) ?_))
      refine vx_go hC hFt hini (vx_ends hC hr hlk) jc_Mo_isMain 48 (by decide) rfl ?_
      refine mo_call hC (c_Mo_isWord l D tys tc hty h ar now sc ai al F T ps hM (al 13 4) (WDS.getD 4 []) (hWd 4 (by decide)) a b hab (by omega)) wm_Mo_isWord wl_Mo_146 wi_Mo_isWord ws_Mo_Mo_isWord ⟨by decide, by decide⟩ rfl rfl (Nat.le_of_ble_eq_true rfl) ⟨Nat.zero_le _, Nat.zero_le _⟩ (fun r' w1 hp => ?_)
      obtain ⟨rfl, rfl⟩ := hp
      refine And.intro ((bI_narrow _)) (And.intro ?_ (And.intro (Nat.le_refl _) (Nat.le_refl _)))
      rw [mnL, if_neg c2, if_pos (by omega)]
      exact And.intro (by rw [← syq_sl hab hb]; rfl) rfl
    · skip
      have c35 : ¬ (kd = 3) := fun z => c35 (by rw [z]; rfl)
      refine And.intro (fun c38 => ?_) (fun c38 => ?_)
      · skip
        have c38 : ¬ (kd = 5) := fun z => c38 (by rw [z]; rfl)
        refine vx_go hC hFt hini (vx_ends hC hr hlk) jc_Mo_isMain 44 (by decide) rfl ?_
        refine And.intro rfl ?_
        refine And.intro rfl (And.intro rfl (And.intro (vp_in_nI (n := 0) (N := 15) (by decide) (by decide)) ?_))
        refine mo_call hC (c_Mo_isWord l D tys tc hty h ar now sc ai al F T ps hM (al 13 0) (WDS.getD 0 []) (hWd 0 (by decide)) a b hab (by omega)) wm_Mo_isWord wl_Mo_146 wi_Mo_isWord ws_Mo_Mo_isWord ⟨by decide, by decide⟩ rfl rfl (Nat.le_of_ble_eq_true rfl) ⟨Nat.zero_le _, Nat.zero_le _⟩ (fun r' w1 hp => ?_)
        obtain ⟨rfl, rfl⟩ := hp
        refine And.intro ((bI_narrow _)) (And.intro ?_ (And.intro (Nat.le_refl _) (Nat.le_refl _)))
        rw [mnL, if_neg c2, if_neg (by omega)]
        exact And.intro (by rw [← syq_sl hab hb]; rfl) rfl
      · skip
        have c38 : kd = 5 := (nI_eq (a := kd) (b := 5) (by omega) (by omega)).mp c38
        refine And.intro rfl ?_
        refine And.intro rfl (And.intro rfl (And.intro (vp_in_nI (n := 4) (N := 15) (by decide) (by decide)) ?_))
        refine vx_go hC hFt hini (vx_ends hC hr hlk) jc_Mo_isMain 48 (by decide) rfl ?_
        refine mo_call hC (c_Mo_isWord l D tys tc hty h ar now sc ai al F T ps hM (al 13 4) (WDS.getD 4 []) (hWd 4 (by decide)) a b hab (by omega)) wm_Mo_isWord wl_Mo_146 wi_Mo_isWord ws_Mo_Mo_isWord ⟨by decide, by decide⟩ rfl rfl (Nat.le_of_ble_eq_true rfl) ⟨Nat.zero_le _, Nat.zero_le _⟩ (fun r' w1 hp => ?_)
        obtain ⟨rfl, rfl⟩ := hp
        refine And.intro ((bI_narrow _)) (And.intro ?_ (And.intro (Nat.le_refl _) (Nat.le_refl _)))
        rw [mnL, if_neg c2, if_pos (by omega)]
        exact And.intro (by rw [← syq_sl hab hb]; rfl) rfl
  · skip
    have c2 : kd = 2 := (nI_eq (a := kd) (b := 2) (by omega) (by omega)).mp c2
    refine And.intro (fun c7 => ?_) (fun c7 => ?_)
    · skip
      have c7 : ¬ (b - a = 11) := fun z => c7 (show nI b - nI a = nI 11 by rw [pk_sub hab, z])
      refine vx_go hC hFt hini (vx_ends hC hr hlk) jc_Mo_isMain 28 (by decide) rfl ?_
      refine And.intro (rfl) (And.intro ?_ (And.intro (Nat.le_refl _) (Nat.le_refl _)))
      rw [mnL, if_pos c2, ← syq_sl hab hb, show ([97, 112, 112, 108, 105, 99, 97, 116, 105, 111, 110] : List Nat) = WDS.getD 8 [] ++ WDS.getD 9 [] from rfl, syq_app]
      rw [decide_eq_false (show ¬ (b - a = (WDS.getD 8 [] ++ WDS.getD 9 []).length) from c7)]
      exact And.intro rfl rfl
    · skip
      have c7 : b - a = 11 := by
        have c7 : nI b - nI a = nI 11 := c7
        rw [pk_sub hab] at c7
        exact (nI_eq (by omega) (by omega)).mp c7
      refine And.intro rfl ?_
      refine And.intro rfl (And.intro rfl (And.intro (vp_in_nI (n := 8) (N := 15) (by decide) (by decide)) ?_))
      refine mo_call hC (c_Mo_says l D tys tc hty h ar now sc ai al F T ps hM (al 13 8) (WDS.getD 8 []) (hWd 8 (by decide)) a (by omega)) wm_Mo_says wl_Mo_142 wi_Mo_says ws_Mo_Mo_says ⟨by decide, by decide⟩ rfl rfl (Nat.le_of_ble_eq_true rfl) ⟨Nat.zero_le _, Nat.zero_le _⟩ (fun r' w1 hp => ?_)
      obtain ⟨rfl, rfl⟩ := hp
      refine And.intro (fun c15 => ?_) (fun c15 => ?_)
      · skip
        have c15 := bI_eq c15
        refine vx_go hC hFt hini (vx_ends hC hr hlk) jc_Mo_isMain 28 (by decide) rfl ?_
        refine And.intro (rfl) (And.intro ?_ (And.intro (Nat.le_refl _) (Nat.le_refl _)))
        rw [mnL, if_pos c2, ← syq_sl hab hb, show ([97, 112, 112, 108, 105, 99, 97, 116, 105, 111, 110] : List Nat) = WDS.getD 8 [] ++ WDS.getD 9 [] from rfl, syq_app]
        rw [decide_eq_true (show b - a = (WDS.getD 8 [] ++ WDS.getD 9 []).length from c7)]
        rw [c15]
        exact And.intro rfl rfl
      · skip
        have c15 := bI_ne c15
        refine And.intro rfl ?_
        refine And.intro rfl (And.intro rfl (And.intro (vp_in_nI (n := 9) (N := 15) (by decide) (by decide)) ?_))
        refine mo_call hC (c_Mo_says l D tys tc hty h ar now sc ai al F T ps hM (al 13 9) (WDS.getD 9 []) (hWd 9 (by decide)) (a + 8) (by omega)) wm_Mo_says wl_Mo_142 wi_Mo_says ws_Mo_Mo_says ⟨by decide, by decide⟩ rfl (show [Value.long (al 13 9), Value.int (nI a + nI 8), Value.ref h] = [Value.long (al 13 9), Value.int (nI (a + 8)), Value.ref h] by rw [nI_add]) (Nat.le_of_ble_eq_true rfl) ⟨Nat.zero_le _, Nat.zero_le _⟩ (fun r' w1 hp => ?_)
        obtain ⟨rfl, rfl⟩ := hp
        refine And.intro (fun c25 => ?_) (fun c25 => ?_)
        · skip
          have c25 := bI_eq c25
          refine vx_go hC hFt hini (vx_ends hC hr hlk) jc_Mo_isMain 28 (by decide) rfl ?_
          refine And.intro (rfl) (And.intro ?_ (And.intro (Nat.le_refl _) (Nat.le_refl _)))
          rw [mnL, if_pos c2, ← syq_sl hab hb, show ([97, 112, 112, 108, 105, 99, 97, 116, 105, 111, 110] : List Nat) = WDS.getD 8 [] ++ WDS.getD 9 [] from rfl, syq_app]
          rw [decide_eq_true (show b - a = (WDS.getD 8 [] ++ WDS.getD 9 []).length from c7)]
          rw [c15, show syq T (a + (WDS.getD 8 []).length) (WDS.getD 9 []) = false from c25]
          exact And.intro rfl rfl
        · skip
          have c25 := bI_ne c25
          refine vx_go hC hFt hini (vx_ends hC hr hlk) jc_Mo_isMain 29 (by decide) rfl ?_
          refine And.intro (rfl) (And.intro ?_ (And.intro (Nat.le_refl _) (Nat.le_refl _)))
          rw [mnL, if_pos c2, ← syq_sl hab hb, show ([97, 112, 112, 108, 105, 99, 97, 116, 105, 111, 110] : List Nat) = WDS.getD 8 [] ++ WDS.getD 9 [] from rfl, syq_app]
          rw [decide_eq_true (show b - a = (WDS.getD 8 [] ++ WDS.getD 9 []).length from c7)]
          rw [c15, show syq T (a + (WDS.getD 8 []).length) (WDS.getD 9 []) = true from c25]
          exact And.intro rfl rfl
set_option maxRecDepth 100000 in
set_option maxHeartbeats 4000000 in
theorem c_Mo_isSub (l : Launch) (D : va_G) (tys : List (ClassId × FieldType)) (tc : Nat → ClassId) (hty : ∀ i : Nat, i < 4 → tys[i]? = some (tc i, vx_ty i)) (h : Nat) (ar : Nat → Nat) (now : Int64) (sc : Nat → Int32) (ai : Nat → Nat → Int32) (al : Nat → Nat → Int64) (F : Nat) (T : List Nat) (ps : Nat) (hM : mdS sc ai F T ps) (a b : Nat) (hab : a ≤ b) (hb : b ≤ T.length) (kd : Nat) (hkd : kd < 6) (hWd : mdWd al) : Kt l y_Mo_isSub (yw y_Mo_isSub b_Mo_isSub 5 (some .boolean)) 3 72 0 0 D cls tys (fun _ _ _ => True) [.ref h, .int (nI a), .int (nI b), .int (nI kd)] (mdW tc h ar now sc ai al) (fun r w => r = some (.int (bI (decide ((sl T a b).map lwr = snL kd)))) ∧ w = (mdW tc h ar now sc ai al)) := by
  refine Kt.of ro_true (by decide) rfl hty (Nat.le_of_ble_eq_true rfl) ?_
  intro p e s m args below meth c0 A hC hr hlk hnm hF
  have hFt : vx_Ft y_Mo_isSub.cls (yw y_Mo_isSub b_Mo_isSub 5 (some .boolean)) cls cty ft_Mo := ft_of (fun w h => List.mem_cons_of_mem _ h) fl_Mo_in ft_Mo_b
  have hini : false = true → meth.name = "<init>" := fun h => by cases h
  obtain ⟨hF8, h11, hlenT, htx, hT, h12, hps⟩ := id hM
  have hTl := hT.1
  refine vx_go hC hFt hini (vx_ends hC hr hlk) jc_Mo_isSub 0 (by decide) rfl ?_
  refine And.intro (fun c1 => ?_) (fun c1 => ?_)
  · skip
    have c1 : kd = 0 := (nI_eq (a := kd) (b := 0) (by omega) (by omega)).mp c1
    refine vx_go hC hFt hini (vx_ends hC hr hlk) jc_Mo_isSub 5 (by decide) rfl ?_
    refine vx_go hC hFt hini (vx_ends hC hr hlk) jc_Mo_isSub 23 (by decide) rfl ?_
    refine And.intro rfl ?_
    refine And.intro rfl (And.intro rfl (And.intro (vp_in_nI (n := 1) (N := 15) (by decide) (by decide)) ?_))
    refine mo_call hC (c_Mo_isWord l D tys tc hty h ar now sc ai al F T ps hM (al 13 1) (WDS.getD 1 []) (hWd 1 (by decide)) a b hab (by omega)) wm_Mo_isWord wl_Mo_146 wi_Mo_isWord ws_Mo_Mo_isWord ⟨by decide, by decide⟩ rfl rfl (Nat.le_of_ble_eq_true rfl) ⟨Nat.zero_le _, Nat.zero_le _⟩ (fun r' w1 hp => ?_)
    obtain ⟨rfl, rfl⟩ := hp
    refine And.intro ((bI_narrow _)) (And.intro ?_ (And.intro (Nat.le_refl _) (Nat.le_refl _)))
    rw [snL, if_pos (by omega)]
    exact And.intro (by rw [← syq_sl hab hb]; rfl) rfl
  · skip
    have c1 : ¬ (kd = 0) := fun z => c1 (by rw [z]; rfl)
    refine And.intro (fun c4 => ?_) (fun c4 => ?_)
    · skip
      have c4 : ¬ (kd = 4) := fun z => c4 (by rw [z]; rfl)
      refine vx_go hC hFt hini (vx_ends hC hr hlk) jc_Mo_isSub 7 (by decide) rfl ?_
      refine And.intro (fun c9 => ?_) (fun c9 => ?_)
      · skip
        have c9 : ¬ (kd = 1) := fun z => c9 (by rw [z]; rfl)
        refine vx_go hC hFt hini (vx_ends hC hr hlk) jc_Mo_isSub 12 (by decide) rfl ?_
        refine And.intro (fun c14 => ?_) (fun c14 => ?_)
        · skip
          have c14 : ¬ (kd = 2) := fun z => c14 (by rw [z]; rfl)
          refine vx_go hC hFt hini (vx_ends hC hr hlk) jc_Mo_isSub 17 (by decide) rfl ?_
          refine And.intro (fun c19 => ?_) (fun c19 => ?_)
          · skip
            have c19 : ¬ (kd = 3) := fun z => c19 (by rw [z]; rfl)
            refine vx_go hC hFt hini (vx_ends hC hr hlk) jc_Mo_isSub 22 (by decide) rfl ?_
            refine And.intro rfl ?_
            refine And.intro rfl (And.intro rfl (And.intro (vp_in_nI (n := 6) (N := 15) (by decide) (by decide)) ?_))
            refine mo_call hC (c_Mo_isWord l D tys tc hty h ar now sc ai al F T ps hM (al 13 6) (WDS.getD 6 []) (hWd 6 (by decide)) a b hab (by omega)) wm_Mo_isWord wl_Mo_146 wi_Mo_isWord ws_Mo_Mo_isWord ⟨by decide, by decide⟩ rfl rfl (Nat.le_of_ble_eq_true rfl) ⟨Nat.zero_le _, Nat.zero_le _⟩ (fun r' w1 hp => ?_)
            obtain ⟨rfl, rfl⟩ := hp
            refine And.intro ((bI_narrow _)) (And.intro ?_ (And.intro (Nat.le_refl _) (Nat.le_refl _)))
            rw [snL, if_neg (by omega), if_neg (by omega), if_neg (by omega), if_neg (by omega)]
            exact And.intro (by rw [← syq_sl hab hb]; rfl) rfl
          · skip
            have c19 : kd = 3 := (nI_eq (a := kd) (b := 3) (by omega) (by omega)).mp c19
            refine vx_go hC hFt hini (vx_ends hC hr hlk) jc_Mo_isSub 23 (by decide) rfl ?_
            refine And.intro rfl ?_
            refine And.intro rfl (And.intro rfl (And.intro (vp_in_nI (n := 5) (N := 15) (by decide) (by decide)) ?_))
            refine mo_call hC (c_Mo_isWord l D tys tc hty h ar now sc ai al F T ps hM (al 13 5) (WDS.getD 5 []) (hWd 5 (by decide)) a b hab (by omega)) wm_Mo_isWord wl_Mo_146 wi_Mo_isWord ws_Mo_Mo_isWord ⟨by decide, by decide⟩ rfl rfl (Nat.le_of_ble_eq_true rfl) ⟨Nat.zero_le _, Nat.zero_le _⟩ (fun r' w1 hp => ?_)
            obtain ⟨rfl, rfl⟩ := hp
            refine And.intro ((bI_narrow _)) (And.intro ?_ (And.intro (Nat.le_refl _) (Nat.le_refl _)))
            rw [snL, if_neg (by omega), if_neg (by omega), if_neg (by omega), if_pos (by omega)]
            exact And.intro (by rw [← syq_sl hab hb]; rfl) rfl
        · skip
          have c14 : kd = 2 := (nI_eq (a := kd) (b := 2) (by omega) (by omega)).mp c14
          refine vx_go hC hFt hini (vx_ends hC hr hlk) jc_Mo_isSub 23 (by decide) rfl ?_
          refine And.intro rfl ?_
          refine And.intro rfl (And.intro rfl (And.intro (vp_in_nI (n := 3) (N := 15) (by decide) (by decide)) ?_))
          refine mo_call hC (c_Mo_isWord l D tys tc hty h ar now sc ai al F T ps hM (al 13 3) (WDS.getD 3 []) (hWd 3 (by decide)) a b hab (by omega)) wm_Mo_isWord wl_Mo_146 wi_Mo_isWord ws_Mo_Mo_isWord ⟨by decide, by decide⟩ rfl rfl (Nat.le_of_ble_eq_true rfl) ⟨Nat.zero_le _, Nat.zero_le _⟩ (fun r' w1 hp => ?_)
          obtain ⟨rfl, rfl⟩ := hp
          refine And.intro ((bI_narrow _)) (And.intro ?_ (And.intro (Nat.le_refl _) (Nat.le_refl _)))
          rw [snL, if_neg (by omega), if_neg (by omega), if_pos (by omega)]
          exact And.intro (by rw [← syq_sl hab hb]; rfl) rfl
      · skip
        have c9 : kd = 1 := (nI_eq (a := kd) (b := 1) (by omega) (by omega)).mp c9
        refine vx_go hC hFt hini (vx_ends hC hr hlk) jc_Mo_isSub 23 (by decide) rfl ?_
        refine And.intro rfl ?_
        refine And.intro rfl (And.intro rfl (And.intro (vp_in_nI (n := 2) (N := 15) (by decide) (by decide)) ?_))
        refine mo_call hC (c_Mo_isWord l D tys tc hty h ar now sc ai al F T ps hM (al 13 2) (WDS.getD 2 []) (hWd 2 (by decide)) a b hab (by omega)) wm_Mo_isWord wl_Mo_146 wi_Mo_isWord ws_Mo_Mo_isWord ⟨by decide, by decide⟩ rfl rfl (Nat.le_of_ble_eq_true rfl) ⟨Nat.zero_le _, Nat.zero_le _⟩ (fun r' w1 hp => ?_)
        obtain ⟨rfl, rfl⟩ := hp
        refine And.intro ((bI_narrow _)) (And.intro ?_ (And.intro (Nat.le_refl _) (Nat.le_refl _)))
        rw [snL, if_neg (by omega), if_pos (by omega)]
        exact And.intro (by rw [← syq_sl hab hb]; rfl) rfl
    · skip
      have c4 : kd = 4 := (nI_eq (a := kd) (b := 4) (by omega) (by omega)).mp c4
      refine vx_go hC hFt hini (vx_ends hC hr hlk) jc_Mo_isSub 23 (by decide) rfl ?_
      refine And.intro rfl ?_
      refine And.intro rfl (And.intro rfl (And.intro (vp_in_nI (n := 1) (N := 15) (by decide) (by decide)) ?_))
      refine mo_call hC (c_Mo_isWord l D tys tc hty h ar now sc ai al F T ps hM (al 13 1) (WDS.getD 1 []) (hWd 1 (by decide)) a b hab (by omega)) wm_Mo_isWord wl_Mo_146 wi_Mo_isWord ws_Mo_Mo_isWord ⟨by decide, by decide⟩ rfl rfl (Nat.le_of_ble_eq_true rfl) ⟨Nat.zero_le _, Nat.zero_le _⟩ (fun r' w1 hp => ?_)
      obtain ⟨rfl, rfl⟩ := hp
      refine And.intro ((bI_narrow _)) (And.intro ?_ (And.intro (Nat.le_refl _) (Nat.le_refl _)))
      rw [snL, if_pos (by omega)]
      exact And.intro (by rw [← syq_sl hab hb]; rfl) rfl
set_option maxRecDepth 100000 in
set_option maxHeartbeats 4000000 in
theorem c_Mo_speaks (l : Launch) (D : va_G) (tys : List (ClassId × FieldType)) (tc : Nat → ClassId) (hty : ∀ i : Nat, i < 4 → tys[i]? = some (tc i, vx_ty i)) (h : Nat) (ar : Nat → Nat) (now : Int64) (sc : Nat → Int32) (ai : Nat → Nat → Int32) (al : Nat → Nat → Int64) (F : Nat) (T : List Nat) (ps : Nat) (hM : mdS sc ai F T ps) (a b : Nat) (hab : a ≤ b) (hb : b ≤ T.length) (h13 : sc 13 = nI a) (h14 : sc 14 = nI b) (wh : Nat) (hwh : wh < 5) (hWd : mdWd al) : Kt l y_Mo_speaks (yw y_Mo_speaks b_Mo_speaks 6 (some .boolean)) 1 22 0 0 D cls tys (fun _ _ _ => True) [.ref h, .int (nI wh)] (mdW tc h ar now sc ai al) (fun r w => r = some (.int (bI (spk (sl T a b) (WDS.getD (10 + wh) [])))) ∧ w = (mdW tc h ar now sc ai al)) := by
  refine Kt.of ro_true (by decide) rfl hty (Nat.le_of_ble_eq_true rfl) ?_
  intro p e s m args below meth c0 A hC hr hlk hnm hF
  have hFt : vx_Ft y_Mo_speaks.cls (yw y_Mo_speaks b_Mo_speaks 6 (some .boolean)) cls cty ft_Mo := ft_of (fun w h => List.mem_cons_of_mem _ h) fl_Mo_in ft_Mo_b
  have hini : false = true → meth.name = "<init>" := fun h => by cases h
  obtain ⟨hF8, h11, hlenT, htx, hT, h12, hps⟩ := id hM
  have hTl := hT.1
  have hW : isWd (al 13 (10 + wh)) (WDS.getD (10 + wh) []) := hWd (10 + wh) (by omega)
  have hW8 := hW.1
  refine vx_gon hC hFt hini (vx_ends hC hr hlk) jc_Mo_speaks 0 21 (by decide) rfl ?_
  refine And.intro rfl ?_
  have e5 : (10 : Int32) + nI wh = nI (10 + wh) := nI_add 10 wh
  refine And.intro rfl (And.intro rfl (And.intro (show vp_in ((10 : Int32) + nI wh) 15 by rw [e5]; exact vp_in_nI (by omega) (by decide)) ?_))
  rw [show al 13 (((0, 0, 0, 10, 0) : wq_A).2.2.2.1 + nI wh).toNatClampNeg = (al 13 (10 + wh)) by rw [show ((0, 0, 0, 10, 0) : wq_A).2.2.2.1 + nI wh = nI (10 + wh) from e5, nI_clamp (by omega)]]
  refine And.intro rfl ?_
  refine And.intro rfl ?_
  refine mo_calls hC (c_Mo_lengthOf l D tys tc hty (al 13 (10 + wh)) (WDS.getD (10 + wh) []) hW) wm_Mo_lengthOf wl_Mo_135 wt_Mo_lengthOf ⟨by decide, by decide⟩ rfl rfl (Nat.le_of_ble_eq_true rfl) ⟨Nat.zero_le _, Nat.zero_le _⟩ (fun r' hp => ?_)
  subst hp
  refine And.intro (fun c16 => ?_) (fun c16 => ?_)
  · skip
    have c16 : b - a ≤ (WDS.getD (10 + wh) []).length := by
      rw [h14, h13, pk_sub hab] at c16
      exact (nI_leI (by omega) (by omega)).mp c16
    refine vx_gon hC hFt hini (vx_ends hC hr hlk) jc_Mo_speaks 19 2 (by decide) rfl ?_
    refine Vx.subL (lv' := [(0, .ref h), (1, .int (nI wh)), (2, .long (al 13 (10 + wh))), (4, .int (sc 14 - sc 13)), (5, .int (nI 0))]) [3, 4, 2, 1, 0] rfl ?_
    obtain ⟨i, hi⟩ : ∃ i : Nat, i = 0 := ⟨_, rfl⟩
    refine Vx.eqs rfl (lv2 := [(0, .ref h), (1, .int (nI wh)), (2, .long (al 13 (10 + wh))), (4, .int (nI (b - a))), (5, .int (nI i))]) (by rw [hi, h13, h14, pk_sub hab]) rfl rfl ?_
    have hpre : (sl T a (a + i)).map lwr = (WDS.getD (10 + wh) []).take i := by rw [hi, Nat.add_zero, sl_nil]; rfl
    have hile : i ≤ b - a := by omega
    clear hi
    induction hn : b - a - i using Nat.strongRecOn generalizing i with
    | _ n ih =>
      refine vx_go hC hFt hini (vx_ends hC hr hlk) jc_Mo_speaks 21 (by decide) rfl ?_
      refine And.intro (fun c23 => ?_) (fun c23 => ?_)
      · skip
        have c23 := (nI_leI (a := (b - a)) (b := i) (by omega) (by omega)).mp c23
        refine vx_go hC hFt hini (vx_ends hC hr hlk) jc_Mo_speaks 44 (by decide) rfl ?_
        refine mo_calls hC (c_Mo_lengthOf l D tys tc hty (al 13 (10 + wh)) (WDS.getD (10 + wh) []) hW) wm_Mo_lengthOf wl_Mo_135 wt_Mo_lengthOf ⟨by decide, by decide⟩ rfl rfl (Nat.le_of_ble_eq_true rfl) ⟨Nat.zero_le _, Nat.zero_le _⟩ (fun r' hp => ?_)
        subst hp
        refine And.intro (fun c47 => ?_) (fun c47 => ?_)
        · skip
          have c47 : b - a = (WDS.getD (10 + wh) []).length := (nI_eq (by omega) (by omega)).mp c47
          refine vx_go hC hFt hini (vx_ends hC hr hlk) jc_Mo_speaks 58 (by decide) rfl ?_
          refine vx_go hC hFt hini (vx_ends hC hr hlk) jc_Mo_speaks 61 (by decide) rfl ?_
          refine And.intro (rfl) (And.intro ?_ (And.intro (Nat.le_refl _) (Nat.le_refl _)))
          rw [spk, sl_len hb, decide_eq_true (show b - a ≤ (WDS.getD (10 + wh) []).length by omega), decide_eq_true (p := (sl T a b).map lwr = (WDS.getD (10 + wh) []).take (b - a)) (by have hp9 := hpre; rw [show a + i = b by omega] at hp9; rw [hp9, show b - a = i by omega])]
          rw [decide_eq_true c47]
          exact And.intro rfl rfl
        · skip
          have c47 : ¬ (b - a = (WDS.getD (10 + wh) []).length) := fun z => c47 (by rw [z])
          refine And.intro (Or.inr (Or.inl ⟨_, rfl, hC.2.2.2.2.1 _ (List.mem_cons_of_mem _ wc_Mo_103)⟩)) ?_
          refine And.intro (Or.inr (Or.inl ⟨_, rfl, hC.2.2.2.2.1 _ (List.mem_cons_of_mem _ wc_Mo_212)⟩)) ?_
          refine And.intro (fun c57 => ?_) (fun c57 => ?_)
          · skip
            have hwk := hW.2.1 (b - a) (by omega)
            have c57 : ¬ ((WDS.getD (10 + wh) []).getD (b - a) 0 = 45) := fun z => c57 (lgc.mpr (show (((al 13 (10 + wh)) >>> (((8 : Int32) * nI (b - a)).toInt64 &&& 63)) &&& 255) = 45 by rw [hwk.1, z]; rfl))
            refine vx_go hC hFt hini (vx_ends hC hr hlk) jc_Mo_speaks 60 (by decide) rfl ?_
            refine And.intro (rfl) (And.intro ?_ (And.intro (Nat.le_refl _) (Nat.le_refl _)))
            rw [spk, sl_len hb, decide_eq_true (show b - a ≤ (WDS.getD (10 + wh) []).length by omega), decide_eq_true (p := (sl T a b).map lwr = (WDS.getD (10 + wh) []).take (b - a)) (by have hp9 := hpre; rw [show a + i = b by omega] at hp9; rw [hp9, show b - a = i by omega])]
            rw [decide_eq_false c47, decide_eq_false c57]
            exact And.intro rfl rfl
          · skip
            have hwk := hW.2.1 (b - a) (by omega)
            have c57 : (WDS.getD (10 + wh) []).getD (b - a) 0 = 45 := by
              have c57 : (((al 13 (10 + wh)) >>> (((8 : Int32) * nI (b - a)).toInt64 &&& 63)) &&& 255) = lN 45 := lgc.mp c57
              rw [hwk.1] at c57
              exact (lN_eq (by omega) (by omega)).mp c57
            refine vx_go hC hFt hini (vx_ends hC hr hlk) jc_Mo_speaks 61 (by decide) rfl ?_
            refine And.intro (rfl) (And.intro ?_ (And.intro (Nat.le_refl _) (Nat.le_refl _)))
            rw [spk, sl_len hb, decide_eq_true (show b - a ≤ (WDS.getD (10 + wh) []).length by omega), decide_eq_true (p := (sl T a b).map lwr = (WDS.getD (10 + wh) []).take (b - a)) (by have hp9 := hpre; rw [show a + i = b by omega] at hp9; rw [hp9, show b - a = i by omega])]
            rw [decide_eq_false c47, decide_eq_true c57]
            exact And.intro rfl rfl
      · skip
        have c23 : ¬ ((b - a) ≤ i) := fun z => c23 ((nI_leI (a := (b - a)) (b := i) (by omega) (by omega)).mpr z)
        refine And.intro rfl ?_
        refine mo_call hC (c_Mo_charAt l D tys tc hty h ar now sc ai al F T ps hM (a + i) (by omega)) wm_Mo_charAt wl_Mo_111 wi_Mo_charAt ws_Mo_Mo_charAt ⟨by decide, by decide⟩ rfl (show [Value.int (sc 13 + nI i), Value.ref h] = [Value.int (nI (a + i)), Value.ref h] by rw [h13, nI_add]) (Nat.le_of_ble_eq_true rfl) ⟨Nat.zero_le _, Nat.zero_le _⟩ (fun r' w1 hp => ?_)
        obtain ⟨rfl, rfl⟩ := hp
        refine mo_calls hC (c_Mo_lower l D tys tc hty (T.getD (a + i) 0) (T_lt hT _)) wm_Mo_lower wl_Mo_139 wt_Mo_lower ⟨by decide, by decide⟩ rfl rfl (Nat.le_of_ble_eq_true rfl) ⟨Nat.zero_le _, Nat.zero_le _⟩ (fun r' hp => ?_)
        subst hp
        refine And.intro (Or.inr (Or.inl ⟨_, rfl, hC.2.2.2.2.1 _ (List.mem_cons_of_mem _ wc_Mo_103)⟩)) ?_
        refine And.intro (fun c39 => ?_) (fun c39 => ?_)
        · skip
          have hwk := hW.2.1 i (by omega)
          have c39 : lwr (T.getD (a + i) 0) = (WDS.getD (10 + wh) []).getD i 0 := by
            have c39 : _ = (((al 13 (10 + wh)) >>> (((8 : Int32) * nI i).toInt64 &&& 63)) &&& 255).toInt32 := c39
            rw [hwk.1, lN_i] at c39
            exact (nI_eq (by have := lwr_lt (T_lt hT (a + i)); omega) (by omega)).mp c39
          refine vx_go hC hFt hini (vx_ends hC hr hlk) jc_Mo_speaks 42 (by decide) rfl ?_
          refine Vx.subL (lv' := [(0, .ref h), (1, .int (nI wh)), (2, .long (al 13 (10 + wh))), (4, .int (nI (b - a))), (5, .int (nI i + 1))]) [1, 2, 3, 4, 0] rfl ?_
          rw [nI_1]
          exact ih (b - a - (i + 1)) (by omega) (i + 1) (by rw [← Nat.add_assoc, sl_snoc (by omega) (by omega), List.map_append, hpre, List.map_cons, List.map_nil, c39, take_snoc (by omega)]) (by omega) rfl
        · skip
          have hwk := hW.2.1 i (by omega)
          have c39 : ¬ (lwr (T.getD (a + i) 0) = (WDS.getD (10 + wh) []).getD i 0) := fun z => c39 (by rw [z]; show _ = (((al 13 (10 + wh)) >>> (((8 : Int32) * nI i).toInt64 &&& 63)) &&& 255).toInt32; rw [hwk.1, lN_i])
          refine And.intro (rfl) (And.intro ?_ (And.intro (Nat.le_refl _) (Nat.le_refl _)))
          rw [spk, sl_len hb, decide_eq_false (p := (sl T a b).map lwr = (WDS.getD (10 + wh) []).take (b - a)) (fun z => c39 ?_), Bool.false_and, Bool.and_false]
          · exact And.intro rfl rfl
          · have h1 : ((sl T a b).map lwr).getD i 0 = lwr (T.getD (a + i) 0) := by rw [get_map (by rw [sl_len hb]; omega), sl_get (by omega)]
            rw [← h1, z, take_getD (by omega)]
  · skip
    have c16 : ¬ (b - a ≤ (WDS.getD (10 + wh) []).length) := fun z => c16 (by rw [h14, h13, pk_sub hab]; exact (nI_leI (by omega) (by omega)).mpr z)
    refine And.intro (rfl) (And.intro ?_ (And.intro (Nat.le_refl _) (Nat.le_refl _)))
    rw [spk, sl_len hb, decide_eq_false (by omega)]
    exact And.intro rfl rfl
