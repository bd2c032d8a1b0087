/-! THE READER: weights, languages, quoted texts, by program (wip/whole/gen/p14.py) -/
theorem bI_t : ¬ bI true = 0 := by decide
def wls : Nat → Nat → List Nat → Nat × List Nat
  | _, th, [] => (th, [])
  | s, th, x :: r => if 0 < s ∧ isDg x = true then wls (s / 10) (th + s * (x - 48)) r else (th, x :: r)
/-- what may follow the first digit of a weight -/
def wt2 (th : Nat) (rs : List Nat) : Option Nat × List Nat := match pk 46 rs with
  | (false, r) => (some th, r)
  | (true, r) => (if 1000 < (wls 100 th r).1 then none else some (wls 100 th r).1, (wls 100 th r).2)
/-- a weight from its = on -/
def wt (rs : List Nat) : Option Nat × List Nat := match pk 61 rs with
  | (false, r) => (none, r)
  | (true, r) => match pk 49 r with
    | (true, r) => wt2 1000 r
    | (false, r) => match pk 48 r with
      | (false, r) => (none, r)
      | (true, r) => wt2 0 r
theorem wls_no {s th x : Nat} {r : List Nat} (h : ¬ (0 < s ∧ isDg x = true)) : wls s th (x :: r) = (th, x :: r) := by rw [wls, if_neg h]
theorem wls_0 {th : Nat} (rs : List Nat) : wls 0 th rs = (th, rs) := by cases rs with
  | nil => rfl
  | cons x r => exact wls_no (by simp)
theorem wls_go {s th x : Nat} {r : List Nat} (h : 0 < s) (h2 : isDg x = true) : wls s th (x :: r) = wls (s / 10) (th + s * (x - 48)) r := by rw [wls, if_pos ⟨h, h2⟩]
theorem wt_add {s th x : Nat} (h : 48 ≤ x) : nI th + nI s * (nI x - (48 : Int32)) = nI (th + s * (x - 48)) := by
  rw [show (48 : Int32) = nI 48 from rfl, pk_sub h, pk_mul, nI_add]
theorem div10 {s : Nat} (h : s < 2 ^ 31) : nI s / (10 : Int32) = nI (s / 10) := pk_div h (by decide) (by decide)
set_option maxRecDepth 100000 in
set_option maxHeartbeats 4000000 in
theorem c_Rd_takeWeight (l : Launch) (D : va_G) (tys : List (ClassId × FieldType)) (tc : Nat → ClassId) (hty : ∀ i : Nat, i < 4 → tys[i]? = some (tc i, vx_ty i)) (ci : Nat) (hci : ci < 5) (h ra sa : Nat) (ex : List Value) (T rs : List Nat) (sd : Nat → Int32) (ss : Nat) (hT : isT T) (hs : rs <:+ T) : Kt l y_Rd_takeWeight (yw y_Rd_takeWeight b_Rd_takeWeight 4 (some .int)) 1 21 0 0 D cls tys (rdF ra T) [.ref h] (rdW tc ci h ra sa ex T rs sd ss) (fun r w => r = some (.int (iI (wt rs).1)) ∧ w = rdW tc ci h ra sa ex T (wt rs).2 sd ss) := by
  refine Kt.of (rdF_ro _ _) (by decide) rfl hty (Nat.le_of_ble_eq_true rfl) ?_
  intro p e s m args below meth c0 A hC hr hlk hnm hF
  have hFt : vx_Ft y_Rd_takeWeight.cls (yw y_Rd_takeWeight b_Rd_takeWeight 4 (some .int)) cls cty ft_Rd := ft_of (fun w h => List.mem_cons_of_mem _ h) fl_Rd_in ft_Rd_b
  have hini : false = true → meth.name = "<init>" := fun h => by cases h
  have hF0 := hF
  obtain ⟨N, f, hrow, hN, hf⟩ := hF
  have hTl := hT.1
  rcases (show ci = 0 ∨ ci = 1 ∨ ci = 2 ∨ ci = 3 ∨ ci = 4 by omega) with rfl | rfl | rfl | rfl | rfl
  all_goals
    refine vx_gon hC hFt hini (vx_ends hC hr hlk) jc_Rd_takeWeight 0 32 (by decide) rfl ?_
    refine rd_call hC hF0 (c_Rd_take l D tys tc hty _ hci h ra sa ex T rs sd ss 61 hT hs (by decide)) wm_Rd_take wl_Rd_41 wi_Rd_take (hC.2.2.2.2.1 _ (List.mem_cons_of_mem _ (sel_take _ hci))) hci ⟨by decide, by decide⟩ rfl rfl (by decide) ⟨Nat.zero_le _, Nat.zero_le _⟩ (fun r1 w1 hp => ?_)
    obtain ⟨rfl, rfl⟩ := hp
    have hs1 := pk_sfx (c := 61) hs
    generalize hpk1 : pk 61 rs = q at hs1 ⊢
    obtain ⟨b1, t1⟩ := q
    dsimp only at hs1 ⊢
    refine And.intro (fun c3 => ?_) (fun c3 => ?_)
    · skip
      obtain rfl : b1 = true := bI_ne c3
      refine vx_gon hC hFt hini (vx_ends hC hr hlk) jc_Rd_takeWeight 6 26 (by decide) rfl ?_
      refine rd_call hC hF0 (c_Rd_take l D tys tc hty _ hci h ra sa ex T t1 sd ss 49 hT hs1 (by decide)) wm_Rd_take wl_Rd_41 wi_Rd_take (hC.2.2.2.2.1 _ (List.mem_cons_of_mem _ (sel_take _ hci))) hci ⟨by decide, by decide⟩ rfl rfl (by decide) ⟨Nat.zero_le _, Nat.zero_le _⟩ (fun r2 w1 hp => ?_)
      obtain ⟨rfl, rfl⟩ := hp
      have hs2 := pk_sfx (c := 49) hs1
      generalize hpk2 : pk 49 t1 = q at hs2 ⊢
      obtain ⟨b2, t2⟩ := q
      dsimp only at hs2 ⊢
      refine And.intro (fun c11 => ?_) (fun c11 => ?_)
      · skip
        obtain rfl : b2 = true := bI_ne c11
        refine vx_gon hC hFt hini (vx_ends hC hr hlk) jc_Rd_takeWeight 18 14 (by decide) rfl ?_
        refine And.intro (fun c19 => ?_) (fun c19 => ?_)
        · skip
          exact absurd c19 bI_t
        · skip
          refine vx_gon hC hFt hini (vx_ends hC hr hlk) jc_Rd_takeWeight 23 9 (by decide) rfl ?_
          refine rd_call hC hF0 (c_Rd_take l D tys tc hty _ hci h ra sa ex T t2 sd ss 46 hT hs2 (by decide)) wm_Rd_take wl_Rd_41 wi_Rd_take (hC.2.2.2.2.1 _ (List.mem_cons_of_mem _ (sel_take _ hci))) hci ⟨by decide, by decide⟩ rfl rfl (by decide) ⟨Nat.zero_le _, Nat.zero_le _⟩ (fun r4 w1 hp => ?_)
          obtain ⟨rfl, rfl⟩ := hp
          have hs4 := pk_sfx (c := 46) hs2
          generalize hpk4 : pk 46 t2 = q at hs4 ⊢
          obtain ⟨b4, t4⟩ := q
          dsimp only at hs4 ⊢
          refine And.intro (fun c27 => ?_) (fun c27 => ?_)
          · skip
            obtain rfl : b4 = true := bI_ne c27
            refine vx_gon hC hFt hini (vx_ends hC hr hlk) jc_Rd_takeWeight 30 2 (by decide) rfl ?_
            have hspec : wt rs = (if 1000 < (wls 100 1000 t4).1 then none else some (wls 100 1000 t4).1, (wls 100 1000 t4).2) := by simp only [wt, wt2, hpk1, hpk2, hpk4]
            rw [hspec]
            clear hspec
            have hq2 := sfx_le hs4
            generalize hres : wls 100 1000 t4 = RES
            obtain ⟨th, hth⟩ : ∃ th : Nat, th = 1000 := ⟨_, rfl⟩
            obtain ⟨sl, hsl⟩ : ∃ sl : Nat, sl = 100 := ⟨_, rfl⟩
            have hbd : th + 10 * sl ≤ 2000 := by omega
            refine Vx.subL (lv' := [(0, .ref h), (1, .int (bI true)), (2, .int (nI 1000)), (3, .int (nI 100))]) [3, 2, 1, 0] rfl ?_
            refine Vx.eqs rfl (lv2 := [(0, .ref h), (1, .int (bI true)), (2, .int (nI th)), (3, .int (nI sl))]) (by rw [hth, hsl]) rfl rfl ?_
            replace hres : wls sl th t4 = RES := by rw [hth, hsl]; exact hres
            clear hth hsl hpk4 hq2 c27
            induction hlen : t4.length using Nat.strongRecOn generalizing t4 th sl with
            | _ n ih =>
              refine vx_go hC hFt hini (vx_ends hC hr hlk) jc_Rd_takeWeight 32 (by decide) rfl ?_
              refine And.intro (fun c33 => ?_) (fun c33 => ?_)
              · skip
                have c33 : sl = 0 := by
                  have := (nI_leI (a := sl) (b := 0) (by omega) (by omega)).mp c33
                  omega
                subst c33
                refine vx_go hC hFt hini (vx_ends hC hr hlk) jc_Rd_takeWeight 69 (by decide) rfl ?_
                refine And.intro (fun c71 => ?_) (fun c71 => ?_)
                · skip
                  have c71 := (nI_leI (a := th) (b := 1000) (by omega) (by omega)).mp c71
                  refine vx_go hC hFt hini (vx_ends hC hr hlk) jc_Rd_takeWeight 74 (by decide) rfl ?_
                  refine And.intro (trivial) (And.intro ?_ (And.intro (Nat.le_refl _) (Nat.le_refl _)))
                  rw [← hres, wls_0]
                  rw [if_neg (by omega)]
                  first | exact And.intro rfl rfl | exact And.intro rfl trivial
                · skip
                  have c71 : ¬ (th ≤ 1000) := fun z => c71 ((nI_leI (a := th) (b := 1000) (by omega) (by omega)).mpr z)
                  refine vx_go hC hFt hini (vx_ends hC hr hlk) jc_Rd_takeWeight 75 (by decide) rfl ?_
                  refine And.intro (trivial) (And.intro ?_ (And.intro (Nat.le_refl _) (Nat.le_refl _)))
                  rw [← hres, wls_0]
                  rw [if_pos (by omega)]
                  first | exact And.intro rfl rfl | exact And.intro rfl trivial
              · skip
                have c33 : 0 < sl := Nat.pos_of_ne_zero (fun z => c33 (by rw [z]; exact nI_le (Nat.le_refl 0) (by decide)))
                refine And.intro rfl ?_
                refine And.intro rfl ?_
                refine And.intro (fun c38 => ?_) (fun c38 => ?_)
                · skip
                  have hle := sfx_le hs4
                  have hnil : t4 = [] := by
                    have h2 := (nI_leI (a := T.length) (b := T.length - t4.length) (by omega) (by omega)).mp c38
                    exact List.eq_nil_of_length_eq_zero (by omega)
                  subst hnil
                  refine vx_go hC hFt hini (vx_ends hC hr hlk) jc_Rd_takeWeight 69 (by decide) rfl ?_
                  refine And.intro (fun c71 => ?_) (fun c71 => ?_)
                  · skip
                    have c71 := (nI_leI (a := th) (b := 1000) (by omega) (by omega)).mp c71
                    refine vx_go hC hFt hini (vx_ends hC hr hlk) jc_Rd_takeWeight 74 (by decide) rfl ?_
                    refine And.intro (trivial) (And.intro ?_ (And.intro (Nat.le_refl _) (Nat.le_refl _)))
                    rw [← hres, show wls sl th [] = (th, []) from rfl]
                    rw [if_neg (by omega)]
                    first | exact And.intro rfl rfl | exact And.intro rfl trivial
                  · skip
                    have c71 : ¬ (th ≤ 1000) := fun z => c71 ((nI_leI (a := th) (b := 1000) (by omega) (by omega)).mpr z)
                    refine vx_go hC hFt hini (vx_ends hC hr hlk) jc_Rd_takeWeight 75 (by decide) rfl ?_
                    refine And.intro (trivial) (And.intro ?_ (And.intro (Nat.le_refl _) (Nat.le_refl _)))
                    rw [← hres, show wls sl th [] = (th, []) from rfl]
                    rw [if_pos (by omega)]
                    first | exact And.intro rfl rfl | exact And.intro rfl trivial
                · skip
                  have hle := sfx_le hs4
                  obtain ⟨x, r, hrs⟩ : ∃ x r, t4 = x :: r := by
                    cases hrs : t4 with
                    | nil => subst hrs; exact absurd ((nI_leI (a := T.length) (b := T.length - 0) (by omega) (by omega)).mpr (by omega)) c38
                    | cons x r => exact ⟨x, r, rfl⟩
                  obtain ⟨g1, g2, g3, g4, g5⟩ := sfx_at hs4 hrs
                  have g6 := hT.2 x g5
                  subst hrs
                  refine And.intro rfl ?_
                  refine And.intro rfl ?_
                  refine ⟨N, f, hrow, vp_in_nI (by omega) hN.2, ?_⟩
                  rw [nI_clamp (by omega), hf _ g1, g2]
                  refine rd_calls hC (c_Rd_isDigit l D tys tc hty x (by omega)) wm_Rd_isDigit wl_Rd_77 wt_Rd_isDigit ⟨by decide, by decide⟩ rfl rfl (by decide) ⟨Nat.zero_le _, Nat.zero_le _⟩ (fun r' hp => ?_)
                  subst hp
                  refine And.intro (fun c45 => ?_) (fun c45 => ?_)
                  · skip
                    have c45 := bI_eq c45
                    refine vx_go hC hFt hini (vx_ends hC hr hlk) jc_Rd_takeWeight 69 (by decide) rfl ?_
                    refine And.intro (fun c71 => ?_) (fun c71 => ?_)
                    · skip
                      have c71 := (nI_leI (a := th) (b := 1000) (by omega) (by omega)).mp c71
                      refine vx_go hC hFt hini (vx_ends hC hr hlk) jc_Rd_takeWeight 74 (by decide) rfl ?_
                      refine And.intro (trivial) (And.intro ?_ (And.intro (Nat.le_refl _) (Nat.le_refl _)))
                      rw [← hres, wls_no (by simp [c45])]
                      rw [if_neg (by omega)]
                      first | exact And.intro rfl rfl | exact And.intro rfl trivial
                    · skip
                      have c71 : ¬ (th ≤ 1000) := fun z => c71 ((nI_leI (a := th) (b := 1000) (by omega) (by omega)).mpr z)
                      refine vx_go hC hFt hini (vx_ends hC hr hlk) jc_Rd_takeWeight 75 (by decide) rfl ?_
                      refine And.intro (trivial) (And.intro ?_ (And.intro (Nat.le_refl _) (Nat.le_refl _)))
                      rw [← hres, wls_no (by simp [c45])]
                      rw [if_pos (by omega)]
                      first | exact And.intro rfl rfl | exact And.intro rfl trivial
                  · skip
                    have c45 : isDg x = true := bI_ne c45
                    have hdg := dg_in c45
                    refine And.intro rfl ?_
                    refine And.intro rfl ?_
                    refine ⟨N, f, hrow, vp_in_nI (by omega) hN.2, ?_⟩
                    rw [nI_clamp (by omega), hf _ g1, g2]
                    refine And.intro rfl ?_
                    refine And.intro rfl ?_
                    refine And.intro rfl (And.intro (And.intro rfl rfl) ?_)
                    refine And.intro (by decide) ?_
                    refine Vx.subL (lv' := [(0, .ref h), (1, .int (bI true)), (2, .int (nI th + nI sl * (nI x - (48 : Int32)))), (3, .int (nI sl / (10 : Int32)))]) [2, 3, 1, 0] rfl ?_
                    refine Vx.eqs rfl (by rw [wt_add (by omega), div10 (by omega)]) rfl (rd_step g4) (ih r.length (by simp at hlen; omega) r g3 (th + sl * (x - 48)) (sl / 10) ?_ ?_ rfl)
                    · have h1 : sl * (x - 48) ≤ sl * 9 := Nat.mul_le_mul_left _ (by omega)
                      omega
                    · rw [← hres, wls_go c33 c45]
          · skip
            obtain rfl : b4 = false := bI_eq c27
            refine And.intro (trivial) (And.intro ?_ (And.intro (Nat.le_refl _) (Nat.le_refl _)))
            simp only [wt, wt2, hpk1, hpk2, hpk4]
            first | exact And.intro rfl rfl | exact And.intro rfl trivial
      · skip
        obtain rfl : b2 = false := bI_eq c11
        refine rd_call hC hF0 (c_Rd_take l D tys tc hty _ hci h ra sa ex T t2 sd ss 48 hT hs2 (by decide)) wm_Rd_take wl_Rd_41 wi_Rd_take (hC.2.2.2.2.1 _ (List.mem_cons_of_mem _ (sel_take _ hci))) hci ⟨by decide, by decide⟩ rfl rfl (by decide) ⟨Nat.zero_le _, Nat.zero_le _⟩ (fun r3 w1 hp => ?_)
        obtain ⟨rfl, rfl⟩ := hp
        have hs3 := pk_sfx (c := 48) hs2
        generalize hpk3 : pk 48 t2 = q at hs3 ⊢
        obtain ⟨b3, t3⟩ := q
        dsimp only at hs3 ⊢
        refine And.intro (fun c15 => ?_) (fun c15 => ?_)
        · skip
          obtain rfl : b3 = true := bI_ne c15
          refine vx_gon hC hFt hini (vx_ends hC hr hlk) jc_Rd_takeWeight 18 14 (by decide) rfl ?_
          refine And.intro (fun c19 => ?_) (fun c19 => ?_)
          · skip
            refine vx_gon hC hFt hini (vx_ends hC hr hlk) jc_Rd_takeWeight 22 10 (by decide) rfl ?_
            refine rd_call hC hF0 (c_Rd_take l D tys tc hty _ hci h ra sa ex T t3 sd ss 46 hT hs3 (by decide)) wm_Rd_take wl_Rd_41 wi_Rd_take (hC.2.2.2.2.1 _ (List.mem_cons_of_mem _ (sel_take _ hci))) hci ⟨by decide, by decide⟩ rfl rfl (by decide) ⟨Nat.zero_le _, Nat.zero_le _⟩ (fun r4 w1 hp => ?_)
            obtain ⟨rfl, rfl⟩ := hp
            have hs4 := pk_sfx (c := 46) hs3
            generalize hpk4 : pk 46 t3 = q at hs4 ⊢
            obtain ⟨b4, t4⟩ := q
            dsimp only at hs4 ⊢
            refine And.intro (fun c27 => ?_) (fun c27 => ?_)
            · skip
              obtain rfl : b4 = true := bI_ne c27
              refine vx_gon hC hFt hini (vx_ends hC hr hlk) jc_Rd_takeWeight 30 2 (by decide) rfl ?_
              have hspec : wt rs = (if 1000 < (wls 100 0 t4).1 then none else some (wls 100 0 t4).1, (wls 100 0 t4).2) := by simp only [wt, wt2, hpk1, hpk2, hpk3, hpk4]
              rw [hspec]
              clear hspec
              have hq2 := sfx_le hs4
              generalize hres : wls 100 0 t4 = RES
              obtain ⟨th, hth⟩ : ∃ th : Nat, th = 0 := ⟨_, rfl⟩
              obtain ⟨sl, hsl⟩ : ∃ sl : Nat, sl = 100 := ⟨_, rfl⟩
              have hbd : th + 10 * sl ≤ 2000 := by omega
              refine Vx.subL (lv' := [(0, .ref h), (1, .int (bI false)), (2, .int (nI 0)), (3, .int (nI 100))]) [3, 2, 1, 0] rfl ?_
              refine Vx.eqs rfl (lv2 := [(0, .ref h), (1, .int (bI false)), (2, .int (nI th)), (3, .int (nI sl))]) (by rw [hth, hsl]) rfl rfl ?_
              replace hres : wls sl th t4 = RES := by rw [hth, hsl]; exact hres
              clear hth hsl hpk4 hq2 c27
              induction hlen : t4.length using Nat.strongRecOn generalizing t4 th sl with
              | _ n ih =>
                refine vx_go hC hFt hini (vx_ends hC hr hlk) jc_Rd_takeWeight 32 (by decide) rfl ?_
                refine And.intro (fun c33 => ?_) (fun c33 => ?_)
                · skip
                  have c33 : sl = 0 := by
                    have := (nI_leI (a := sl) (b := 0) (by omega) (by omega)).mp c33
                    omega
                  subst c33
                  refine vx_go hC hFt hini (vx_ends hC hr hlk) jc_Rd_takeWeight 69 (by decide) rfl ?_
                  refine And.intro (fun c71 => ?_) (fun c71 => ?_)
                  · skip
                    have c71 := (nI_leI (a := th) (b := 1000) (by omega) (by omega)).mp c71
                    refine vx_go hC hFt hini (vx_ends hC hr hlk) jc_Rd_takeWeight 74 (by decide) rfl ?_
                    refine And.intro (trivial) (And.intro ?_ (And.intro (Nat.le_refl _) (Nat.le_refl _)))
                    rw [← hres, wls_0]
                    rw [if_neg (by omega)]
                    first | exact And.intro rfl rfl | exact And.intro rfl trivial
                  · skip
                    have c71 : ¬ (th ≤ 1000) := fun z => c71 ((nI_leI (a := th) (b := 1000) (by omega) (by omega)).mpr z)
                    refine vx_go hC hFt hini (vx_ends hC hr hlk) jc_Rd_takeWeight 75 (by decide) rfl ?_
                    refine And.intro (trivial) (And.intro ?_ (And.intro (Nat.le_refl _) (Nat.le_refl _)))
                    rw [← hres, wls_0]
                    rw [if_pos (by omega)]
                    first | exact And.intro rfl rfl | exact And.intro rfl trivial
                · skip
                  have c33 : 0 < sl := Nat.pos_of_ne_zero (fun z => c33 (by rw [z]; exact nI_le (Nat.le_refl 0) (by decide)))
                  refine And.intro rfl ?_
                  refine And.intro rfl ?_
                  refine And.intro (fun c38 => ?_) (fun c38 => ?_)
                  · skip
                    have hle := sfx_le hs4
                    have hnil : t4 = [] := by
                      have h2 := (nI_leI (a := T.length) (b := T.length - t4.length) (by omega) (by omega)).mp c38
                      exact List.eq_nil_of_length_eq_zero (by omega)
                    subst hnil
                    refine vx_go hC hFt hini (vx_ends hC hr hlk) jc_Rd_takeWeight 69 (by decide) rfl ?_
                    refine And.intro (fun c71 => ?_) (fun c71 => ?_)
                    · skip
                      have c71 := (nI_leI (a := th) (b := 1000) (by omega) (by omega)).mp c71
                      refine vx_go hC hFt hini (vx_ends hC hr hlk) jc_Rd_takeWeight 74 (by decide) rfl ?_
                      refine And.intro (trivial) (And.intro ?_ (And.intro (Nat.le_refl _) (Nat.le_refl _)))
                      rw [← hres, show wls sl th [] = (th, []) from rfl]
                      rw [if_neg (by omega)]
                      first | exact And.intro rfl rfl | exact And.intro rfl trivial
                    · skip
                      have c71 : ¬ (th ≤ 1000) := fun z => c71 ((nI_leI (a := th) (b := 1000) (by omega) (by omega)).mpr z)
                      refine vx_go hC hFt hini (vx_ends hC hr hlk) jc_Rd_takeWeight 75 (by decide) rfl ?_
                      refine And.intro (trivial) (And.intro ?_ (And.intro (Nat.le_refl _) (Nat.le_refl _)))
                      rw [← hres, show wls sl th [] = (th, []) from rfl]
                      rw [if_pos (by omega)]
                      first | exact And.intro rfl rfl | exact And.intro rfl trivial
                  · skip
                    have hle := sfx_le hs4
                    obtain ⟨x, r, hrs⟩ : ∃ x r, t4 = x :: r := by
                      cases hrs : t4 with
                      | nil => subst hrs; exact absurd ((nI_leI (a := T.length) (b := T.length - 0) (by omega) (by omega)).mpr (by omega)) c38
                      | cons x r => exact ⟨x, r, rfl⟩
                    obtain ⟨g1, g2, g3, g4, g5⟩ := sfx_at hs4 hrs
                    have g6 := hT.2 x g5
                    subst hrs
                    refine And.intro rfl ?_
                    refine And.intro rfl ?_
                    refine ⟨N, f, hrow, vp_in_nI (by omega) hN.2, ?_⟩
                    rw [nI_clamp (by omega), hf _ g1, g2]
                    refine rd_calls hC (c_Rd_isDigit l D tys tc hty x (by omega)) wm_Rd_isDigit wl_Rd_77 wt_Rd_isDigit ⟨by decide, by decide⟩ rfl rfl (by decide) ⟨Nat.zero_le _, Nat.zero_le _⟩ (fun r' hp => ?_)
                    subst hp
                    refine And.intro (fun c45 => ?_) (fun c45 => ?_)
                    · skip
                      have c45 := bI_eq c45
                      refine vx_go hC hFt hini (vx_ends hC hr hlk) jc_Rd_takeWeight 69 (by decide) rfl ?_
                      refine And.intro (fun c71 => ?_) (fun c71 => ?_)
                      · skip
                        have c71 := (nI_leI (a := th) (b := 1000) (by omega) (by omega)).mp c71
                        refine vx_go hC hFt hini (vx_ends hC hr hlk) jc_Rd_takeWeight 74 (by decide) rfl ?_
                        refine And.intro (trivial) (And.intro ?_ (And.intro (Nat.le_refl _) (Nat.le_refl _)))
                        rw [← hres, wls_no (by simp [c45])]
                        rw [if_neg (by omega)]
                        first | exact And.intro rfl rfl | exact And.intro rfl trivial
                      · skip
                        have c71 : ¬ (th ≤ 1000) := fun z => c71 ((nI_leI (a := th) (b := 1000) (by omega) (by omega)).mpr z)
                        refine vx_go hC hFt hini (vx_ends hC hr hlk) jc_Rd_takeWeight 75 (by decide) rfl ?_
                        refine And.intro (trivial) (And.intro ?_ (And.intro (Nat.le_refl _) (Nat.le_refl _)))
                        rw [← hres, wls_no (by simp [c45])]
                        rw [if_pos (by omega)]
                        first | exact And.intro rfl rfl | exact And.intro rfl trivial
                    · skip
                      have c45 : isDg x = true := bI_ne c45
                      have hdg := dg_in c45
                      refine And.intro rfl ?_
                      refine And.intro rfl ?_
                      refine ⟨N, f, hrow, vp_in_nI (by omega) hN.2, ?_⟩
                      rw [nI_clamp (by omega), hf _ g1, g2]
                      refine And.intro rfl ?_
                      refine And.intro rfl ?_
                      refine And.intro rfl (And.intro (And.intro rfl rfl) ?_)
                      refine And.intro (by decide) ?_
                      refine Vx.subL (lv' := [(0, .ref h), (1, .int (bI false)), (2, .int (nI th + nI sl * (nI x - (48 : Int32)))), (3, .int (nI sl / (10 : Int32)))]) [2, 3, 1, 0] rfl ?_
                      refine Vx.eqs rfl (by rw [wt_add (by omega), div10 (by omega)]) rfl (rd_step g4) (ih r.length (by simp at hlen; omega) r g3 (th + sl * (x - 48)) (sl / 10) ?_ ?_ rfl)
                      · have h1 : sl * (x - 48) ≤ sl * 9 := Nat.mul_le_mul_left _ (by omega)
                        omega
                      · rw [← hres, wls_go c33 c45]
            · skip
              obtain rfl : b4 = false := bI_eq c27
              refine And.intro (trivial) (And.intro ?_ (And.intro (Nat.le_refl _) (Nat.le_refl _)))
              simp only [wt, wt2, hpk1, hpk2, hpk3, hpk4]
              first | exact And.intro rfl rfl | exact And.intro rfl trivial
          · skip
            exact absurd rfl c19
        · skip
          obtain rfl : b3 = false := bI_eq c15
          refine And.intro (trivial) (And.intro ?_ (And.intro (Nat.le_refl _) (Nat.le_refl _)))
          simp only [wt, hpk1, hpk2, hpk3]
          first | exact And.intro rfl rfl | exact And.intro rfl trivial
    · skip
      obtain rfl : b1 = false := bI_eq c3
      refine And.intro (trivial) (And.intro ?_ (And.intro (Nat.le_refl _) (Nat.le_refl _)))
      simp only [wt, hpk1]
      first | exact And.intro rfl rfl | exact And.intro rfl trivial
set_option maxRecDepth 100000 in
set_option maxHeartbeats 4000000 in
theorem c_Rd_saysStar (l : Launch) (D : va_G) (tys : List (ClassId × FieldType)) (tc : Nat → ClassId) (hty : ∀ i : Nat, i < 4 → tys[i]? = some (tc i, vx_ty i)) (ci : Nat) (hci : ci < 5) (h ra sa : Nat) (ex : List Value) (T rs : List Nat) (sd : Nat → Int32) (ss : Nat) (hT : isT T) (hs : rs <:+ T) (S : List Nat) (hsd : sdIs sd S) (hss : ss = S.length) (hS : S.length ≤ 96) (hS2 : ∀ i, i < S.length → S.getD i 0 < 2 ^ 31) : Kt l y_Rd_saysStar (yw y_Rd_saysStar b_Rd_saysStar 2 (some .boolean)) 0 0 0 0 D cls tys (rdF ra T) [.ref h] (rdW tc ci h ra sa ex T rs sd ss) (fun r w => r = some (.int (bI (ss_star S))) ∧ w = (rdW tc ci h ra sa ex T rs sd ss)) := by
  refine Kt.of (rdF_ro _ _) (by decide) rfl hty (Nat.le_of_ble_eq_true rfl) ?_
  intro p e s m args below meth c0 A hC hr hlk hnm hF
  have hFt : vx_Ft y_Rd_saysStar.cls (yw y_Rd_saysStar b_Rd_saysStar 2 (some .boolean)) cls cty ft_Rd := ft_of (fun w h => List.mem_cons_of_mem _ h) fl_Rd_in ft_Rd_b
  have hini : false = true → meth.name = "<init>" := fun h => by cases h
  have hF0 := hF
  obtain ⟨N, f, hrow, hN, hf⟩ := hF
  have hTl := hT.1
  rcases (show ci = 0 ∨ ci = 1 ∨ ci = 2 ∨ ci = 3 ∨ ci = 4 by omega) with rfl | rfl | rfl | rfl | rfl
  all_goals
    refine vx_gon hC hFt hini (vx_ends hC hr hlk) jc_Rd_saysStar 0 2 (by decide) rfl ?_
    subst hss
    refine Vx.subL (lv' := [(0, .ref h), (1, .int (nI 0))]) [1, 0] rfl ?_
    obtain ⟨i, hi⟩ : ∃ i : Nat, i = 0 := ⟨_, rfl⟩
    refine Vx.eqs rfl (lv2 := [(0, .ref h), (1, .int (nI i))]) (by rw [hi]) rfl rfl ?_
    have hall : ∀ j, j < i → ¬ S.getD j 0 = 42 := fun j hj => by omega
    have hile : i ≤ S.length := by omega
    clear hi
    induction hlen : S.length - i using Nat.strongRecOn generalizing i with
    | _ n ih =>
      refine vx_go hC hFt hini (vx_ends hC hr hlk) jc_Rd_saysStar 2 (by decide) rfl ?_
      refine And.intro rfl ?_
      refine And.intro (fun c5 => ?_) (fun c5 => ?_)
      · skip
        have c5 := (nI_leI (a := S.length) (b := i) (by omega) (by omega)).mp c5
        refine vx_go hC hFt hini (vx_ends hC hr hlk) jc_Rd_saysStar 16 (by decide) rfl ?_
        refine And.intro (rfl) (And.intro ?_ (And.intro (Nat.le_refl _) (Nat.le_refl _)))
        rw [star_f (fun j hj => hall j (by omega))]
        first | exact And.intro rfl rfl | exact And.intro rfl trivial
      · skip
        have c5 : ¬ (S.length ≤ i) := fun z => c5 ((nI_leI (a := S.length) (b := i) (by omega) (by omega)).mpr z)
        refine And.intro rfl ?_
        refine And.intro rfl (And.intro rfl (And.intro (vp_in_nI (by omega) (by decide)) ?_))
        rw [nI_clamp (by omega), hsd i (by omega)]
        refine And.intro (fun c11 => ?_) (fun c11 => ?_)
        · skip
          have c11 : ¬ (S.getD i 0 = 42) := fun z => c11 (by rw [z]; rfl)
          refine vx_go hC hFt hini (vx_ends hC hr hlk) jc_Rd_saysStar 14 (by decide) rfl ?_
          refine Vx.subL (lv' := [(0, .ref h), (1, .int (nI i + 1))]) [1, 0] rfl ?_
          refine Vx.eqs rfl (by rw [nI_1]) rfl rfl (ih (S.length - (i + 1)) (by omega) (i + 1) (fun j hj => ?_) (by omega) rfl)
          by_cases e : j = i
          · rw [e]; exact c11
          · exact hall j (by omega)
        · skip
          have c11 : S.getD i 0 = 42 := (nI_eq (a := S.getD i 0) (b := 42) (hS2 i (by omega)) (by omega)).mp c11
          refine And.intro (rfl) (And.intro ?_ (And.intro (Nat.le_refl _) (Nat.le_refl _)))
          rw [star_t (i := i) (by omega) c11]
          first | exact And.intro rfl rfl | exact And.intro rfl trivial
