/-! THE READER: languages, quoted texts, by program (wip/whole/gen/p15.py) -/
theorem wq_ws {nL : Nat} {ini : Bool} {tc : Nat → ClassId} {ft : List (Nat × Nat × Nat × Nat)} {ty : Nat → Nat → FieldType} {RT : Nat → Nat → Nat → (Nat → Value) → Prop} {RF : Nat → Nat → Value → Prop} {RZ : Nat → Value → Prop} {RS : Nat → Value → Prop} {SX : Jvm.ClassFile.Instr → Nat → List Value → va_W → Nat → Nat → (List Value → va_W → Nat → Nat → Prop) → Prop} {EN : Option Value → va_W → Nat → Nat → Prop} {V : Nat → wq_L → List Value → va_W → Nat → Nat → Prop} {j : wq_J} {pc : Nat} {lv : wq_L} {st : List Value} {ws ws2 : va_W} {k n : Nat} (e : ws = ws2) (h : wq nL ini tc ft ty RT RF RZ RS SX EN V j pc lv st ws2 k n) : wq nL ini tc ft ty RT RF RZ RS SX EN V j pc lv st ws k n := by subst e; exact h
/-- a quoted text behind its first mark -/
def qtx : List Nat → List Nat → Bool × List Nat × List Nat
  | [], S => (false, [], S)
  | x :: r, S => if x = 34 then (true, r, S) else if x = 92 then (match r with
      | [] => (false, [], S)
      | y :: r2 => if isQt y then qtx r2 (S ++ [y]) else (false, y :: r2, S)) else if isQt x then qtx r (S ++ [x]) else (false, x :: r, S)
def qtd (rs : List Nat) : Bool × List Nat × List Nat := match pk 34 rs with
  | (false, r) => (false, r, [])
  | (true, r) => qtx r []
theorem qtx_m {r S : List Nat} : qtx (34 :: r) S = (true, r, S) := by rw [qtx.eq_def]; simp
theorem qtx_e {S : List Nat} : qtx [92] S = (false, [], S) := by simp [qtx]
theorem qtx_eq {y : Nat} {r S : List Nat} (h : isQt y = true) : qtx (92 :: y :: r) S = qtx r (S ++ [y]) := by simp [qtx, h]
theorem qtx_en {y : Nat} {r S : List Nat} (h : isQt y = false) : qtx (92 :: y :: r) S = (false, y :: r, S) := by simp [qtx, h]
theorem qtx_q {x : Nat} {r S : List Nat} (h1 : ¬ x = 34) (h2 : ¬ x = 92) (h : isQt x = true) : qtx (x :: r) S = qtx r (S ++ [x]) := by rw [qtx.eq_def]; simp [h1, h2, h]
theorem qtx_n {x : Nat} {r S : List Nat} (h1 : ¬ x = 34) (h2 : ¬ x = 92) (h : isQt x = false) : qtx (x :: r) S = (false, x :: r, S) := by rw [qtx.eq_def]; simp [h1, h2, h]
/-- a language range: sub characters of a subtag are read, digits may come behind the first border -/
def lng : Nat → Bool → List Nat → List Nat → Bool × List Nat × List Nat
  | sub, _, [], S => (decide (0 < sub), [], S)
  | sub, dt, x :: r, S => if x = 45 then (if sub = 0 then (false, x :: r, S) else lng 0 true r (S ++ [x])) else if isLt x || (dt && isDg x) then (if sub = 8 then (false, x :: r, S) else lng (sub + 1) dt r (S ++ [x])) else (decide (0 < sub), x :: r, S)
def lgt (rs : List Nat) : Bool × List Nat × List Nat := match pk 42 rs with
  | (true, r) => (true, r, [42])
  | (false, r) => lng 0 false r []
set_option maxRecDepth 100000 in
set_option maxHeartbeats 4000000 in
theorem c_Rd_takeQuotedText (l : Launch) (D : va_G) (tys : List (ClassId × FieldType)) (tc : Nat → ClassId) (hty : ∀ i : Nat, i < 4 → tys[i]? = some (tc i, vx_ty i)) (ci : Nat) (hci : ci < 5) (h ra sa : Nat) (ex : List Value) (T rs : List Nat) (sd : Nat → Int32) (ss : Nat) (hT : isT T) (hs : rs <:+ T) : Kt l y_Rd_takeQuotedText (yw y_Rd_takeQuotedText b_Rd_takeQuotedText 1 (some .boolean)) 1 21 0 0 D cls tys (rdF ra T) [.ref h] (rdW tc ci h ra sa ex T rs sd ss) (fun r w => r = some (.int (bI (qtd rs).1)) ∧ ∃ sd2, sdIs sd2 (qtd rs).2.2 ∧ w = rdW tc ci h ra sa ex T (qtd rs).2.1 sd2 (qtd rs).2.2.length) := by
  refine Kt.of (rdF_ro _ _) (by decide) rfl hty (Nat.le_of_ble_eq_true rfl) ?_
  intro p e s m args below meth c0 A hC hr hlk hnm hF
  have hFt : vx_Ft y_Rd_takeQuotedText.cls (yw y_Rd_takeQuotedText b_Rd_takeQuotedText 1 (some .boolean)) cls cty ft_Rd := ft_of (fun w h => List.mem_cons_of_mem _ h) fl_Rd_in ft_Rd_b
  have hini : false = true → meth.name = "<init>" := fun h => by cases h
  have hF0 := hF
  obtain ⟨N, f, hrow, hN, hf⟩ := hF
  have hTl := hT.1
  rcases (show ci = 0 ∨ ci = 1 ∨ ci = 2 ∨ ci = 3 ∨ ci = 4 by omega) with rfl | rfl | rfl | rfl | rfl
  all_goals
    refine vx_gon hC hFt hini (vx_ends hC hr hlk) jc_Rd_takeQuotedText 0 9 (by decide) rfl ?_
    refine And.intro rfl (And.intro (And.intro rfl rfl) ?_)
    refine rd_call hC hF0 (c_Rd_take l D tys tc hty _ hci h ra sa ex T rs sd 0 34 hT hs (by decide)) wm_Rd_take wl_Rd_41 wi_Rd_take (hC.2.2.2.2.1 _ (List.mem_cons_of_mem _ (sel_take _ hci))) hci ⟨by decide, by decide⟩ rfl rfl (by decide) ⟨Nat.zero_le _, Nat.zero_le _⟩ (fun r1 w1 hp => ?_)
    obtain ⟨rfl, rfl⟩ := hp
    have hs1 := pk_sfx (c := 34) hs
    generalize hpk1 : pk 34 rs = q at hs1 ⊢
    obtain ⟨b1, t1⟩ := q
    dsimp only at hs1 ⊢
    refine And.intro (fun c6 => ?_) (fun c6 => ?_)
    · skip
      obtain rfl : b1 = true := bI_ne c6
      have hsp : qtd rs = qtx t1 [] := by simp only [qtd, hpk1]
      rw [hsp]
      have hsd := sd_nil sd
      have hq2 := sfx_le hs1
      generalize hres : qtx t1 [] = RES
      obtain ⟨S, hS0⟩ : ∃ S : List Nat, S = [] := ⟨_, rfl⟩
      rw [← hS0] at hsd hres
      have hSl : S.length + t1.length ≤ 96 := by rw [hS0]; simp; omega
      refine Vx.eqs rfl rfl rfl (w2 := rdW tc _ h ra sa ex T t1 sd S.length) (by rw [hS0]; rfl) ?_
      clear hpk1 hS0 hsp hq2 c6
      induction hlen : t1.length using Nat.strongRecOn generalizing t1 S sd with
      | _ n ih =>
        refine vx_go hC hFt hini (vx_ends hC hr hlk) jc_Rd_takeQuotedText 9 (by decide) rfl ?_
        refine And.intro rfl ?_
        refine And.intro rfl ?_
        refine And.intro (fun c13 => ?_) (fun c13 => ?_)
        · skip
          have hle := sfx_le hs1
          have hnil : t1 = [] := by
            have h2 := (nI_leI (a := T.length) (b := T.length - t1.length) (by omega) (by omega)).mp c13
            exact List.eq_nil_of_length_eq_zero (by omega)
          subst hnil
          refine vx_go hC hFt hini (vx_ends hC hr hlk) jc_Rd_takeQuotedText 62 (by decide) rfl ?_
          refine rd_call hC hF0 (c_Rd_take l D tys tc hty _ hci h ra sa ex T [] sd S.length 34 hT hs1 (by decide)) wm_Rd_take wl_Rd_41 wi_Rd_take (hC.2.2.2.2.1 _ (List.mem_cons_of_mem _ (sel_take _ hci))) hci ⟨by decide, by decide⟩ rfl rfl (by decide) ⟨Nat.zero_le _, Nat.zero_le _⟩ (fun r' w1 hp => ?_)
          obtain ⟨rfl, rfl⟩ := hp
          refine And.intro ((bI_narrow _)) (And.intro ?_ (And.intro (Nat.le_refl _) (Nat.le_refl _)))
          rw [← hres]
          exact And.intro rfl ⟨sd, hsd, rfl⟩
        · skip
          have hle := sfx_le hs1
          obtain ⟨x, r, hrs⟩ : ∃ x r, t1 = x :: r := by
            cases hrs : t1 with
            | nil => subst hrs; exact absurd ((nI_leI (a := T.length) (b := T.length - 0) (by omega) (by omega)).mpr (by omega)) c13
            | cons x r => exact ⟨x, r, rfl⟩
          obtain ⟨g1, g2, g3, g4, g5⟩ := sfx_at hs1 hrs
          have g6 := hT.2 x g5
          subst hrs
          refine And.intro rfl ?_
          refine And.intro rfl ?_
          refine ⟨N, f, hrow, vp_in_nI (by omega) hN.2, ?_⟩
          rw [nI_clamp (by omega), hf _ g1, g2]
          refine And.intro (fun c20 => ?_) (fun c20 => ?_)
          · skip
            have c20 := (nI_eq (a := x) (b := 34) (by omega) (by omega)).mp c20
            subst c20
            refine vx_go hC hFt hini (vx_ends hC hr hlk) jc_Rd_takeQuotedText 62 (by decide) rfl ?_
            refine rd_call hC hF0 (c_Rd_take l D tys tc hty _ hci h ra sa ex T (34 :: r) sd S.length 34 hT hs1 (by decide)) wm_Rd_take wl_Rd_41 wi_Rd_take (hC.2.2.2.2.1 _ (List.mem_cons_of_mem _ (sel_take _ hci))) hci ⟨by decide, by decide⟩ rfl rfl (by decide) ⟨Nat.zero_le _, Nat.zero_le _⟩ (fun r' w1 hp => ?_)
            obtain ⟨rfl, rfl⟩ := hp
            refine And.intro ((bI_narrow _)) (And.intro ?_ (And.intro (Nat.le_refl _) (Nat.le_refl _)))
            rw [← hres, qtx_m]
            exact And.intro (by simp [pk]) ⟨sd, hsd, by simp [pk]⟩
          · skip
            have c20 : ¬ (x = 34) := fun z => c20 ((nI_eq (a := x) (b := 34) (by omega) (by omega)).mpr z)
            refine And.intro rfl ?_
            refine And.intro rfl ?_
            refine ⟨N, f, hrow, vp_in_nI (by omega) hN.2, ?_⟩
            rw [nI_clamp (by omega), hf _ g1, g2]
            refine And.intro (fun c27 => ?_) (fun c27 => ?_)
            · skip
              have c27 : ¬ (x = 92) := fun z => c27 ((nI_eq (a := x) (b := 92) (by omega) (by omega)).mpr z)
              refine vx_go hC hFt hini (vx_ends hC hr hlk) jc_Rd_takeQuotedText 34 (by decide) rfl ?_
              refine And.intro rfl ?_
              refine And.intro rfl ?_
              refine And.intro (fun c38 => ?_) (fun c38 => ?_)
              · skip
                exact absurd c38 (nI_ge g1 (by omega))
              · skip
                refine And.intro rfl ?_
                refine And.intro rfl ?_
                refine ⟨N, f, hrow, vp_in_nI (by omega) hN.2, ?_⟩
                rw [nI_clamp (by omega), hf _ g1, g2]
                refine rd_calls hC (c_Rd_isQuotable l D tys tc hty x (by omega)) wm_Rd_isQuotable wl_Rd_71 wt_Rd_isQuotable ⟨by decide, by decide⟩ rfl rfl (by decide) ⟨Nat.zero_le _, Nat.zero_le _⟩ (fun r' hp => ?_)
                subst hp
                refine And.intro (fun c45 => ?_) (fun c45 => ?_)
                · skip
                  have c45 : isQt x = true := bI_ne c45
                  refine vx_go hC hFt hini (vx_ends hC hr hlk) jc_Rd_takeQuotedText 48 (by decide) rfl ?_
                  refine And.intro rfl ?_
                  refine And.intro rfl ?_
                  refine ⟨N, f, hrow, vp_in_nI (by omega) hN.2, ?_⟩
                  rw [nI_clamp (by omega), hf _ g1, g2]
                  refine rd_call hC hF0 (c_Rd_say l D tys tc hty _ hci h ra sa ex T (x :: r) sd S.length hT hs1 S hsd rfl (by simp at hSl; omega) x (by omega)) wm_Rd_say wl_Rd_67 wi_Rd_say (hC.2.2.2.2.1 _ (List.mem_cons_of_mem _ (sel_say _ hci))) hci ⟨by decide, by decide⟩ rfl rfl (by decide) ⟨Nat.zero_le _, Nat.zero_le _⟩ (fun r' w1 hp => ?_)
                  obtain ⟨rfl, sd2, hsd2, rfl⟩ := hp
                  refine And.intro rfl ?_
                  refine And.intro rfl ?_
                  refine And.intro rfl (And.intro (And.intro rfl rfl) ?_)
                  refine Vx.eqs rfl rfl rfl (rd_stepS g4) (ih r.length (by simp at hlen; omega) sd2 r g3 (S ++ [x]) ?_ hsd2 (by simp at hSl ⊢; omega) rfl)
                  rw [← hres, qtx_q c20 c27 c45]
                · skip
                  have c45 : isQt x = false := bI_eq c45
                  refine And.intro (rfl) (And.intro ?_ (And.intro (Nat.le_refl _) (Nat.le_refl _)))
                  rw [← hres, qtx_n c20 c27 c45]
                  exact And.intro rfl ⟨sd, hsd, rfl⟩
            · skip
              have c27 := (nI_eq (a := x) (b := 92) (by omega) (by omega)).mp c27
              subst c27
              refine And.intro rfl ?_
              refine And.intro rfl ?_
              refine And.intro rfl (And.intro (And.intro rfl rfl) ?_)
              refine wq_ws (rd_step g4) ?_
              refine And.intro rfl ?_
              refine And.intro rfl ?_
              refine And.intro (fun c38 => ?_) (fun c38 => ?_)
              · skip
                have hle := sfx_le g3
                have hnil : r = [] := by
                  have h2 := (nI_leI (a := T.length) (b := T.length - r.length) (by omega) (by omega)).mp c38
                  exact List.eq_nil_of_length_eq_zero (by omega)
                subst hnil
                refine vx_go hC hFt hini (vx_ends hC hr hlk) jc_Rd_takeQuotedText 46 (by decide) rfl ?_
                refine And.intro (rfl) (And.intro ?_ (And.intro (Nat.le_refl _) (Nat.le_refl _)))
                rw [← hres, qtx_e]
                exact And.intro rfl ⟨sd, hsd, rfl⟩
              · skip
                have hle2 := sfx_le g3
                obtain ⟨y, r2, hrs2⟩ : ∃ y r2, r = y :: r2 := by
                  cases hrs2 : r with
                  | nil => subst hrs2; exact absurd ((nI_leI (a := T.length) (b := T.length - 0) (by omega) (by omega)).mpr (by omega)) c38
                  | cons y r2 => exact ⟨y, r2, rfl⟩
                obtain ⟨e1, e2, e3, e4, e5⟩ := sfx_at g3 hrs2
                have e6 := hT.2 y e5
                subst hrs2
                refine And.intro rfl ?_
                refine And.intro rfl ?_
                refine ⟨N, f, hrow, vp_in_nI (by omega) hN.2, ?_⟩
                rw [nI_clamp (by omega), hf _ e1, e2]
                refine rd_calls hC (c_Rd_isQuotable l D tys tc hty y (by omega)) wm_Rd_isQuotable wl_Rd_71 wt_Rd_isQuotable ⟨by decide, by decide⟩ rfl rfl (by decide) ⟨Nat.zero_le _, Nat.zero_le _⟩ (fun r' hp => ?_)
                subst hp
                refine And.intro (fun c45 => ?_) (fun c45 => ?_)
                · skip
                  have c45 : isQt y = true := bI_ne c45
                  refine vx_go hC hFt hini (vx_ends hC hr hlk) jc_Rd_takeQuotedText 48 (by decide) rfl ?_
                  refine And.intro rfl ?_
                  refine And.intro rfl ?_
                  refine ⟨N, f, hrow, vp_in_nI (by omega) hN.2, ?_⟩
                  rw [nI_clamp (by omega), hf _ e1, e2]
                  refine rd_call hC hF0 (c_Rd_say l D tys tc hty _ hci h ra sa ex T (y :: r2) sd S.length hT g3 S hsd rfl (by simp at hSl; omega) y (by omega)) wm_Rd_say wl_Rd_67 wi_Rd_say (hC.2.2.2.2.1 _ (List.mem_cons_of_mem _ (sel_say _ hci))) hci ⟨by decide, by decide⟩ rfl rfl (by decide) ⟨Nat.zero_le _, Nat.zero_le _⟩ (fun r' w1 hp => ?_)
                  obtain ⟨rfl, sd2, hsd2, rfl⟩ := hp
                  refine And.intro rfl ?_
                  refine And.intro rfl ?_
                  refine And.intro rfl (And.intro (And.intro rfl rfl) ?_)
                  refine Vx.eqs rfl rfl rfl (rd_stepS e4) (ih r2.length (by simp at hlen; omega) sd2 r2 e3 (S ++ [y]) ?_ hsd2 (by simp at hSl ⊢; omega) rfl)
                  rw [← hres, qtx_eq c45]
                · skip
                  have c45 : isQt y = false := bI_eq c45
                  refine And.intro (rfl) (And.intro ?_ (And.intro (Nat.le_refl _) (Nat.le_refl _)))
                  rw [← hres, qtx_en c45]
                  exact And.intro rfl ⟨sd, hsd, rfl⟩
    · skip
      obtain rfl : b1 = false := bI_eq c6
      refine And.intro (rfl) (And.intro ?_ (And.intro (Nat.le_refl _) (Nat.le_refl _)))
      simp only [qtd, hpk1]
      first | exact And.intro rfl ⟨sd, sd_nil sd, rfl⟩ | exact And.intro rfl ⟨sd, sd_nil sd, trivial⟩
theorem lng_b0 {dt : Bool} {r S : List Nat} : lng 0 dt (45 :: r) S = (false, 45 :: r, S) := by simp [lng]
theorem lng_b {sub : Nat} {dt : Bool} {r S : List Nat} (h : ¬ sub = 0) : lng sub dt (45 :: r) S = lng 0 true r (S ++ [45]) := by simp [lng, h]
theorem lng_l8 {dt : Bool} {x : Nat} {r S : List Nat} (h1 : ¬ x = 45) (h2 : (isLt x || (dt && isDg x)) = true) : lng 8 dt (x :: r) S = (false, x :: r, S) := by rw [lng, if_neg h1, if_pos h2]; rfl
theorem lng_l {sub : Nat} {dt : Bool} {x : Nat} {r S : List Nat} (h1 : ¬ x = 45) (h2 : (isLt x || (dt && isDg x)) = true) (h3 : ¬ sub = 8) : lng sub dt (x :: r) S = lng (sub + 1) dt r (S ++ [x]) := by rw [lng, if_neg h1, if_pos h2, if_neg h3]
theorem lng_e {sub : Nat} {dt : Bool} {x : Nat} {r S : List Nat} (h1 : ¬ x = 45) (h2 : (isLt x || (dt && isDg x)) = false) : lng sub dt (x :: r) S = (decide (0 < sub), x :: r, S) := by rw [lng, if_neg h1, if_neg (by simp [h2])]
set_option maxRecDepth 100000 in
set_option maxHeartbeats 4000000 in
theorem c_Rd_takeLanguage (l : Launch) (D : va_G) (tys : List (ClassId × FieldType)) (tc : Nat → ClassId) (hty : ∀ i : Nat, i < 4 → tys[i]? = some (tc i, vx_ty i)) (ci : Nat) (hci : ci < 5) (h ra sa : Nat) (ex : List Value) (T rs : List Nat) (sd : Nat → Int32) (ss : Nat) (hT : isT T) (hs : rs <:+ T) : Kt l y_Rd_takeLanguage (yw y_Rd_takeLanguage b_Rd_takeLanguage 4 (some .boolean)) 1 21 0 0 D cls tys (rdF ra T) [.ref h] (rdW tc ci h ra sa ex T rs sd ss) (fun r w => r = some (.int (bI (lgt rs).1)) ∧ ∃ sd2, sdIs sd2 (lgt rs).2.2 ∧ w = rdW tc ci h ra sa ex T (lgt rs).2.1 sd2 (lgt rs).2.2.length) := by
  refine Kt.of (rdF_ro _ _) (by decide) rfl hty (Nat.le_of_ble_eq_true rfl) ?_
  intro p e s m args below meth c0 A hC hr hlk hnm hF
  have hFt : vx_Ft y_Rd_takeLanguage.cls (yw y_Rd_takeLanguage b_Rd_takeLanguage 4 (some .boolean)) cls cty ft_Rd := ft_of (fun w h => List.mem_cons_of_mem _ h) fl_Rd_in ft_Rd_b
  have hini : false = true → meth.name = "<init>" := fun h => by cases h
  have hF0 := hF
  obtain ⟨N, f, hrow, hN, hf⟩ := hF
  have hTl := hT.1
  rcases (show ci = 0 ∨ ci = 1 ∨ ci = 2 ∨ ci = 3 ∨ ci = 4 by omega) with rfl | rfl | rfl | rfl | rfl
  all_goals
    refine vx_gon hC hFt hini (vx_ends hC hr hlk) jc_Rd_takeLanguage 0 16 (by decide) rfl ?_
    refine And.intro rfl (And.intro (And.intro rfl rfl) ?_)
    refine rd_call hC hF0 (c_Rd_take l D tys tc hty _ hci h ra sa ex T rs sd 0 42 hT hs (by decide)) wm_Rd_take wl_Rd_41 wi_Rd_take (hC.2.2.2.2.1 _ (List.mem_cons_of_mem _ (sel_take _ hci))) hci ⟨by decide, by decide⟩ rfl rfl (by decide) ⟨Nat.zero_le _, Nat.zero_le _⟩ (fun r1 w1 hp => ?_)
    obtain ⟨rfl, rfl⟩ := hp
    have hs1 := pk_sfx (c := 42) hs
    generalize hpk1 : pk 42 rs = q at hs1 ⊢
    obtain ⟨b1, t1⟩ := q
    dsimp only at hs1 ⊢
    refine And.intro (fun c6 => ?_) (fun c6 => ?_)
    · skip
      obtain rfl : b1 = false := bI_eq c6
      refine vx_gon hC hFt hini (vx_ends hC hr hlk) jc_Rd_takeLanguage 12 4 (by decide) rfl ?_
      have hsp : lgt rs = lng 0 false t1 [] := by simp only [lgt, hpk1]
      rw [hsp]
      have hq2 := sfx_le hs1
      have hsd := sd_nil sd
      generalize hres : lng 0 false t1 [] = RES
      obtain ⟨S, hS0⟩ : ∃ S : List Nat, S = [] := ⟨_, rfl⟩
      obtain ⟨sub, hu0⟩ : ∃ sub : Nat, sub = 0 := ⟨_, rfl⟩
      obtain ⟨dt, hd0⟩ : ∃ dt : Bool, dt = false := ⟨_, rfl⟩
      rw [← hS0] at hsd hres
      have hSl : S.length + t1.length ≤ 96 := by rw [hS0]; simp; omega
      have hub : sub ≤ 8 := by omega
      refine Vx.subL (lv' := [(0, .ref h), (1, .int (nI 0)), (2, .int (bI false))]) [2, 1, 0] rfl ?_
      refine Vx.eqs rfl (lv2 := [(0, .ref h), (1, .int (nI sub)), (2, .int (bI dt))]) (by rw [hu0, hd0]) rfl (w2 := rdW tc _ h ra sa ex T t1 sd S.length) (by rw [hS0]; rfl) ?_
      replace hres : lng sub dt t1 S = RES := by rw [hu0, hd0]; exact hres
      clear hpk1 hS0 hsp hq2 c6 hu0 hd0
      induction hlen : t1.length using Nat.strongRecOn generalizing t1 S sd sub dt with
      | _ n ih =>
        refine vx_go hC hFt hini (vx_ends hC hr hlk) jc_Rd_takeLanguage 16 (by decide) rfl ?_
        refine And.intro rfl ?_
        refine And.intro rfl ?_
        refine And.intro (fun c20 => ?_) (fun c20 => ?_)
        · skip
          have hle := sfx_le hs1
          have hnil : t1 = [] := by
            have h2 := (nI_leI (a := T.length) (b := T.length - t1.length) (by omega) (by omega)).mp c20
            exact List.eq_nil_of_length_eq_zero (by omega)
          subst hnil
          refine vx_go hC hFt hini (vx_ends hC hr hlk) jc_Rd_takeLanguage 95 (by decide) rfl ?_
          refine And.intro (fun c96 => ?_) (fun c96 => ?_)
          · skip
            have c96 : ¬ 0 < sub := fun z => absurd c96 (nI_nle z (by omega))
            refine vx_go hC hFt hini (vx_ends hC hr hlk) jc_Rd_takeLanguage 99 (by decide) rfl ?_
            refine And.intro (rfl) (And.intro ?_ (And.intro (Nat.le_refl _) (Nat.le_refl _)))
            rw [← hres, show lng sub dt [] S = (decide (0 < sub), [], S) from rfl]
            rw [show decide (0 < sub) = false by rw [decide_eq_false_iff_not]; omega]
            exact And.intro rfl ⟨sd, hsd, rfl⟩
          · skip
            have c96 : 0 < sub := Nat.pos_of_ne_zero (fun z => c96 (by rw [z]; exact nI_le (Nat.le_refl 0) (by decide)))
            refine vx_go hC hFt hini (vx_ends hC hr hlk) jc_Rd_takeLanguage 100 (by decide) rfl ?_
            refine And.intro (rfl) (And.intro ?_ (And.intro (Nat.le_refl _) (Nat.le_refl _)))
            rw [← hres, show lng sub dt [] S = (decide (0 < sub), [], S) from rfl]
            rw [show decide (0 < sub) = true by rw [decide_eq_true_eq]; omega]
            exact And.intro rfl ⟨sd, hsd, rfl⟩
        · skip
          have hle := sfx_le hs1
          obtain ⟨x, r, hrs⟩ : ∃ x r, t1 = x :: r := by
            cases hrs : t1 with
            | nil => subst hrs; exact absurd ((nI_leI (a := T.length) (b := T.length - 0) (by omega) (by omega)).mpr (by omega)) c20
            | cons x r => exact ⟨x, r, rfl⟩
          obtain ⟨g1, g2, g3, g4, g5⟩ := sfx_at hs1 hrs
          have g6 := hT.2 x g5
          subst hrs
          refine And.intro rfl ?_
          refine And.intro rfl ?_
          refine ⟨N, f, hrow, vp_in_nI (by omega) hN.2, ?_⟩
          rw [nI_clamp (by omega), hf _ g1, g2]
          refine And.intro (fun c27 => ?_) (fun c27 => ?_)
          · skip
            have c27 := (nI_eq (a := x) (b := 45) (by omega) (by omega)).mp c27
            subst c27
            refine vx_go hC hFt hini (vx_ends hC hr hlk) jc_Rd_takeLanguage 44 (by decide) rfl ?_
            refine And.intro rfl ?_
            refine And.intro rfl ?_
            refine ⟨N, f, hrow, vp_in_nI (by omega) hN.2, ?_⟩
            rw [nI_clamp (by omega), hf _ g1, g2]
            refine And.intro (fun c50 => ?_) (fun c50 => ?_)
            · skip
              exact absurd rfl c50
            · skip
              refine vx_go hC hFt hini (vx_ends hC hr hlk) jc_Rd_takeLanguage 54 (by decide) rfl ?_
              refine And.intro (fun c56 => ?_) (fun c56 => ?_)
              · skip
                exact absurd c56 (by decide)
              · skip
                refine And.intro (fun c58 => ?_) (fun c58 => ?_)
                · skip
                  have c58 : ¬ sub = 0 := fun z => c58 (by rw [z]; rfl)
                  refine vx_go hC hFt hini (vx_ends hC hr hlk) jc_Rd_takeLanguage 65 (by decide) rfl ?_
                  refine And.intro (fun c66 => ?_) (fun c66 => ?_)
                  · skip
                    exact absurd c66 (by decide)
                  · skip
                    refine vx_go hC hFt hini (vx_ends hC hr hlk) jc_Rd_takeLanguage 72 (by decide) rfl ?_
                    refine And.intro (fun c74 => ?_) (fun c74 => ?_)
                    · skip
                      obtain rfl : dt = true := bI_ne c74
                      refine vx_go hC hFt hini (vx_ends hC hr hlk) jc_Rd_takeLanguage 77 (by decide) rfl ?_
                      refine vx_go hC hFt hini (vx_ends hC hr hlk) jc_Rd_takeLanguage 80 (by decide) rfl ?_
                      refine And.intro rfl ?_
                      refine And.intro rfl ?_
                      refine ⟨N, f, hrow, vp_in_nI (by omega) hN.2, ?_⟩
                      rw [nI_clamp (by omega), hf _ g1, g2]
                      refine rd_call hC hF0 (c_Rd_say l D tys tc hty _ hci h ra sa ex T (45 :: r) sd S.length hT hs1 S hsd rfl (by simp at hSl; omega) 45 (by omega)) wm_Rd_say wl_Rd_67 wi_Rd_say (hC.2.2.2.2.1 _ (List.mem_cons_of_mem _ (sel_say _ hci))) hci ⟨by decide, by decide⟩ rfl rfl (by decide) ⟨Nat.zero_le _, Nat.zero_le _⟩ (fun r' w1 hp => ?_)
                      obtain ⟨rfl, sd2, hsd2, rfl⟩ := hp
                      refine And.intro rfl ?_
                      refine And.intro rfl ?_
                      refine And.intro rfl (And.intro (And.intro rfl rfl) ?_)
                      refine Vx.subL (lv' := [(0, .ref h), (1, .int (0 : Int32)), (2, .int (1 : Int32))]) [3, 1, 0] rfl ?_
                      refine Vx.eqs rfl (by rfl) rfl (rd_stepS g4) (ih r.length (by simp at hlen; omega) sd2 r g3 (S ++ [45]) hsd2 0 true (by simp at hSl ⊢; omega) (by omega) ?_ rfl)
                      rw [← hres, lng_b c58 ]
                    · skip
                      obtain rfl : dt = false := bI_eq c74
                      refine And.intro (fun c76 => ?_) (fun c76 => ?_)
                      · skip
                        exact absurd c76 (by decide)
                      · skip
                        refine vx_go hC hFt hini (vx_ends hC hr hlk) jc_Rd_takeLanguage 80 (by decide) rfl ?_
                        refine And.intro rfl ?_
                        refine And.intro rfl ?_
                        refine ⟨N, f, hrow, vp_in_nI (by omega) hN.2, ?_⟩
                        rw [nI_clamp (by omega), hf _ g1, g2]
                        refine rd_call hC hF0 (c_Rd_say l D tys tc hty _ hci h ra sa ex T (45 :: r) sd S.length hT hs1 S hsd rfl (by simp at hSl; omega) 45 (by omega)) wm_Rd_say wl_Rd_67 wi_Rd_say (hC.2.2.2.2.1 _ (List.mem_cons_of_mem _ (sel_say _ hci))) hci ⟨by decide, by decide⟩ rfl rfl (by decide) ⟨Nat.zero_le _, Nat.zero_le _⟩ (fun r' w1 hp => ?_)
                        obtain ⟨rfl, sd2, hsd2, rfl⟩ := hp
                        refine And.intro rfl ?_
                        refine And.intro rfl ?_
                        refine And.intro rfl (And.intro (And.intro rfl rfl) ?_)
                        refine Vx.subL (lv' := [(0, .ref h), (1, .int (0 : Int32)), (2, .int (1 : Int32))]) [3, 1, 0] rfl ?_
                        refine Vx.eqs rfl (by rfl) rfl (rd_stepS g4) (ih r.length (by simp at hlen; omega) sd2 r g3 (S ++ [45]) hsd2 0 true (by simp at hSl ⊢; omega) (by omega) ?_ rfl)
                        rw [← hres, lng_b c58 ]
                · skip
                  have c58 : sub = 0 := (nI_eq (a := sub) (b := 0) (by omega) (by omega)).mp c58
                  subst c58
                  refine vx_go hC hFt hini (vx_ends hC hr hlk) jc_Rd_takeLanguage 63 (by decide) rfl ?_
                  refine And.intro (rfl) (And.intro ?_ (And.intro (Nat.le_refl _) (Nat.le_refl _)))
                  rw [← hres, lng_b0]
                  exact And.intro rfl ⟨sd, hsd, rfl⟩
          · skip
            have c27 : ¬ (x = 45) := fun z => c27 ((nI_eq (a := x) (b := 45) (by omega) (by omega)).mpr z)
            refine And.intro rfl ?_
            refine And.intro rfl ?_
            refine ⟨N, f, hrow, vp_in_nI (by omega) hN.2, ?_⟩
            rw [nI_clamp (by omega), hf _ g1, g2]
            refine rd_calls hC (c_Rd_isLetter l D tys tc hty x (by omega)) wm_Rd_isLetter wl_Rd_74 wt_Rd_isLetter ⟨by decide, by decide⟩ rfl rfl (by decide) ⟨Nat.zero_le _, Nat.zero_le _⟩ (fun r' hp => ?_)
            subst hp
            refine And.intro (fun c34 => ?_) (fun c34 => ?_)
            · skip
              have c34 : isLt x = true := bI_ne c34
              have hlt : (isLt x || (dt && isDg x)) = true := by rw [c34]; rfl
              refine vx_go hC hFt hini (vx_ends hC hr hlk) jc_Rd_takeLanguage 44 (by decide) rfl ?_
              refine And.intro rfl ?_
              refine And.intro rfl ?_
              refine ⟨N, f, hrow, vp_in_nI (by omega) hN.2, ?_⟩
              rw [nI_clamp (by omega), hf _ g1, g2]
              refine And.intro (fun c50 => ?_) (fun c50 => ?_)
              · skip
                refine vx_go hC hFt hini (vx_ends hC hr hlk) jc_Rd_takeLanguage 53 (by decide) rfl ?_
                refine And.intro (fun c56 => ?_) (fun c56 => ?_)
                · skip
                  refine vx_go hC hFt hini (vx_ends hC hr hlk) jc_Rd_takeLanguage 60 (by decide) rfl ?_
                  refine And.intro (fun c62 => ?_) (fun c62 => ?_)
                  · skip
                    have c62 : ¬ sub = 8 := fun z => c62 (by rw [z]; rfl)
                    refine vx_go hC hFt hini (vx_ends hC hr hlk) jc_Rd_takeLanguage 65 (by decide) rfl ?_
                    refine And.intro (fun c66 => ?_) (fun c66 => ?_)
                    · skip
                      refine vx_go hC hFt hini (vx_ends hC hr hlk) jc_Rd_takeLanguage 69 (by decide) rfl ?_
                      refine And.intro (fun c74 => ?_) (fun c74 => ?_)
                      · skip
                        obtain rfl : dt = true := bI_ne c74
                        refine vx_go hC hFt hini (vx_ends hC hr hlk) jc_Rd_takeLanguage 77 (by decide) rfl ?_
                        refine vx_go hC hFt hini (vx_ends hC hr hlk) jc_Rd_takeLanguage 80 (by decide) rfl ?_
                        refine And.intro rfl ?_
                        refine And.intro rfl ?_
                        refine ⟨N, f, hrow, vp_in_nI (by omega) hN.2, ?_⟩
                        rw [nI_clamp (by omega), hf _ g1, g2]
                        refine rd_call hC hF0 (c_Rd_say l D tys tc hty _ hci h ra sa ex T (x :: r) sd S.length hT hs1 S hsd rfl (by simp at hSl; omega) x (by omega)) wm_Rd_say wl_Rd_67 wi_Rd_say (hC.2.2.2.2.1 _ (List.mem_cons_of_mem _ (sel_say _ hci))) hci ⟨by decide, by decide⟩ rfl rfl (by decide) ⟨Nat.zero_le _, Nat.zero_le _⟩ (fun r' w1 hp => ?_)
                        obtain ⟨rfl, sd2, hsd2, rfl⟩ := hp
                        refine And.intro rfl ?_
                        refine And.intro rfl ?_
                        refine And.intro rfl (And.intro (And.intro rfl rfl) ?_)
                        refine Vx.subL (lv' := [(0, .ref h), (1, .int (nI sub + 1)), (2, .int (1 : Int32))]) [3, 1, 0] rfl ?_
                        refine Vx.eqs rfl (by rw [nI_1]; rfl) rfl (rd_stepS g4) (ih r.length (by simp at hlen; omega) sd2 r g3 (S ++ [x]) hsd2 (sub + 1) true (by simp at hSl ⊢; omega) (by omega) ?_ rfl)
                        rw [← hres, lng_l c27 hlt c62]
                      · skip
                        obtain rfl : dt = false := bI_eq c74
                        refine And.intro (fun c76 => ?_) (fun c76 => ?_)
                        · skip
                          refine vx_go hC hFt hini (vx_ends hC hr hlk) jc_Rd_takeLanguage 79 (by decide) rfl ?_
                          refine And.intro rfl ?_
                          refine And.intro rfl ?_
                          refine ⟨N, f, hrow, vp_in_nI (by omega) hN.2, ?_⟩
                          rw [nI_clamp (by omega), hf _ g1, g2]
                          refine rd_call hC hF0 (c_Rd_say l D tys tc hty _ hci h ra sa ex T (x :: r) sd S.length hT hs1 S hsd rfl (by simp at hSl; omega) x (by omega)) wm_Rd_say wl_Rd_67 wi_Rd_say (hC.2.2.2.2.1 _ (List.mem_cons_of_mem _ (sel_say _ hci))) hci ⟨by decide, by decide⟩ rfl rfl (by decide) ⟨Nat.zero_le _, Nat.zero_le _⟩ (fun r' w1 hp => ?_)
                          obtain ⟨rfl, sd2, hsd2, rfl⟩ := hp
                          refine And.intro rfl ?_
                          refine And.intro rfl ?_
                          refine And.intro rfl (And.intro (And.intro rfl rfl) ?_)
                          refine Vx.subL (lv' := [(0, .ref h), (1, .int (nI sub + 1)), (2, .int (0 : Int32))]) [3, 1, 0] rfl ?_
                          refine Vx.eqs rfl (by rw [nI_1]; rfl) rfl (rd_stepS g4) (ih r.length (by simp at hlen; omega) sd2 r g3 (S ++ [x]) hsd2 (sub + 1) false (by simp at hSl ⊢; omega) (by omega) ?_ rfl)
                          rw [← hres, lng_l c27 hlt c62]
                        · skip
                          exact absurd rfl c76
                    · skip
                      exact absurd rfl c66
                  · skip
                    have c62 : sub = 8 := (nI_eq (a := sub) (b := 8) (by omega) (by omega)).mp c62
                    subst c62
                    refine And.intro (rfl) (And.intro ?_ (And.intro (Nat.le_refl _) (Nat.le_refl _)))
                    rw [← hres, lng_l8 c27 hlt]
                    exact And.intro rfl ⟨sd, hsd, rfl⟩
                · skip
                  exact absurd rfl c56
              · skip
                exact absurd ((nI_eq (a := x) (b := 45) (by omega) (by omega)).mp c50) c27
            · skip
              have c34 : isLt x = false := bI_eq c34
              refine And.intro (fun c36 => ?_) (fun c36 => ?_)
              · skip
                obtain rfl : dt = false := bI_eq c36
                have hlt : (isLt x || (false && isDg x)) = false := by rw [c34]; rfl
                refine vx_go hC hFt hini (vx_ends hC hr hlk) jc_Rd_takeLanguage 95 (by decide) rfl ?_
                refine And.intro (fun c96 => ?_) (fun c96 => ?_)
                · skip
                  have c96 : ¬ 0 < sub := fun z => absurd c96 (nI_nle z (by omega))
                  refine vx_go hC hFt hini (vx_ends hC hr hlk) jc_Rd_takeLanguage 99 (by decide) rfl ?_
                  refine And.intro (rfl) (And.intro ?_ (And.intro (Nat.le_refl _) (Nat.le_refl _)))
                  rw [← hres, lng_e c27 hlt]
                  rw [show decide (0 < sub) = false by rw [decide_eq_false_iff_not]; omega]
                  exact And.intro rfl ⟨sd, hsd, rfl⟩
                · skip
                  have c96 : 0 < sub := Nat.pos_of_ne_zero (fun z => c96 (by rw [z]; exact nI_le (Nat.le_refl 0) (by decide)))
                  refine vx_go hC hFt hini (vx_ends hC hr hlk) jc_Rd_takeLanguage 100 (by decide) rfl ?_
                  refine And.intro (rfl) (And.intro ?_ (And.intro (Nat.le_refl _) (Nat.le_refl _)))
                  rw [← hres, lng_e c27 hlt]
                  rw [show decide (0 < sub) = true by rw [decide_eq_true_eq]; omega]
                  exact And.intro rfl ⟨sd, hsd, rfl⟩
              · skip
                obtain rfl : dt = true := bI_ne c36
                refine And.intro rfl ?_
                refine And.intro rfl ?_
                refine ⟨N, f, hrow, vp_in_nI (by omega) hN.2, ?_⟩
                rw [nI_clamp (by omega), hf _ g1, g2]
                refine rd_calls hC (c_Rd_isDigit l D tys tc hty x (by omega)) wm_Rd_isDigit wl_Rd_77 wt_Rd_isDigit ⟨by decide, by decide⟩ rfl rfl (by decide) ⟨Nat.zero_le _, Nat.zero_le _⟩ (fun r' hp => ?_)
                subst hp
                refine And.intro (fun c43 => ?_) (fun c43 => ?_)
                · skip
                  have c43 : isDg x = false := bI_eq c43
                  have hlt : (isLt x || (true && isDg x)) = false := by rw [c34, c43]; rfl
                  refine vx_go hC hFt hini (vx_ends hC hr hlk) jc_Rd_takeLanguage 95 (by decide) rfl ?_
                  refine And.intro (fun c96 => ?_) (fun c96 => ?_)
                  · skip
                    have c96 : ¬ 0 < sub := fun z => absurd c96 (nI_nle z (by omega))
                    refine vx_go hC hFt hini (vx_ends hC hr hlk) jc_Rd_takeLanguage 99 (by decide) rfl ?_
                    refine And.intro (rfl) (And.intro ?_ (And.intro (Nat.le_refl _) (Nat.le_refl _)))
                    rw [← hres, lng_e c27 hlt]
                    rw [show decide (0 < sub) = false by rw [decide_eq_false_iff_not]; omega]
                    exact And.intro rfl ⟨sd, hsd, rfl⟩
                  · skip
                    have c96 : 0 < sub := Nat.pos_of_ne_zero (fun z => c96 (by rw [z]; exact nI_le (Nat.le_refl 0) (by decide)))
                    refine vx_go hC hFt hini (vx_ends hC hr hlk) jc_Rd_takeLanguage 100 (by decide) rfl ?_
                    refine And.intro (rfl) (And.intro ?_ (And.intro (Nat.le_refl _) (Nat.le_refl _)))
                    rw [← hres, lng_e c27 hlt]
                    rw [show decide (0 < sub) = true by rw [decide_eq_true_eq]; omega]
                    exact And.intro rfl ⟨sd, hsd, rfl⟩
                · skip
                  have c43 : isDg x = true := bI_ne c43
                  have hlt : (isLt x || (true && isDg x)) = true := by rw [c43]; simp
                  refine And.intro rfl ?_
                  refine And.intro rfl ?_
                  refine ⟨N, f, hrow, vp_in_nI (by omega) hN.2, ?_⟩
                  rw [nI_clamp (by omega), hf _ g1, g2]
                  refine And.intro (fun c50 => ?_) (fun c50 => ?_)
                  · skip
                    refine vx_go hC hFt hini (vx_ends hC hr hlk) jc_Rd_takeLanguage 53 (by decide) rfl ?_
                    refine And.intro (fun c56 => ?_) (fun c56 => ?_)
                    · skip
                      refine vx_go hC hFt hini (vx_ends hC hr hlk) jc_Rd_takeLanguage 60 (by decide) rfl ?_
                      refine And.intro (fun c62 => ?_) (fun c62 => ?_)
                      · skip
                        have c62 : ¬ sub = 8 := fun z => c62 (by rw [z]; rfl)
                        refine vx_go hC hFt hini (vx_ends hC hr hlk) jc_Rd_takeLanguage 65 (by decide) rfl ?_
                        refine And.intro (fun c66 => ?_) (fun c66 => ?_)
                        · skip
                          refine vx_go hC hFt hini (vx_ends hC hr hlk) jc_Rd_takeLanguage 69 (by decide) rfl ?_
                          refine And.intro (fun c74 => ?_) (fun c74 => ?_)
                          · skip
                            refine vx_go hC hFt hini (vx_ends hC hr hlk) jc_Rd_takeLanguage 77 (by decide) rfl ?_
                            refine vx_go hC hFt hini (vx_ends hC hr hlk) jc_Rd_takeLanguage 80 (by decide) rfl ?_
                            refine And.intro rfl ?_
                            refine And.intro rfl ?_
                            refine ⟨N, f, hrow, vp_in_nI (by omega) hN.2, ?_⟩
                            rw [nI_clamp (by omega), hf _ g1, g2]
                            refine rd_call hC hF0 (c_Rd_say l D tys tc hty _ hci h ra sa ex T (x :: r) sd S.length hT hs1 S hsd rfl (by simp at hSl; omega) x (by omega)) wm_Rd_say wl_Rd_67 wi_Rd_say (hC.2.2.2.2.1 _ (List.mem_cons_of_mem _ (sel_say _ hci))) hci ⟨by decide, by decide⟩ rfl rfl (by decide) ⟨Nat.zero_le _, Nat.zero_le _⟩ (fun r' w1 hp => ?_)
                            obtain ⟨rfl, sd2, hsd2, rfl⟩ := hp
                            refine And.intro rfl ?_
                            refine And.intro rfl ?_
                            refine And.intro rfl (And.intro (And.intro rfl rfl) ?_)
                            refine Vx.subL (lv' := [(0, .ref h), (1, .int (nI sub + 1)), (2, .int (1 : Int32))]) [3, 1, 0] rfl ?_
                            refine Vx.eqs rfl (by rw [nI_1]; rfl) rfl (rd_stepS g4) (ih r.length (by simp at hlen; omega) sd2 r g3 (S ++ [x]) hsd2 (sub + 1) true (by simp at hSl ⊢; omega) (by omega) ?_ rfl)
                            rw [← hres, lng_l c27 hlt c62]
                          · skip
                            exact absurd c74 (by decide)
                        · skip
                          exact absurd rfl c66
                      · skip
                        have c62 : sub = 8 := (nI_eq (a := sub) (b := 8) (by omega) (by omega)).mp c62
                        subst c62
                        refine And.intro (rfl) (And.intro ?_ (And.intro (Nat.le_refl _) (Nat.le_refl _)))
                        rw [← hres, lng_l8 c27 hlt]
                        exact And.intro rfl ⟨sd, hsd, rfl⟩
                    · skip
                      exact absurd rfl c56
                  · skip
                    exact absurd ((nI_eq (a := x) (b := 45) (by omega) (by omega)).mp c50) c27
    · skip
      obtain rfl : b1 = true := bI_ne c6
      refine rd_call hC hF0 (c_Rd_say l D tys tc hty _ hci h ra sa ex T t1 sd ([] : List Nat).length hT hs1 ([] : List Nat) (sd_nil sd) rfl (by decide) 42 (by decide)) wm_Rd_say wl_Rd_67 wi_Rd_say (hC.2.2.2.2.1 _ (List.mem_cons_of_mem _ (sel_say _ hci))) hci ⟨by decide, by decide⟩ rfl rfl (by decide) ⟨Nat.zero_le _, Nat.zero_le _⟩ (fun r' w1 hp => ?_)
      obtain ⟨rfl, sd2, hsd2, rfl⟩ := hp
      refine And.intro (rfl) (And.intro ?_ (And.intro (Nat.le_refl _) (Nat.le_refl _)))
      simp only [lgt, hpk1]
      first | exact And.intro rfl ⟨sd2, hsd2, rfl⟩ | exact And.intro rfl ⟨sd2, hsd2, trivial⟩
