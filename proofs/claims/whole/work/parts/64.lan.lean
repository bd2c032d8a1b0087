/-! THE CLASS: Languages, by program (wip/whole/gen/p64.py) -/
theorem mtI_le {a b : Nat} (ha : a < 2 ^ 30) (hb : b < 2 ^ 30) : mtI a ≤ mtI b ↔ a ≤ b := by
  unfold mtI
  rw [n_1 (by omega), n_1 (by omega)]
  by_cases e : a = 0
  · rw [if_pos e]
    refine ⟨fun _ => by omega, fun _ => ?_⟩
    by_cases e2 : b = 0
    · rw [if_pos e2]; exact Int32.le_refl _
    · rw [if_neg e2]; exact nI_m1le (by omega)
  · rw [if_neg e]
    by_cases e2 : b = 0
    · rw [if_pos e2]
      exact ⟨fun z => absurd z (nI_nneg (by omega)), fun z => by omega⟩
    · rw [if_neg e2]
      show nI (a - 1) ≤ nI (b - 1) ↔ _
      rw [nI_leI (by omega) (by omega)]; omega
theorem pk_tail {c : Nat} {rs : List Nat} (h : (pk c rs).1 = true) : (pk c rs).2 = rs.tail := by
  cases rs with
  | nil => cases h
  | cons a b =>
    simp only [pk] at h ⊢
    by_cases e : a = c
    · rw [if_pos e]; rfl
    · rw [if_neg e] at h; cases h
/-- a range of languages and its weight -/
def lnO (rs : List Nat) : Option (Nat × List Nat) := if (lgt rs).1 = true then lwt (lgt rs).2.1 else none
theorem isW_l (k : Nat) (h : k < 6) : isW (coL k) ∧ isW (beL k) := by
  rcases (show k = 0 ∨ k = 1 ∨ k = 2 ∨ k = 3 ∨ k = 4 ∨ k = 5 by omega) with rfl | rfl | rfl | rfl | rfl | rfl <;> exact ⟨⟨by decide, by decide⟩, ⟨by decide, by decide⟩⟩
theorem lgt_lt {rs T : List Nat} (hT : isT T) (hs : rs <:+ T) : (lgt rs).2.2.length ≤ 96 ∧ ∀ i, i < (lgt rs).2.2.length → (lgt rs).2.2.getD i 0 < 256 := by
  have h0 := lgt_in (rs := rs)
  have h2 := sfx_le hs
  have h3 := hT.1
  refine ⟨?_, fun i hi => ?_⟩
  · cases hp : (pk 42 rs).1 with
    | true =>
      unfold lgt
      rcases hq : pk 42 rs with ⟨a, b⟩
      rw [hq] at hp
      cases a with
      | true => show ([42] : List Nat).length ≤ 96; decide
      | false => cases hp
    | false =>
      unfold lgt
      have hl := (pk_sf (c := 42) (rs := rs)).length_le
      rcases hq : pk 42 rs with ⟨a, b⟩
      rw [hq] at hp hl
      cases a with
      | true => cases hp
      | false =>
        have := (lng_sf (q := 0) (dt := false) (rs := b) (S := [])).2.1
        have hl2 : b.length ≤ rs.length := hl
        show (lng 0 false b []).2.2.length ≤ 96
        simp only [List.length_nil, Nat.zero_add] at this
        omega
  · rw [List.getD_eq_getElem?_getD, List.getElem?_eq_getElem hi]
    rcases h0.2 _ (List.getElem_mem hi) with z | z
    · show (lgt rs).2.2[i] < 256
      rw [z]; decide
    · exact (hT.2 _ (hs.subset z)).2
theorem lwt_len {r : List Nat} {u : Nat × List Nat} (h : lwt r = some u) : u.2.length ≤ r.length := by
  unfold lwt at h
  split at h
  · rename_i h59
    have hb := bsc_len h59
    split at h
    · split at h
      · obtain rfl := Option.some.inj h
        have h1 := (gp_sf (rs := (wt (bsc r).tail).2)).length_le
        have h2 := (wt_sf (rs := (bsc r).tail)).length_le
        have h3 : (bsc r).tail.length ≤ (bsc r).length := by rw [List.length_tail]; omega
        show (gp _).length ≤ _
        omega
      · cases h
    · cases h
  · obtain rfl := Option.some.inj h
    exact (gp_sf (rs := r)).length_le
theorem lng_pos {q : Nat} {dt : Bool} {rs S : List Nat} (h : (lng q dt rs S).1 = true) (hq : q = 0) : (lng q dt rs S).2.1.length < rs.length := by
  cases rs with
  | nil => rw [hq] at h; cases h
  | cons a b =>
    unfold lng at h ⊢
    by_cases e : a = 45
    · rw [if_pos e, if_pos hq] at h; cases h
    · rw [if_neg e] at h ⊢
      by_cases e2 : (isLt a || (dt && isDg a)) = true
      · rw [if_pos e2] at h ⊢
        by_cases e3 : q = 8
        · omega
        · rw [if_neg e3] at h ⊢
          have := (lng_sf (q := q + 1) (dt := dt) (rs := b) (S := S ++ [a])).1.length_le
          rw [List.length_cons]; omega
      · rw [if_neg e2] at h
        rw [hq] at h; cases h
theorem lnO_len {rs : List Nat} {u : Nat × List Nat} (h : lnO rs = some u) : u.2.length < rs.length := by
  unfold lnO at h
  split at h
  · rename_i h1
    have h2 := lwt_len h
    have h3 : (lgt rs).2.1.length < rs.length := by
      unfold lgt at h1 ⊢
      have hk := pk_len1 (c := 42) (rs := rs)
      have hk2 := (pk_sf (c := 42) (rs := rs)).length_le
      rcases hq : pk 42 rs with ⟨a, b⟩
      rw [hq] at h1 hk hk2
      cases a with
      | true => exact hk rfl
      | false => exact Nat.lt_of_lt_of_le (lng_pos h1 rfl) hk2
    omega
  · cases h
theorem fitL_le {C B S : List Nat} (h : S.length ≤ 96) : fitL C B S ≤ 97 := by
  unfold fitL
  split
  · omega
  · split <;> omega
set_option maxRecDepth 100000 in
set_option maxHeartbeats 4000000 in
theorem c_La_fitOf (l : Launch) (D : va_G) (tys : List (ClassId × FieldType)) (tc : Nat → ClassId) (hty : ∀ i : Nat, i < 4 → tys[i]? = some (tc i, vx_ty i)) (h ra sa : Nat) (T rs : List Nat) (sd : Nat → Int32) (ss : Nat) (hT : isT T) (hs : rs <:+ T) (K : Nat → Nat) (qu lo : Int32) (wh : Nat) (hwh : wh < 6) (S : List Nat) (hsd : sdIs sd S) (hss : ss = S.length) (hS : S.length ≤ 96) (hS2 : ∀ i, i < S.length → S.getD i 0 < 256) : Kt l y_La_fitOf (yw y_La_fitOf b_La_fitOf 2 (some .int)) 5 107 0 0 D cls tys (fun A U H => rdF ra T A U H ∧ gF K A U H) [.ref h, .ref (K (200 + wh))] (rdW tc 1 h ra sa [.int (qu), .int (lo)] T rs sd ss) (fun r w => r = some (.int (mtI (fitL (coL wh) (beL wh) S))) ∧ w = (rdW tc 1 h ra sa [.int (qu), .int (lo)] T rs sd ss)) := by
  refine Kt.of (ro_and (rdF_ro ra T) (gF_ro K)) (by decide) rfl hty (Nat.le_of_ble_eq_true rfl) ?_
  intro p e s m args below meth c0 A hC hr hlk hnm hF
  have hFt : vx_Ft y_La_fitOf.cls (yw y_La_fitOf b_La_fitOf 2 (some .int)) cls cty ft_La := ft_of (fun w h => List.mem_cons_of_mem _ h) fl_La_in ft_La_b
  have hini : false = true → meth.name = "<init>" := fun h => by cases h
  obtain ⟨hrd, hg⟩ := hF
  have hTl := hT.1
  obtain ⟨a1, a2, ⟨g1, k1⟩, ⟨g2, k2⟩⟩ := hg.2.2.1 wh hwh
  subst hss
  refine vx_go hC hFt hini (vx_ends hC hr hlk) jc_La_fitOf 0 (by decide) rfl ?_
  refine ⟨_, Or.inr (Or.inr ⟨_, _, rfl, (hg.1 13 _ rfl).1⟩), ?_⟩
  refine ux_call hC (c_Rd_isSaid l D tys tc hty 1 (by decide) h ra sa [.int (qu), .int (lo)] T rs sd S.length hT hs (K 13) [42] (by exact ⟨by decide, by decide⟩) S hsd rfl hS hS2) (hg.1 13 _ rfl).2 (cw_U wm_Rd_isSaid wl_La_53 wsm_La_isSaid wi_Rd_isSaid ws_La_La_isSaid rfl hC.2.2.2.2.1 ⟨by decide, by decide⟩) rfl rfl rfl rfl (Nat.le_of_ble_eq_true rfl) ⟨Nat.zero_le _, Nat.zero_le _⟩ (fun r' w1 hp => ?_)
  obtain ⟨rfl, rfl⟩ := hp
  refine And.intro (fun c3 => ?_) (fun c3 => ?_)
  · skip
    have c3 : sameL S [42] = false := bI_eq c3
    refine vx_go hC hFt hini (vx_ends hC hr hlk) jc_La_fitOf 6 (by decide) rfl ?_
    refine ⟨_, ⟨"OriginDesk$Language", "code", "Ljava/lang/String;", "OriginDesk$Language", g1, Or.inl (hC.2.2.2.2.1 _ (List.mem_cons_of_mem _ wf_La_57)), fun _ z => z⟩, ?_⟩
    refine ux_call hC (c_Rd_isSaidAlike l D tys tc hty 1 (by decide) h ra sa [.int (qu), .int (lo)] T rs sd S.length hT hs a1 (coL wh) (isW_l wh hwh).1 S hsd rfl hS hS2) k1 (cw_U wm_Rd_isSaidAlike wl_La_63 wsm_La_isSaidAlike wi_Rd_isSaidAlike ws_La_La_isSaidAlike rfl hC.2.2.2.2.1 ⟨by decide, by decide⟩) rfl rfl rfl rfl (Nat.le_of_ble_eq_true rfl) ⟨Nat.zero_le _, Nat.zero_le _⟩ (fun r' w1 hp => ?_)
    obtain ⟨rfl, rfl⟩ := hp
    refine And.intro (fun c10 => ?_) (fun c10 => ?_)
    · skip
      have c10 : alikeL S (coL wh) = true := bI_ne c10
      refine vx_go hC hFt hini (vx_ends hC hr hlk) jc_La_fitOf 16 (by decide) rfl ?_
      refine ux_call hC (c_Rd_saidSize l D tys tc hty 1 (by decide) h ra sa [.int (qu), .int (lo)] T rs sd S.length hT hs) hrd (cw_U wm_Rd_saidSize wl_La_69 wsm_La_saidSize wi_Rd_saidSize ws_La_La_saidSize rfl hC.2.2.2.2.1 ⟨by decide, by decide⟩) rfl rfl rfl rfl (Nat.le_of_ble_eq_true rfl) ⟨Nat.zero_le _, Nat.zero_le _⟩ (fun r' w1 hp => ?_)
      obtain ⟨rfl, rfl⟩ := hp
      refine vx_go hC hFt hini (vx_ends hC hr hlk) jc_La_fitOf 20 (by decide) rfl ?_
      refine And.intro (trivial) (And.intro ?_ (And.intro (Nat.le_refl _) (Nat.le_refl _)))
      rw [show fitL (coL wh) (beL wh) S = S.length + 1 by rw [fitL, if_neg (of_decide_eq_false c3), if_pos (by rw [c10, Bool.true_or])]]
      exact And.intro (congrArg (fun z => some (Value.int z)) (nI_pred _).symm) rfl
    · skip
      have c10 : alikeL S (coL wh) = false := bI_eq c10
      refine ⟨_, ⟨"OriginDesk$Language", "beginning", "Ljava/lang/String;", "OriginDesk$Language", g2, Or.inl (hC.2.2.2.2.1 _ (List.mem_cons_of_mem _ wf_La_66)), fun _ z => z⟩, ?_⟩
      refine ux_call hC (c_Rd_isSaidAlike l D tys tc hty 1 (by decide) h ra sa [.int (qu), .int (lo)] T rs sd S.length hT hs a2 (beL wh) (isW_l wh hwh).2 S hsd rfl hS hS2) k2 (cw_U wm_Rd_isSaidAlike wl_La_63 wsm_La_isSaidAlike wi_Rd_isSaidAlike ws_La_La_isSaidAlike rfl hC.2.2.2.2.1 ⟨by decide, by decide⟩) rfl rfl rfl rfl (Nat.le_of_ble_eq_true rfl) ⟨Nat.zero_le _, Nat.zero_le _⟩ (fun r' w1 hp => ?_)
      obtain ⟨rfl, rfl⟩ := hp
      refine And.intro (fun c15 => ?_) (fun c15 => ?_)
      · skip
        have c15 : alikeL S (beL wh) = false := bI_eq c15
        refine vx_go hC hFt hini (vx_ends hC hr hlk) jc_La_fitOf 19 (by decide) rfl ?_
        refine And.intro (trivial) (And.intro ?_ (And.intro (Nat.le_refl _) (Nat.le_refl _)))
        rw [show fitL (coL wh) (beL wh) S = 0 by rw [fitL, if_neg (of_decide_eq_false c3), if_neg (by rw [c10, c15]; exact fun z => by cases z)]]
        exact And.intro rfl rfl
      · skip
        have c15 : alikeL S (beL wh) = true := bI_ne c15
        refine ux_call hC (c_Rd_saidSize l D tys tc hty 1 (by decide) h ra sa [.int (qu), .int (lo)] T rs sd S.length hT hs) hrd (cw_U wm_Rd_saidSize wl_La_69 wsm_La_saidSize wi_Rd_saidSize ws_La_La_saidSize rfl hC.2.2.2.2.1 ⟨by decide, by decide⟩) rfl rfl rfl rfl (Nat.le_of_ble_eq_true rfl) ⟨Nat.zero_le _, Nat.zero_le _⟩ (fun r' w1 hp => ?_)
        obtain ⟨rfl, rfl⟩ := hp
        refine vx_go hC hFt hini (vx_ends hC hr hlk) jc_La_fitOf 20 (by decide) rfl ?_
        refine And.intro (trivial) (And.intro ?_ (And.intro (Nat.le_refl _) (Nat.le_refl _)))
        rw [show fitL (coL wh) (beL wh) S = S.length + 1 by rw [fitL, if_neg (of_decide_eq_false c3), if_pos (by rw [c15, Bool.or_true])]]
        exact And.intro (congrArg (fun z => some (Value.int z)) (nI_pred _).symm) rfl
  · skip
    have c3 : sameL S [42] = true := bI_ne c3
    refine And.intro (trivial) (And.intro ?_ (And.intro (Nat.le_refl _) (Nat.le_refl _)))
    rw [show fitL (coL wh) (beL wh) S = 1 from if_pos (of_decide_eq_true c3)]
    exact And.intro rfl rfl
theorem lwt_le {r : List Nat} {u : Nat × List Nat} (h : lwt r = some u) : u.1 ≤ 1000 := by
  unfold lwt at h
  split at h
  · split at h
    · split at h
      · rename_i hw
        obtain rfl := Option.some.inj h
        exact wt_le hw
      · cases h
    · cases h
  · obtain rfl := Option.some.inj h
    exact Nat.le_refl _
set_option maxRecDepth 100000 in
set_option maxHeartbeats 4000000 in
theorem c_La_readRange (l : Launch) (D : va_G) (tys : List (ClassId × FieldType)) (tc : Nat → ClassId) (hty : ∀ i : Nat, i < 4 → tys[i]? = some (tc i, vx_ty i)) (h ra sa : Nat) (T rs : List Nat) (sd : Nat → Int32) (ss : Nat) (hT : isT T) (hs : rs <:+ T) (K : Nat → Nat) (q0 lg : Nat) (hlg : lg ≤ 1000) (wh : Nat) (hwh : wh < 6) : Kt l y_La_readRange (yw y_La_readRange b_La_readRange 4 (some .boolean)) 6 128 0 0 D cls tys (fun A U H => rdF ra T A U H ∧ gF K A U H) [.ref h, .ref (K (200 + wh))] (rdW tc 1 h ra sa [.int (nI q0), .int (mtI lg)] T rs sd ss) (fun r w => r = some (.int (bI (lnO rs).isSome)) ∧ ∃ qu2 lo2 rs2 sd2 ss2, w = (rdW tc 1 h ra sa [.int (qu2), .int (lo2)] T rs2 sd2 ss2) ∧ rs2 <:+ T ∧ ∀ u, lnO rs = some u → gp rs2 = u.2 ∧ lo2 = mtI (if lg < (fitL (coL wh) (beL wh) (lgt rs).2.2) then (fitL (coL wh) (beL wh) (lgt rs).2.2) else lg) ∧ qu2 = nI (if lg < (fitL (coL wh) (beL wh) (lgt rs).2.2) then u.1 else q0)) := by
  refine Kt.of (ro_and (rdF_ro ra T) (gF_ro K)) (by decide) rfl hty (Nat.le_of_ble_eq_true rfl) ?_
  intro p e s m args below meth c0 A hC hr hlk hnm hF
  have hFt : vx_Ft y_La_readRange.cls (yw y_La_readRange b_La_readRange 4 (some .boolean)) cls cty ft_La := ft_of (fun w h => List.mem_cons_of_mem _ h) fl_La_in ft_La_b
  have hini : false = true → meth.name = "<init>" := fun h => by cases h
  obtain ⟨hrd, hg⟩ := hF
  have hTl := hT.1
  obtain ⟨a1, a2, ⟨g1, k1⟩, ⟨g2, k2⟩⟩ := hg.2.2.1 wh hwh
  refine vx_gon hC hFt hini (vx_ends hC hr hlk) jc_La_readRange 0 5 (by decide) rfl ?_
  refine ux_call hC (c_Rd_takeLanguage l D tys tc hty 1 (by decide) h ra sa [.int (nI q0), .int (mtI lg)] T rs sd ss hT hs) hrd (cw_U wm_Rd_takeLanguage wl_La_33 wsm_La_takeLanguage wi_Rd_takeLanguage ws_La_La_takeLanguage rfl hC.2.2.2.2.1 ⟨by decide, by decide⟩) rfl rfl rfl rfl (Nat.le_of_ble_eq_true rfl) ⟨Nat.zero_le _, Nat.zero_le _⟩ (fun r' w1 hp => ?_)
  obtain ⟨rfl, sd1, hsd1, rfl⟩ := hp
  refine And.intro (fun c2 => ?_) (fun c2 => ?_)
  · skip
    have c2 : (lgt rs).1 = true := bI_ne c2
    refine Vx.subL (lv' := [(0, .ref h), (1, .ref (K (200 + wh)))]) [0, 1] rfl ?_
    refine vx_cut (α := (Option Nat × List Nat)) 47 (fun u => lwt (lgt rs).2.1 = u.1.map (fun w => (w, gp u.2)) ∧ u.2 <:+ T ∧ (lgt rs).1 = true) (fun u => [(0, .ref h), (1, .ref (K (200 + wh))), (2, .int (iI u.1))]) (fun u => []) (fun u => (rdW tc 1 h ra sa [.int (nI q0), .int (mtI lg)] T u.2 sd1 (lgt rs).2.2.length)) (fun hJ23 => ?_) ?_
    · skip
      refine vx_gon hC hFt hini (vx_ends hC hr hlk) jc_La_readRange 5 18 (by decide) rfl ?_
      refine ux_call hC (c_Rd_takeSemicolon l D tys tc hty 1 (by decide) h ra sa [.int (nI q0), .int (mtI lg)] T (lgt rs).2.1 sd1 (lgt rs).2.2.length hT (lgt_sf.trans hs)) hrd (cw_U wm_Rd_takeSemicolon wl_La_36 wsm_La_takeSemicolon wi_Rd_takeSemicolon ws_La_La_takeSemicolon rfl hC.2.2.2.2.1 ⟨by decide, by decide⟩) rfl rfl rfl rfl (Nat.le_of_ble_eq_true rfl) ⟨Nat.zero_le _, Nat.zero_le _⟩ (fun r' w1 hp => ?_)
      obtain ⟨rfl, rfl⟩ := hp
      refine And.intro (fun c9 => ?_) (fun c9 => ?_)
      · skip
        have c9 : (pk 59 (gp (lgt rs).2.1)).1 = false := by rw [← sc_1]; exact bI_eq c9
        refine Vx.subL (lv' := [(0, .ref h), (1, .ref (K (200 + wh))), (2, .int (nI 1000))]) [1, 2, 0] rfl ?_
        exact hJ23 ((some 1000), (sc (gp (lgt rs).2.1)).2) ⟨by rw [lwt, if_neg (by rw [c9]; exact fun z => by cases z)]; show some (1000, gp (lgt rs).2.1) = some (1000, gp (sc (gp (lgt rs).2.1)).2); rw [sc_f c9, gp_gp], sc_sf.trans (gp_sf.trans (lgt_sf.trans hs)), c2⟩
      · skip
        have c9 : (pk 59 (gp (lgt rs).2.1)).1 = true := by rw [← sc_1]; exact bI_ne c9
        have hsB : (bsc (lgt rs).2.1) <:+ T := by rw [← bsc_sc c9]; exact sc_sf.trans (gp_sf.trans (lgt_sf.trans hs))
        rw [bsc_sc c9]
        refine ux_call hC (c_Rd_take l D tys tc hty 1 (by decide) h ra sa [.int (nI q0), .int (mtI lg)] T (bsc (lgt rs).2.1) sd1 (lgt rs).2.2.length 113 hT hsB (by decide)) hrd (cw_U wm_Rd_take wl_La_39 wsm_La_take wi_Rd_take ws_La_La_take rfl hC.2.2.2.2.1 ⟨by decide, by decide⟩) rfl rfl rfl rfl (Nat.le_of_ble_eq_true rfl) ⟨Nat.zero_le _, Nat.zero_le _⟩ (fun r' w1 hp => ?_)
        obtain ⟨rfl, rfl⟩ := hp
        refine And.intro (fun c13 => ?_) (fun c13 => ?_)
        · skip
          have c13 : (pk 113 (bsc (lgt rs).2.1)).1 = true := bI_ne c13
          refine vx_gon hC hFt hini (vx_ends hC hr hlk) jc_La_readRange 18 5 (by decide) rfl ?_
          refine ux_call hC (c_Rd_takeWeight l D tys tc hty 1 (by decide) h ra sa [.int (nI q0), .int (mtI lg)] T (pk 113 (bsc (lgt rs).2.1)).2 sd1 (lgt rs).2.2.length hT (pk_sf.trans hsB)) hrd (cw_U wm_Rd_takeWeight wl_La_43 wsm_La_takeWeight wi_Rd_takeWeight ws_La_La_takeWeight rfl hC.2.2.2.2.1 ⟨by decide, by decide⟩) rfl rfl rfl rfl (Nat.le_of_ble_eq_true rfl) ⟨Nat.zero_le _, Nat.zero_le _⟩ (fun r' w1 hp => ?_)
          obtain ⟨rfl, rfl⟩ := hp
          refine vx_gon hC hFt hini (vx_ends hC hr hlk) jc_La_readRange 22 1 (by decide) rfl ?_
          refine Vx.subL (lv' := [(0, .ref h), (1, .ref (K (200 + wh))), (2, .int (iI (wt (pk 113 (bsc (lgt rs).2.1)).2).1))]) [1, 2, 0] rfl ?_
          exact hJ23 ((wt (pk 113 (bsc (lgt rs).2.1)).2).1, (wt (pk 113 (bsc (lgt rs).2.1)).2).2) ⟨by rw [lwt, if_pos c9, if_pos (Or.inl c13), ← pk_tail c13]; cases (wt (pk 113 (bsc (lgt rs).2.1)).2).1 <;> rfl, wt_sf.trans (pk_sf.trans hsB), c2⟩
        · skip
          have c13 : (pk 113 (bsc (lgt rs).2.1)).1 = false := bI_eq c13
          refine ux_call hC (c_Rd_take l D tys tc hty 1 (by decide) h ra sa [.int (nI q0), .int (mtI lg)] T (pk 113 (bsc (lgt rs).2.1)).2 sd1 (lgt rs).2.2.length 81 hT (pk_sf.trans hsB) (by decide)) hrd (cw_U wm_Rd_take wl_La_39 wsm_La_take wi_Rd_take ws_La_La_take rfl hC.2.2.2.2.1 ⟨by decide, by decide⟩) rfl rfl rfl rfl (Nat.le_of_ble_eq_true rfl) ⟨Nat.zero_le _, Nat.zero_le _⟩ (fun r' w1 hp => ?_)
          obtain ⟨rfl, rfl⟩ := hp
          refine And.intro (fun c17 => ?_) (fun c17 => ?_)
          · skip
            have c17 : (pk 81 (pk 113 (bsc (lgt rs).2.1)).2).1 = false := bI_eq c17
            refine vx_gon hC hFt hini (vx_ends hC hr hlk) jc_La_readRange 21 2 (by decide) rfl ?_
            refine Vx.subL (lv' := [(0, .ref h), (1, .ref (K (200 + wh))), (2, .int (iI none))]) [1, 2, 0] rfl ?_
            exact hJ23 (none, (pk 81 (pk 113 (bsc (lgt rs).2.1)).2).2) ⟨by rw [lwt, if_pos c9, if_neg (fun z => z.elim (fun y => by rw [c13] at y; cases y) (fun y => by rw [pk_f c13] at c17; rw [c17] at y; cases y))]; rfl, pk_sf.trans (pk_sf.trans hsB), c2⟩
          · skip
            have c17 : (pk 81 (pk 113 (bsc (lgt rs).2.1)).2).1 = true := bI_ne c17
            refine ux_call hC (c_Rd_takeWeight l D tys tc hty 1 (by decide) h ra sa [.int (nI q0), .int (mtI lg)] T (pk 81 (pk 113 (bsc (lgt rs).2.1)).2).2 sd1 (lgt rs).2.2.length hT (pk_sf.trans (pk_sf.trans hsB))) hrd (cw_U wm_Rd_takeWeight wl_La_43 wsm_La_takeWeight wi_Rd_takeWeight ws_La_La_takeWeight rfl hC.2.2.2.2.1 ⟨by decide, by decide⟩) rfl rfl rfl rfl (Nat.le_of_ble_eq_true rfl) ⟨Nat.zero_le _, Nat.zero_le _⟩ (fun r' w1 hp => ?_)
            obtain ⟨rfl, rfl⟩ := hp
            refine vx_gon hC hFt hini (vx_ends hC hr hlk) jc_La_readRange 22 1 (by decide) rfl ?_
            refine Vx.subL (lv' := [(0, .ref h), (1, .ref (K (200 + wh))), (2, .int (iI (wt (pk 81 (pk 113 (bsc (lgt rs).2.1)).2).2).1))]) [1, 2, 0] rfl ?_
            exact hJ23 ((wt (pk 81 (pk 113 (bsc (lgt rs).2.1)).2).2).1, (wt (pk 81 (pk 113 (bsc (lgt rs).2.1)).2).2).2) ⟨by rw [lwt, if_pos c9, if_pos ((Or.inr (by rw [pk_f c13] at c17; exact c17))), ← (show (pk 81 (pk 113 (bsc (lgt rs).2.1)).2).2 = (bsc (lgt rs).2.1).tail by rw [pk_f c13] at c17 ⊢; exact pk_tail c17)]; cases (wt (pk 81 (pk 113 (bsc (lgt rs).2.1)).2).2).1 <;> rfl, wt_sf.trans (pk_sf.trans (pk_sf.trans hsB)), c2⟩
    · rintro ⟨ow, r3⟩ ⟨hlw, hs3, c2⟩
      replace hlw : lwt (lgt rs).2.1 = ow.map (fun w => (w, gp r3)) := hlw
      replace hs3 : r3 <:+ T := hs3
      have hwl : ∀ w9, ow = some w9 → w9 ≤ 1000 := fun w9 h9 => by rw [h9] at hlw; exact lwt_le hlw
      refine vx_go hC hFt hini (vx_ends hC hr hlk) jc_La_readRange 23 (by decide) rfl ?_
      refine ox_call hC (c_La_fitOf l D tys tc hty h ra sa T r3 sd1 (lgt rs).2.2.length hT hs3 K (nI q0) (mtI lg) wh hwh (lgt rs).2.2 hsd1 rfl (lgt_lt hT hs).1 (lgt_lt hT hs).2) ⟨hrd, hg⟩ (cw_V wm_La_fitOf wl_La_47 wi_La_fitOf ws_La_La_fitOf hC.2.2.2.2.1 ⟨by decide, by decide⟩) rfl rfl rfl rfl (Nat.le_of_ble_eq_true rfl) ⟨Nat.zero_le _, Nat.zero_le _⟩ (fun r' w1 hp => ?_)
      obtain ⟨rfl, rfl⟩ := hp
      have hfl := fitL_le (C := coL wh) (B := beL wh) (lgt_lt hT hs).1
      refine And.intro rfl ?_
      refine And.intro (fun c30 => ?_) (fun c30 => ?_)
      · skip
        have c30 : (fitL (coL wh) (beL wh) (lgt rs).2.2) ≤ lg := (mtI_le (by omega) (by omega)).mp c30
        refine vx_go hC hFt hini (vx_ends hC hr hlk) jc_La_readRange 37 (by decide) rfl ?_
        refine And.intro (fun c39 => ?_) (fun c39 => ?_)
        · skip
          have c39 : ow = none := by
            cases ow with
            | none => rfl
            | some w9 => exact absurd c39 (nI_nm1 (by have := hwl w9 rfl; omega))
          refine vx_go hC hFt hini (vx_ends hC hr hlk) jc_La_readRange 42 (by decide) rfl ?_
          refine And.intro (rfl) (And.intro ?_ (And.intro (Nat.le_refl _) (Nat.le_refl _)))
          rw [show lnO rs = none by rw [lnO, if_pos c2, hlw, c39]; rfl]
          exact ⟨rfl, _, _, _, _, _, rfl, hs3, (fun u hu => by cases hu)⟩
        · skip
          have c39 : ∃ w9, ow = some w9 := by
            cases ow with
            | none => exact absurd rfl c39
            | some w9 => exact ⟨w9, rfl⟩
          refine vx_go hC hFt hini (vx_ends hC hr hlk) jc_La_readRange 43 (by decide) rfl ?_
          refine And.intro (rfl) (And.intro ?_ (And.intro (Nat.le_refl _) (Nat.le_refl _)))
          obtain ⟨w9, rfl⟩ := c39
          rw [show lnO rs = some (w9, gp r3) by rw [lnO, if_pos c2, hlw]; rfl]
          refine ⟨rfl, _, _, _, _, _, rfl, hs3, (fun u hu => ?_)⟩
          obtain rfl := Option.some.inj hu
          rw [if_neg (by omega), if_neg (by omega)]
          exact ⟨rfl, rfl, rfl⟩
      · skip
        have c30 : ¬ (fitL (coL wh) (beL wh) (lgt rs).2.2) ≤ lg := fun z => c30 ((mtI_le (by omega) (by omega)).mpr z)
        refine And.intro rfl (And.intro (And.intro rfl rfl) ?_)
        refine And.intro rfl (And.intro (And.intro rfl rfl) ?_)
        refine And.intro (fun c39 => ?_) (fun c39 => ?_)
        · skip
          have c39 : ow = none := by
            cases ow with
            | none => rfl
            | some w9 => exact absurd c39 (nI_nm1 (by have := hwl w9 rfl; omega))
          refine vx_go hC hFt hini (vx_ends hC hr hlk) jc_La_readRange 42 (by decide) rfl ?_
          refine And.intro (rfl) (And.intro ?_ (And.intro (Nat.le_refl _) (Nat.le_refl _)))
          rw [show lnO rs = none by rw [lnO, if_pos c2, hlw, c39]; rfl]
          exact ⟨rfl, _, _, _, _, _, rfl, hs3, (fun u hu => by cases hu)⟩
        · skip
          have c39 : ∃ w9, ow = some w9 := by
            cases ow with
            | none => exact absurd rfl c39
            | some w9 => exact ⟨w9, rfl⟩
          refine vx_go hC hFt hini (vx_ends hC hr hlk) jc_La_readRange 43 (by decide) rfl ?_
          refine And.intro (rfl) (And.intro ?_ (And.intro (Nat.le_refl _) (Nat.le_refl _)))
          obtain ⟨w9, rfl⟩ := c39
          rw [show lnO rs = some (w9, gp r3) by rw [lnO, if_pos c2, hlw]; rfl]
          refine ⟨rfl, _, _, _, _, _, rfl, hs3, (fun u hu => ?_)⟩
          obtain rfl := Option.some.inj hu
          rw [if_pos (by omega), if_pos (by omega)]
          exact ⟨rfl, rfl, rfl⟩
  · skip
    have c2 : (lgt rs).1 = false := bI_eq (c2)
    refine And.intro (rfl) (And.intro ?_ (And.intro (Nat.le_refl _) (Nat.le_refl _)))
    rw [show lnO rs = none by rw [lnO, if_neg (by rw [c2]; exact fun z => by cases z)]]
    exact ⟨rfl, _, _, _, _, _, rfl, lgt_sf.trans hs, (fun u hu => by cases hu)⟩
theorem lanL_O {C B : List Nat} {n els lg q : Nat} {rs : List Nat} (h : ¬ gc rs = []) : lanL C B (n + 1) els lg q rs = (match lnO (gc rs) with
    | none => none
    | some u => if ee u.2 = true then lanL C B n (els + 1) (if lg < fitL C B (lgt (gc rs)).2.2 then fitL C B (lgt (gc rs)).2.2 else lg) (if lg < fitL C B (lgt (gc rs)).2.2 then u.1 else q) u.2 else none) := by
  rw [lanL, if_neg h, lnO]
  split <;> rfl
set_option maxRecDepth 100000 in
set_option maxHeartbeats 4000000 in
theorem c_La_read (l : Launch) (D : va_G) (tys : List (ClassId × FieldType)) (tc : Nat → ClassId) (hty : ∀ i : Nat, i < 4 → tys[i]? = some (tc i, vx_ty i)) (h ra sa : Nat) (z1 z2 : Int32) (sd : Nat → Int32) (ss : Nat) (q : Nat) (ro : Nat → Nat) (tx : Nat → List Nat) (hx : ∀ G, G < 8 → isT (tx G)) (K : Nat → Nat) (q0 m0 : Int32) (wh : Nat) (hwh : wh < 6) : Kt l y_La_read (yw y_La_read b_La_read 4 (some .boolean)) 7 151 0 0 D cls tys (fun A U H => rqF q ro tx A U H ∧ rdF ra [] A U H ∧ gF K A U H) [.ref h, .ref q, .ref (K (200 + wh))] [(h, .inr (1, [.ref ra, .int z1, .int z2, .ref sa, .int (nI ss), .int (q0), .int (m0)])), (sa, .inl (tc 0, 96, .inl sd))] (fun r w => r = some (.int (bI (lanL (coL wh) (beL wh) 97 0 0 0 (tx 1)).isSome)) ∧ ∃ ra2 y1 y2 ss2 sd2 q2 m2, w = [(h, .inr (1, [.ref ra2, .int y1, .int y2, .ref sa, .int (nI ss2), .int (q2), .int (m2)])), (sa, .inl (tc 0, 96, .inl sd2))] ∧ (ra2 = ra ∨ ra2 = ro 1) ∧ ∀ v, (lanL (coL wh) (beL wh) 97 0 0 0 (tx 1)) = some v → q2 = nI v) := by
  refine Kt.of (ro_and (rqF_ro q ro tx) (ro_and (rdF_ro ra []) (gF_ro K))) (by decide) rfl hty (Nat.le_of_ble_eq_true rfl) ?_
  intro p e s m args below meth c0 A hC hr hlk hnm hF
  have hFt : vx_Ft y_La_read.cls (yw y_La_read b_La_read 4 (some .boolean)) cls cty ft_La := ft_of (fun w h => List.mem_cons_of_mem _ h) fl_La_in ft_La_b
  have hini : false = true → meth.name = "<init>" := fun h => by cases h
  obtain ⟨hrq, hold, hg⟩ := hF
  refine vx_gon hC hFt hini (vx_ends hC hr hlk) jc_La_read 0 12 (by decide) rfl ?_
  refine ux_call hC (c_Rd_open l D tys tc hty 1 (by decide) h ra sa [.int (q0), .int (m0)] z1 z2 sd ss q ro tx 1 (by decide) (hx 1 (by decide)).1) hrq (cw_U wm_Rd_open wl_La_9 wsm_La_open wi_Rd_open ws_La_La_open rfl hC.2.2.2.2.1 ⟨by decide, by decide⟩) rfl rfl rfl rfl (Nat.le_of_ble_eq_true rfl) ⟨Nat.zero_le _, Nat.zero_le _⟩ (fun r' w1 hp => ?_)
  obtain ⟨rfl, rfl⟩ := hp
  obtain ⟨ra2, hra2⟩ : ∃ ra2, (if 0 < (tx 1).length then ro 1 else ra) = ra2 := ⟨_, rfl⟩
  rw [hra2]
  have hra : ra2 = ra ∨ ra2 = ro 1 := by rw [← hra2]; split <;> simp
  have hrd : rdF ra2 (tx 1) A s s.heap := by
    rw [← hra2]
    split
    · exact hrq.2.choose_spec.choose_spec.2.2.2.2 1 (by decide)
    · rename_i hz
      rw [show tx 1 = [] from List.eq_nil_of_length_eq_zero (by omega)]; exact hold
  obtain ⟨T, hTe⟩ : ∃ T, tx 1 = T := ⟨_, rfl⟩
  have hT : isT T := by rw [← hTe]; exact hx 1 (by decide)
  rw [hTe] at hrd ⊢
  refine And.intro rfl (And.intro (And.intro rfl rfl) ?_)
  refine And.intro rfl (And.intro (And.intro rfl rfl) ?_)
  refine Vx.subL (lv' := [(0, .ref h), (2, .ref (K (200 + wh))), (3, .int (nI 0))]) [1, 3, 0] rfl ?_
  obtain ⟨el, he0⟩ : ∃ el : Nat, el = 0 := ⟨_, rfl⟩
  obtain ⟨lg4, hm0⟩ : ∃ lg4 : Nat, lg4 = 0 := ⟨_, rfl⟩
  obtain ⟨q4, hq0⟩ : ∃ q4 : Nat, q4 = 0 := ⟨_, rfl⟩
  obtain ⟨r4, hr0⟩ : ∃ r4 : List Nat, r4 = T := ⟨_, rfl⟩
  obtain ⟨sd4, hd0⟩ : ∃ sd4, sd4 = sd := ⟨_, rfl⟩
  obtain ⟨ss4, hs0⟩ : ∃ ss4, ss4 = ss := ⟨_, rfl⟩
  obtain ⟨n4, hn0⟩ : ∃ n4 : Nat, n4 = 97 := ⟨_, rfl⟩
  obtain ⟨RES, hRES⟩ : ∃ RES, lanL (coL wh) (beL wh) 97 0 0 0 T = RES := ⟨_, rfl⟩
  rw [hRES]
  refine Vx.eqs rfl (lv2 := [(0, .ref h), (2, .ref (K (200 + wh))), (3, .int (nI el))]) (by rw [he0]) rfl (w2 := (rdW tc 1 h ra2 sa [.int (nI q4), .int (mtI lg4)] T r4 sd4 ss4)) (by rw [hm0, hq0, hr0, hd0, hs0]; rfl) ?_
  have hs4 : r4 <:+ T := by rw [hr0]; exact List.suffix_refl _
  have hres : lanL (coL wh) (beL wh) n4 el lg4 q4 r4 = RES := by rw [hn0, he0, hm0, hq0, hr0]; exact hRES
  have hln : r4.length + el ≤ 96 := by rw [hr0, he0]; have := hT.1; omega
  have hnt : n4 + el = 97 := by omega
  have hlg : lg4 ≤ 1000 := by omega
  clear he0 hm0 hq0 hr0 hd0 hs0 hn0 hRES
  induction n4 generalizing el lg4 q4 r4 sd4 ss4 with
  | zero => omega
  | succ n4 ih =>
    refine vx_go hC hFt hini (vx_ends hC hr hlk) jc_La_read 12 (by decide) rfl ?_
    refine And.intro (fun c14 => ?_) (fun c14 => ?_)
    · skip
      have c14 : 96 ≤ el := (nI_leI (a := 96) (by omega) (by omega)).mp c14
      refine vx_go hC hFt hini (vx_ends hC hr hlk) jc_La_read 29 (by decide) rfl ?_
      refine And.intro (fun c30 => ?_) (fun c30 => ?_)
      · skip
        have c30 : el = 0 := Nat.eq_zero_of_not_pos (fun z => absurd c30 (nI_nle z (by omega)))
        refine vx_go hC hFt hini (vx_ends hC hr hlk) jc_La_read 33 (by decide) rfl ?_
        refine And.intro (rfl) (And.intro ?_ (And.intro (Nat.le_refl _) (Nat.le_refl _)))
        have hg0 : gc r4 = [] := by rw [show r4 = [] from List.eq_nil_of_length_eq_zero (by omega)]; rfl
        rw [lanL, if_pos hg0, if_pos c30] at hres
        subst hres
        exact ⟨rfl, ra2, _, _, _, _, _, _, rfl, hra, (fun v hv => by cases hv)⟩
      · skip
        have c30 : ¬ el = 0 := fun z => c30 (by rw [z]; exact nI_le (Nat.le_refl 0) (by decide))
        refine vx_go hC hFt hini (vx_ends hC hr hlk) jc_La_read 34 (by decide) rfl ?_
        refine And.intro (rfl) (And.intro ?_ (And.intro (Nat.le_refl _) (Nat.le_refl _)))
        have hg0 : gc r4 = [] := by rw [show r4 = [] from List.eq_nil_of_length_eq_zero (by omega)]; rfl
        rw [lanL, if_pos hg0, if_neg c30] at hres
        subst hres
        exact ⟨rfl, ra2, _, _, _, _, _, _, rfl, hra, (fun v hv => by rw [Option.some.inj hv])⟩
    · skip
      have c14 : ¬ 96 ≤ el := fun z => c14 ((nI_leI (a := 96) (by omega) (by omega)).mpr z)
      refine ux_call hC (c_Rd_findElement l D tys tc hty 1 (by decide) h ra2 sa [.int (nI q4), .int (mtI lg4)] T r4 sd4 ss4 hT hs4) hrd (cw_U wm_Rd_findElement wl_La_22 wsm_La_findElement wi_Rd_findElement ws_La_La_findElement rfl hC.2.2.2.2.1 ⟨by decide, by decide⟩) rfl rfl rfl rfl (Nat.le_of_ble_eq_true rfl) ⟨Nat.zero_le _, Nat.zero_le _⟩ (fun r' w1 hp => ?_)
      obtain ⟨rfl, rfl⟩ := hp
      refine And.intro (fun c17 => ?_) (fun c17 => ?_)
      · skip
        have c17 : gc r4 = [] := by
          cases h9 : gc r4 with
          | nil => rfl
          | cons a b => rw [h9] at c17; exact absurd c17 (show ¬ bI true = 0 by decide)
        refine vx_go hC hFt hini (vx_ends hC hr hlk) jc_La_read 29 (by decide) rfl ?_
        refine And.intro (fun c30 => ?_) (fun c30 => ?_)
        · skip
          have c30 : el = 0 := Nat.eq_zero_of_not_pos (fun z => absurd c30 (nI_nle z (by omega)))
          refine vx_go hC hFt hini (vx_ends hC hr hlk) jc_La_read 33 (by decide) rfl ?_
          refine And.intro (rfl) (And.intro ?_ (And.intro (Nat.le_refl _) (Nat.le_refl _)))
          have hg0 := c17
          rw [lanL, if_pos hg0, if_pos c30] at hres
          subst hres
          exact ⟨rfl, ra2, _, _, _, _, _, _, rfl, hra, (fun v hv => by cases hv)⟩
        · skip
          have c30 : ¬ el = 0 := fun z => c30 (by rw [z]; exact nI_le (Nat.le_refl 0) (by decide))
          refine vx_go hC hFt hini (vx_ends hC hr hlk) jc_La_read 34 (by decide) rfl ?_
          refine And.intro (rfl) (And.intro ?_ (And.intro (Nat.le_refl _) (Nat.le_refl _)))
          have hg0 := c17
          rw [lanL, if_pos hg0, if_neg c30] at hres
          subst hres
          exact ⟨rfl, ra2, _, _, _, _, _, _, rfl, hra, (fun v hv => by rw [Option.some.inj hv])⟩
      · skip
        have c17 : ¬ gc r4 = [] := fun z => c17 (by rw [z]; rfl)
        have hsg : gc r4 <:+ T := gc_sf.trans hs4
        refine ox_call hC (c_La_readRange l D tys tc hty h ra2 sa T (gc r4) sd4 ss4 hT hsg K q4 lg4 hlg wh hwh) ⟨hrd, hg⟩ (cw_V wm_La_readRange wl_La_26 wi_La_readRange ws_La_La_readRange hC.2.2.2.2.1 ⟨by decide, by decide⟩) rfl rfl rfl rfl (Nat.le_of_ble_eq_true rfl) ⟨Nat.zero_le _, Nat.zero_le _⟩ (fun r' w1 hp => ?_)
        obtain ⟨rfl, qu5, lo5, r5, sd5, ss5, rfl, hs5, hx5⟩ := hp
        refine And.intro (fun c21 => ?_) (fun c21 => ?_)
        · skip
          have c21 : lnO (gc r4) = none := by
            cases h9 : lnO (gc r4) with
            | none => rfl
            | some u => rw [h9] at c21; exact absurd c21 (show ¬ bI true = 0 by decide)
          refine vx_go hC hFt hini (vx_ends hC hr hlk) jc_La_read 25 (by decide) rfl ?_
          refine And.intro (rfl) (And.intro ?_ (And.intro (Nat.le_refl _) (Nat.le_refl _)))
          rw [lanL_O c17, c21] at hres
          subst hres
          exact ⟨rfl, ra2, _, _, _, _, _, _, rfl, hra, (fun v hv => by cases hv)⟩
        · skip
          obtain ⟨u1, hu1⟩ : ∃ u1, lnO (gc r4) = some u1 := by
            cases h9 : lnO (gc r4) with
            | none => rw [h9] at c21; exact absurd rfl c21
            | some u => exact ⟨u, rfl⟩
          obtain ⟨hg2, rfl, rfl⟩ := hx5 u1 hu1
          have hml := lnO_len hu1
          refine ux_call hC (c_Rd_endsElement l D tys tc hty 1 (by decide) h ra2 sa [.int (nI (if lg4 < (fitL (coL wh) (beL wh) (lgt (gc r4)).2.2) then u1.1 else q4)), .int (mtI (if lg4 < (fitL (coL wh) (beL wh) (lgt (gc r4)).2.2) then (fitL (coL wh) (beL wh) (lgt (gc r4)).2.2) else lg4))] T r5 sd5 ss5 hT hs5) hrd (cw_U wm_Rd_endsElement wl_La_30 wsm_La_endsElement wi_Rd_endsElement ws_La_La_endsElement rfl hC.2.2.2.2.1 ⟨by decide, by decide⟩) rfl rfl rfl rfl (Nat.le_of_ble_eq_true rfl) ⟨Nat.zero_le _, Nat.zero_le _⟩ (fun r' w1 hp => ?_)
          obtain ⟨rfl, rfl⟩ := hp
          refine And.intro (fun c24 => ?_) (fun c24 => ?_)
          · skip
            have c24 : ee (gp r5) = true := bI_ne c24
            refine vx_go hC hFt hini (vx_ends hC hr hlk) jc_La_read 27 (by decide) rfl ?_
            refine Vx.subL (lv' := [(0, .ref h), (2, .ref (K (200 + wh))), (3, .int (nI el + 1))]) [1, 2, 0] rfl ?_
            rw [nI_1]
            have hgl := (gc_sf (rs := r4)).length_le
            have hgl2 : (gp r5).length < (gc r4).length := by rw [hg2]; exact hml
            have hfl := fitL_le (C := coL wh) (B := beL wh) (lgt_lt hT hsg).1
            exact ih (el + 1) (if lg4 < (fitL (coL wh) (beL wh) (lgt (gc r4)).2.2) then (fitL (coL wh) (beL wh) (lgt (gc r4)).2.2) else lg4) (if lg4 < (fitL (coL wh) (beL wh) (lgt (gc r4)).2.2) then u1.1 else q4) (gp r5) sd5 ss5 (gp_sf.trans hs5) (by rw [← hres, lanL_O c17, hu1]; show _ = (if ee u1.2 = true then _ else none); rw [← hg2, if_pos c24]) (by omega) (by omega) (by split <;> omega)
          · skip
            have c24 : ee (gp r5) = false := bI_eq (c24)
            refine And.intro (rfl) (And.intro ?_ (And.intro (Nat.le_refl _) (Nat.le_refl _)))
            rw [lanL_O c17, hu1] at hres
            replace hres : (if ee u1.2 = true then _ else none) = RES := hres
            rw [← hg2, if_neg (by rw [c24]; exact fun z => by cases z)] at hres
            subst hres
            exact ⟨rfl, ra2, _, _, _, _, _, _, rfl, hra, (fun v hv => by cases hv)⟩
