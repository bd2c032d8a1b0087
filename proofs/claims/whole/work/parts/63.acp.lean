/-! THE CLASS: Accept's parameters and lists, by program (wip/whole/gen/p63.py) -/
theorem bsc_sc {rs : List Nat} (h : (pk 59 (gp rs)).1 = true) : (sc (gp rs)).2 = bsc rs := by rw [sc_t h]; rfl
theorem bsc_len {rs : List Nat} (h : (pk 59 (gp rs)).1 = true) : (bsc rs).length < rs.length := by
  have h1 := pk_len1 h
  have h2 := (gp_sf (rs := rs)).length_le
  have h3 := (gp_sf (rs := (pk 59 (gp rs)).2)).length_le
  unfold bsc
  omega
theorem asg_sf {rs : List Nat} : (asg rs).2.1 <:+ rs := by
  unfold asg
  split
  · split
    · exact qtx_sf.trans (pk_sf.trans pk_sf)
    · exact (List.dropWhile_suffix _).trans pk_sf
  · exact List.nil_suffix
theorem asg_qt {rs : List Nat} (h : (pk 61 rs).1 = true) (h2 : (pk 34 (pk 61 rs).2).1 = true) : asg rs = qtd (pk 61 rs).2 := by
  unfold asg qtd
  rw [if_pos h, if_pos h2]
  rcases hq : pk 34 (pk 61 rs).2 with ⟨a, b⟩
  rw [hq] at h2
  cases a with
  | true => rfl
  | false => cases h2
theorem asg_tk {rs : List Nat} (h : (pk 61 rs).1 = true) (h2 : (pk 34 (pk 61 rs).2).1 = false) : asg rs = (!((pk 61 rs).2.takeWhile isTk).isEmpty, (pk 61 rs).2.dropWhile isTk, (pk 61 rs).2.takeWhile isTk) := by
  unfold asg
  rw [if_pos h, if_neg (by rw [h2]; exact fun z => by cases z)]
theorem nI_nm1 {n : Nat} (h : n < 2 ^ 31) : ¬ nI n = -1 := fun z => by
  have h1 := nI_ge0 h
  rw [z] at h1
  exact absurd h1 (by decide)
set_option maxRecDepth 100000 in
set_option maxHeartbeats 4000000 in
theorem c_Ac_readParameters (l : Launch) (D : va_G) (tys : List (ClassId × FieldType)) (tc : Nat → ClassId) (hty : ∀ i : Nat, i < 4 → tys[i]? = some (tc i, vx_ty i)) (h ra sa : Nat) (T rs : List Nat) (sd : Nat → Int32) (ss : Nat) (hT : isT T) (hs : rs <:+ T) (K : Nat → Nat) (qu mo : Int32) (f0 : Bool) (t0 : Nat) (we : Int32) (kd : Nat) (hkd : kd < 6) : Kt l y_Ac_readParameters (yw y_Ac_readParameters b_Ac_readParameters 4 (some .boolean)) 5 111 0 0 D cls tys (fun A U H => rdF ra T A U H ∧ gF K A U H) [.ref h, .ref (K (100 + kd))] (rdW tc 0 h ra sa [.int (qu), .int (mo), .int (bI f0), .int (nI t0), .int (we)] T rs sd ss) (fun r w => r = some (.int (bI (prm (pnL kd) (vnL kd) 97 f0 t0 rs).isSome)) ∧ ∃ fi2 to2 we2 rs2 sd2 ss2, w = (rdW tc 0 h ra sa [.int (qu), .int (mo), .int (fi2), .int (to2), .int (we2)] T rs2 sd2 ss2) ∧ rs2 <:+ T ∧ ∀ u, (prm (pnL kd) (vnL kd) 97 f0 t0 rs) = some u → fi2 = bI u.1 ∧ to2 = nI u.2.1 ∧ we2 = nI u.2.2.1 ∧ gp rs2 = u.2.2.2) := by
  refine Kt.of (ro_and (rdF_ro ra T) (gF_ro K)) (by decide) rfl hty (Nat.le_of_ble_eq_true rfl) ?_
  intro p e s m args below meth c0 A hC hr hlk hnm hF
  have hFt : vx_Ft y_Ac_readParameters.cls (yw y_Ac_readParameters b_Ac_readParameters 4 (some .boolean)) cls cty ft_Ac := ft_of (fun w h => List.mem_cons_of_mem _ h) fl_Ac_in ft_Ac_b
  have hini : false = true → meth.name = "<init>" := fun h => by cases h
  obtain ⟨hrd, hg⟩ := hF
  have hTl := hT.1
  obtain ⟨a1, a2, a3, a4, ⟨g1, k1⟩, ⟨g2, k2⟩, ⟨g3, k3⟩, ⟨g4, k4⟩⟩ := hg.2.1 kd hkd
  refine vx_gon hC hFt hini (vx_ends hC hr hlk) jc_Ac_readParameters 0 5 (by decide) rfl ?_
  refine And.intro rfl (And.intro (And.intro rfl rfl) ?_)
  refine Vx.subL (lv' := [(0, .ref h), (1, .ref (K (100 + kd))), (2, .int (nI 0))]) [1, 2, 0] rfl ?_
  obtain ⟨tn, htn⟩ : ∃ tn : Nat, tn = 0 := ⟨_, rfl⟩
  obtain ⟨f4, hf4⟩ : ∃ f4 : Bool, f4 = f0 := ⟨_, rfl⟩
  obtain ⟨t4, ht4⟩ : ∃ t4 : Nat, t4 = t0 := ⟨_, rfl⟩
  obtain ⟨r4, hr4⟩ : ∃ r4 : List Nat, r4 = rs := ⟨_, rfl⟩
  obtain ⟨sd4, hd4⟩ : ∃ sd4, sd4 = sd := ⟨_, rfl⟩
  obtain ⟨ss4, hss4⟩ : ∃ ss4, ss4 = ss := ⟨_, rfl⟩
  obtain ⟨n4, hn4⟩ : ∃ n4 : Nat, n4 = 97 := ⟨_, rfl⟩
  obtain ⟨RES, hRES⟩ : ∃ RES, (prm (pnL kd) (vnL kd) 97 f0 t0 rs) = RES := ⟨_, rfl⟩
  rw [hRES]
  refine Vx.eqs rfl (lv2 := [(0, .ref h), (1, .ref (K (100 + kd))), (2, .int (nI tn))]) (by rw [htn]) rfl (w2 := (rdW tc 0 h ra sa [.int (qu), .int (mo), .int (bI f4), .int (nI t4), .int (nI 1000)] T r4 sd4 ss4)) (by rw [hf4, ht4, hr4, hd4, hss4]; rfl) ?_
  have hs4 : r4 <:+ T := by rw [hr4]; exact hs
  have hres : prm (pnL kd) (vnL kd) n4 f4 t4 r4 = RES := by rw [hn4, hf4, ht4, hr4]; exact hRES
  have hln : r4.length + tn ≤ 96 := by have := sfx_le hs; rw [hr4, htn]; omega
  have hnt : n4 + tn = 97 := by omega
  clear htn hf4 ht4 hr4 hd4 hss4 hn4 hRES
  induction n4 generalizing tn f4 t4 r4 sd4 ss4 with
  | zero => omega
  | succ n4 ih =>
    refine vx_cut (α := (Nat → Int32)) 108 (fun u => sdIs u (asg ((bsc r4).dropWhile isTk)).2.2 ∧ (asg ((bsc r4).dropWhile isTk)).1 = true ∧ ((asg ((bsc r4).dropWhile isTk)).2.2.length ≤ 96 ∧ ∀ i, i < (asg ((bsc r4).dropWhile isTk)).2.2.length → (asg ((bsc r4).dropWhile isTk)).2.2.getD i 0 < 256) ∧ (pk 59 (gp r4)).1 = true ∧ ¬ ((bsc r4).takeWhile isTk) = [] ∧ alikeL ((bsc r4).takeWhile isTk) [113] = false ∧ bsc r4 <:+ T ∧ (bsc r4).length < r4.length) (fun u => [(0, .ref h), (1, .ref (K (100 + kd))), (2, .int (nI tn)), (3, .int (bI (alikeL ((bsc r4).takeWhile isTk) (pnL kd))))]) (fun u => []) (fun u => (rdW tc 0 h ra sa [.int (qu), .int (mo), .int (bI f4), .int (nI t4), .int (nI 1000)] T (asg ((bsc r4).dropWhile isTk)).2.1 u (asg ((bsc r4).dropWhile isTk)).2.2.length)) (fun hJ54 => ?_) ?_
    · skip
      refine vx_gon hC hFt hini (vx_ends hC hr hlk) jc_Ac_readParameters 5 49 (by decide) rfl ?_
      refine And.intro (fun c7 => ?_) (fun c7 => ?_)
      · skip
        have c7 : 96 ≤ tn := (nI_leI (a := 96) (by omega) (by omega)).mp c7
        refine vx_go hC hFt hini (vx_ends hC hr hlk) jc_Ac_readParameters 77 (by decide) rfl ?_
        refine And.intro (rfl) (And.intro ?_ (And.intro (Nat.le_refl _) (Nat.le_refl _)))
        have hr0 : r4 = [] := List.eq_nil_of_length_eq_zero (by omega)
        subst hr0
        rw [prm, if_neg (fun z => by cases z)] at hres
        subst hres
        exact ⟨rfl, bI f4, nI t4, nI 1000, [], sd4, ss4, rfl, hs4, (fun u hu => by obtain rfl := Option.some.inj hu; exact ⟨rfl, rfl, rfl, rfl⟩)⟩
      · skip
        have c7 : ¬ 96 ≤ tn := fun z => c7 ((nI_leI (a := 96) (by omega) (by omega)).mpr z)
        refine ux_call hC (c_Rd_takeSemicolon l D tys tc hty 0 (by decide) h ra sa [.int (qu), .int (mo), .int (bI f4), .int (nI t4), .int (nI 1000)] T r4 sd4 ss4 hT hs4) hrd (cw_U wm_Rd_takeSemicolon wl_Ac_77 wsm_Ac_takeSemicolon wi_Rd_takeSemicolon ws_Ac_Ac_takeSemicolon rfl hC.2.2.2.2.1 ⟨by decide, by decide⟩) rfl rfl rfl rfl (Nat.le_of_ble_eq_true rfl) ⟨Nat.zero_le _, Nat.zero_le _⟩ (fun r' w1 hp => ?_)
        obtain ⟨rfl, rfl⟩ := hp
        refine And.intro (fun c10 => ?_) (fun c10 => ?_)
        · skip
          have c10 : (pk 59 (gp r4)).1 = false := by rw [← sc_1]; exact bI_eq c10
          refine vx_go hC hFt hini (vx_ends hC hr hlk) jc_Ac_readParameters 77 (by decide) rfl ?_
          refine And.intro (rfl) (And.intro ?_ (And.intro (Nat.le_refl _) (Nat.le_refl _)))
          rw [prm, if_neg (by rw [c10]; exact fun z => by cases z)] at hres
          subst hres
          exact ⟨rfl, bI f4, nI t4, nI 1000, (sc (gp r4)).2, sd4, ss4, rfl, sc_sf.trans (gp_sf.trans hs4), (fun u hu => by obtain rfl := Option.some.inj hu; exact ⟨rfl, rfl, rfl, by rw [sc_f c10, gp_gp]⟩)⟩
        · skip
          have c10 : (pk 59 (gp r4)).1 = true := by rw [← sc_1]; exact bI_ne c10
          have hsB : bsc r4 <:+ T := by rw [← bsc_sc c10]; exact sc_sf.trans (gp_sf.trans hs4)
          have hBl := bsc_len c10
          rw [bsc_sc c10]
          refine ux_call hC (c_Rd_takeToken l D tys tc hty 0 (by decide) h ra sa [.int (qu), .int (mo), .int (bI f4), .int (nI t4), .int (nI 1000)] T (bsc r4) sd4 ss4 hT hsB (K 0)) ⟨hrd, hg.1 0 _ rfl⟩ (cw_U wm_Rd_takeToken wl_Ac_39 wsm_Ac_takeToken wi_Rd_takeToken ws_Ac_Ac_takeToken rfl hC.2.2.2.2.1 ⟨by decide, by decide⟩) rfl rfl rfl rfl (Nat.le_of_ble_eq_true rfl) ⟨Nat.zero_le _, Nat.zero_le _⟩ (fun r' w1 hp => ?_)
          obtain ⟨rfl, sd5, hsd5, rfl⟩ := hp
          refine And.intro (fun c13 => ?_) (fun c13 => ?_)
          · skip
            have c13 : ¬ ((bsc r4).takeWhile isTk) = [] := fun z => c13 (by rw [z]; rfl)
            refine vx_gon hC hFt hini (vx_ends hC hr hlk) jc_Ac_readParameters 16 38 (by decide) rfl ?_
            refine ⟨_, Or.inr (Or.inr ⟨_, _, rfl, (hg.1 3 _ rfl).1⟩), ?_⟩
            refine ux_call hC (c_Rd_isSaidAlike l D tys tc hty 0 (by decide) h ra sa [.int (qu), .int (mo), .int (bI f4), .int (nI t4), .int (nI 1000)] T ((bsc r4).dropWhile isTk) sd5 ((bsc r4).takeWhile isTk).length hT (dw_sfx hsB) (K 3) [113] (by exact ⟨by decide, by decide⟩) ((bsc r4).takeWhile isTk) hsd5 rfl (tk_lt hT hsB).1 (tk_lt hT hsB).2) (hg.1 3 _ rfl).2 (cw_U wm_Rd_isSaidAlike wl_Ac_54 wsm_Ac_isSaidAlike wi_Rd_isSaidAlike ws_Ac_Ac_isSaidAlike rfl hC.2.2.2.2.1 ⟨by decide, by decide⟩) rfl rfl rfl rfl (Nat.le_of_ble_eq_true rfl) ⟨Nat.zero_le _, Nat.zero_le _⟩ (fun r' w1 hp => ?_)
            obtain ⟨rfl, rfl⟩ := hp
            refine And.intro (fun c19 => ?_) (fun c19 => ?_)
            · skip
              have c19 : alikeL ((bsc r4).takeWhile isTk) [113] = false := bI_eq c19
              refine vx_gon hC hFt hini (vx_ends hC hr hlk) jc_Ac_readParameters 32 22 (by decide) rfl ?_
              refine ⟨_, ⟨"OriginDesk$MediaType", "parameter", "Ljava/lang/String;", "OriginDesk$MediaType", g3, Or.inl (hC.2.2.2.2.1 _ (List.mem_cons_of_mem _ wf_Ac_86)), fun _ z => z⟩, ?_⟩
              refine ux_call hC (c_Rd_isSaidAlike l D tys tc hty 0 (by decide) h ra sa [.int (qu), .int (mo), .int (bI f4), .int (nI t4), .int (nI 1000)] T ((bsc r4).dropWhile isTk) sd5 ((bsc r4).takeWhile isTk).length hT (dw_sfx hsB) a3 (pnL kd) (isW_m kd).2.2.1 ((bsc r4).takeWhile isTk) hsd5 rfl (tk_lt hT hsB).1 (tk_lt hT hsB).2) k3 (cw_U wm_Rd_isSaidAlike wl_Ac_54 wsm_Ac_isSaidAlike wi_Rd_isSaidAlike ws_Ac_Ac_isSaidAlike rfl hC.2.2.2.2.1 ⟨by decide, by decide⟩) rfl rfl rfl rfl (Nat.le_of_ble_eq_true rfl) ⟨Nat.zero_le _, Nat.zero_le _⟩ (fun r' w1 hp => ?_)
              obtain ⟨rfl, rfl⟩ := hp
              refine ux_call hC (c_Rd_take l D tys tc hty 0 (by decide) h ra sa [.int (qu), .int (mo), .int (bI f4), .int (nI t4), .int (nI 1000)] T ((bsc r4).dropWhile isTk) sd5 ((bsc r4).takeWhile isTk).length 61 hT (dw_sfx hsB) (by decide)) hrd (cw_U wm_Rd_take wl_Ac_60 wsm_Ac_take wi_Rd_take ws_Ac_Ac_take rfl hC.2.2.2.2.1 ⟨by decide, by decide⟩) rfl rfl rfl rfl (Nat.le_of_ble_eq_true rfl) ⟨Nat.zero_le _, Nat.zero_le _⟩ (fun r' w1 hp => ?_)
              obtain ⟨rfl, rfl⟩ := hp
              refine And.intro (fun c40 => ?_) (fun c40 => ?_)
              · skip
                have c40 : (pk 61 ((bsc r4).dropWhile isTk)).1 = false := bI_eq c40
                refine vx_gon hC hFt hini (vx_ends hC hr hlk) jc_Ac_readParameters 52 2 (by decide) rfl ?_
                refine And.intro (rfl) (And.intro ?_ (And.intro (Nat.le_refl _) (Nat.le_refl _)))
                rw [prm, if_pos c10, if_neg c13, if_neg (by rw [c19]; exact fun z => by cases z), if_neg (by rw [asg, c40]; exact fun z => by cases z)] at hres
                subst hres
                exact ⟨rfl, bI f4, nI t4, nI 1000, (pk 61 ((bsc r4).dropWhile isTk)).2, sd5, ((bsc r4).takeWhile isTk).length, rfl, pk_sf.trans (dw_sfx hsB), (fun u hu => by cases hu)⟩
              · skip
                have c40 : (pk 61 ((bsc r4).dropWhile isTk)).1 = true := bI_ne c40
                have hsE : (pk 61 ((bsc r4).dropWhile isTk)).2 <:+ T := pk_sf.trans (dw_sfx hsB)
                refine ux_call hC (c_Rd_isNext l D tys tc hty 0 (by decide) h ra sa [.int (qu), .int (mo), .int (bI f4), .int (nI t4), .int (nI 1000)] T (pk 61 ((bsc r4).dropWhile isTk)).2 sd5 ((bsc r4).takeWhile isTk).length hT hsE 34 (by decide)) hrd (cw_U wm_Rd_isNext wl_Ac_89 wsm_Ac_isNext wi_Rd_isNext ws_Ac_Ac_isNext rfl hC.2.2.2.2.1 ⟨by decide, by decide⟩) rfl rfl rfl rfl (Nat.le_of_ble_eq_true rfl) ⟨Nat.zero_le _, Nat.zero_le _⟩ (fun r' w1 hp => ?_)
                obtain ⟨rfl, rfl⟩ := hp
                refine And.intro (fun c44 => ?_) (fun c44 => ?_)
                · skip
                  have c44 : (pk 34 (pk 61 ((bsc r4).dropWhile isTk)).2).1 = false := bI_eq c44
                  refine vx_gon hC hFt hini (vx_ends hC hr hlk) jc_Ac_readParameters 49 5 (by decide) rfl ?_
                  refine ux_call hC (c_Rd_takeToken l D tys tc hty 0 (by decide) h ra sa [.int (qu), .int (mo), .int (bI f4), .int (nI t4), .int (nI 1000)] T (pk 61 ((bsc r4).dropWhile isTk)).2 sd5 ((bsc r4).takeWhile isTk).length hT hsE (K 0)) ⟨hrd, hg.1 0 _ rfl⟩ (cw_U wm_Rd_takeToken wl_Ac_39 wsm_Ac_takeToken wi_Rd_takeToken ws_Ac_Ac_takeToken rfl hC.2.2.2.2.1 ⟨by decide, by decide⟩) rfl rfl rfl rfl (Nat.le_of_ble_eq_true rfl) ⟨Nat.zero_le _, Nat.zero_le _⟩ (fun r' w1 hp => ?_)
                  obtain ⟨rfl, sd6, hsd6, rfl⟩ := hp
                  refine And.intro (fun c51 => ?_) (fun c51 => ?_)
                  · skip
                    have c51 : (!((pk 61 ((bsc r4).dropWhile isTk)).2.takeWhile isTk).isEmpty) = true := bI_ne c51
                    refine Vx.subL (lv' := [(0, .ref h), (1, .ref (K (100 + kd))), (2, .int (nI tn)), (3, .int (bI (alikeL ((bsc r4).takeWhile isTk) (pnL kd))))]) [1, 2, 3, 0] rfl ?_
                    have ha := asg_tk c40 c44
                    refine Vx.eqs rfl rfl rfl (w2 := (rdW tc 0 h ra sa [.int (qu), .int (mo), .int (bI f4), .int (nI t4), .int (nI 1000)] T (asg ((bsc r4).dropWhile isTk)).2.1 sd6 (asg ((bsc r4).dropWhile isTk)).2.2.length)) (by rw [ha]) ?_
                    exact hJ54 sd6 ⟨by rw [ha]; exact hsd6, by rw [ha]; exact c51, by rw [ha]; exact in_lt hT hsE ⟨(List.takeWhile_sublist _).length_le, fun z hz => (List.takeWhile_sublist _).subset hz⟩, c10, c13, c19, hsB, hBl⟩
                  · skip
                    have c51 : (!((pk 61 ((bsc r4).dropWhile isTk)).2.takeWhile isTk).isEmpty) = false := bI_eq (c51)
                    refine And.intro (rfl) (And.intro ?_ (And.intro (Nat.le_refl _) (Nat.le_refl _)))
                    rw [prm, if_pos c10, if_neg c13, if_neg (by rw [c19]; exact fun z => by cases z), if_neg (by rw [asg_tk c40 c44, c51]; exact fun z => by cases z)] at hres
                    subst hres
                    exact ⟨rfl, bI f4, nI t4, nI 1000, ((pk 61 ((bsc r4).dropWhile isTk)).2.dropWhile isTk), sd6, ((pk 61 ((bsc r4).dropWhile isTk)).2.takeWhile isTk).length, rfl, dw_sfx (pk_sf.trans (dw_sfx hsB)), (fun u hu => by cases hu)⟩
                · skip
                  have c44 : (pk 34 (pk 61 ((bsc r4).dropWhile isTk)).2).1 = true := bI_ne c44
                  refine ux_call hC (c_Rd_takeQuotedText l D tys tc hty 0 (by decide) h ra sa [.int (qu), .int (mo), .int (bI f4), .int (nI t4), .int (nI 1000)] T (pk 61 ((bsc r4).dropWhile isTk)).2 sd5 ((bsc r4).takeWhile isTk).length hT hsE) hrd (cw_U wm_Rd_takeQuotedText wl_Ac_92 wsm_Ac_takeQuotedText wi_Rd_takeQuotedText ws_Ac_Ac_takeQuotedText rfl hC.2.2.2.2.1 ⟨by decide, by decide⟩) rfl rfl rfl rfl (Nat.le_of_ble_eq_true rfl) ⟨Nat.zero_le _, Nat.zero_le _⟩ (fun r' w1 hp => ?_)
                  obtain ⟨rfl, sd6, hsd6, rfl⟩ := hp
                  refine And.intro (fun c47 => ?_) (fun c47 => ?_)
                  · skip
                    have c47 : (qtd (pk 61 ((bsc r4).dropWhile isTk)).2).1 = false := bI_eq c47
                    refine vx_gon hC hFt hini (vx_ends hC hr hlk) jc_Ac_readParameters 52 2 (by decide) rfl ?_
                    refine And.intro (rfl) (And.intro ?_ (And.intro (Nat.le_refl _) (Nat.le_refl _)))
                    rw [prm, if_pos c10, if_neg c13, if_neg (by rw [c19]; exact fun z => by cases z), if_neg (by rw [asg_qt c40 c44, c47]; exact fun z => by cases z)] at hres
                    subst hres
                    exact ⟨rfl, bI f4, nI t4, nI 1000, (qtd (pk 61 ((bsc r4).dropWhile isTk)).2).2.1, sd6, (qtd (pk 61 ((bsc r4).dropWhile isTk)).2).2.2.length, rfl, qtd_sf.trans (pk_sf.trans (dw_sfx hsB)), (fun u hu => by cases hu)⟩
                  · skip
                    have c47 : (qtd (pk 61 ((bsc r4).dropWhile isTk)).2).1 = true := bI_ne c47
                    refine Vx.subL (lv' := [(0, .ref h), (1, .ref (K (100 + kd))), (2, .int (nI tn)), (3, .int (bI (alikeL ((bsc r4).takeWhile isTk) (pnL kd))))]) [1, 2, 3, 0] rfl ?_
                    have ha := asg_qt c40 c44
                    refine Vx.eqs rfl rfl rfl (w2 := (rdW tc 0 h ra sa [.int (qu), .int (mo), .int (bI f4), .int (nI t4), .int (nI 1000)] T (asg ((bsc r4).dropWhile isTk)).2.1 sd6 (asg ((bsc r4).dropWhile isTk)).2.2.length)) (by rw [ha]) ?_
                    exact hJ54 sd6 ⟨by rw [ha]; exact hsd6, by rw [ha]; exact c47, by rw [ha]; exact in_lt hT hsE qtd_in, c10, c13, c19, hsB, hBl⟩
            · skip
              have c19 : alikeL ((bsc r4).takeWhile isTk) [113] = true := bI_ne c19
              refine ux_call hC (c_Rd_takeWeight l D tys tc hty 0 (by decide) h ra sa [.int (qu), .int (mo), .int (bI f4), .int (nI t4), .int (nI 1000)] T ((bsc r4).dropWhile isTk) sd5 ((bsc r4).takeWhile isTk).length hT (dw_sfx hsB)) hrd (cw_U wm_Rd_takeWeight wl_Ac_82 wsm_Ac_takeWeight wi_Rd_takeWeight ws_Ac_Ac_takeWeight rfl hC.2.2.2.2.1 ⟨by decide, by decide⟩) rfl rfl rfl rfl (Nat.le_of_ble_eq_true rfl) ⟨Nat.zero_le _, Nat.zero_le _⟩ (fun r' w1 hp => ?_)
              obtain ⟨rfl, rfl⟩ := hp
              refine And.intro rfl (And.intro (And.intro rfl rfl) ?_)
              refine And.intro rfl ?_
              refine And.intro (fun c27 => ?_) (fun c27 => ?_)
              · skip
                have c27 : (wt ((bsc r4).dropWhile isTk)).1 = none := by
                  cases h9 : (wt ((bsc r4).dropWhile isTk)).1 with
                  | none => rfl
                  | some w9 => rw [h9] at c27; exact absurd c27 (nI_nm1 (by have := wt_le h9; omega))
                refine vx_gon hC hFt hini (vx_ends hC hr hlk) jc_Ac_readParameters 30 24 (by decide) rfl ?_
                refine And.intro (rfl) (And.intro ?_ (And.intro (Nat.le_refl _) (Nat.le_refl _)))
                rw [prm, if_pos c10, if_neg c13, if_pos c19, c27] at hres
                subst hres
                exact ⟨rfl, bI f4, nI t4, iI (wt ((bsc r4).dropWhile isTk)).1, (wt ((bsc r4).dropWhile isTk)).2, sd5, ((bsc r4).takeWhile isTk).length, rfl, wt_sf.trans (dw_sfx hsB), (fun u hu => by cases hu)⟩
              · skip
                have c27 : ∃ w9, (wt ((bsc r4).dropWhile isTk)).1 = some w9 := by
                  cases h9 : (wt ((bsc r4).dropWhile isTk)).1 with
                  | none => rw [h9] at c27; exact absurd rfl c27
                  | some w9 => exact ⟨w9, rfl⟩
                refine vx_gon hC hFt hini (vx_ends hC hr hlk) jc_Ac_readParameters 31 23 (by decide) rfl ?_
                refine And.intro (rfl) (And.intro ?_ (And.intro (Nat.le_refl _) (Nat.le_refl _)))
                obtain ⟨w9, hw9⟩ := c27
                rw [prm, if_pos c10, if_neg c13, if_pos c19, hw9] at hres
                replace hres : some (f4, t4, w9, gp (wt ((bsc r4).dropWhile isTk)).2) = RES := hres
                subst hres
                rw [hw9]
                exact ⟨rfl, bI f4, nI t4, nI w9, (wt ((bsc r4).dropWhile isTk)).2, sd5, ((bsc r4).takeWhile isTk).length, rfl, wt_sf.trans (dw_sfx hsB), (fun u hu => by obtain rfl := Option.some.inj hu; exact ⟨rfl, rfl, rfl, rfl⟩)⟩
          · skip
            have c13 : ((bsc r4).takeWhile isTk) = [] := by
              cases h9 : ((bsc r4).takeWhile isTk) with
              | nil => rfl
              | cons a b => rw [h9] at c13; exact absurd c13 (show ¬ bI true = 0 by decide)
            refine And.intro (rfl) (And.intro ?_ (And.intro (Nat.le_refl _) (Nat.le_refl _)))
            rw [prm, if_pos c10, if_pos c13] at hres
            subst hres
            exact ⟨rfl, bI f4, nI t4, nI 1000, ((bsc r4).dropWhile isTk), sd5, ((bsc r4).takeWhile isTk).length, rfl, dw_sfx hsB, (fun u hu => by cases hu)⟩
    · rintro sd6 ⟨hsd6, hasg, hin6, c10, c13, c19, hsB, hBl⟩
      refine vx_go hC hFt hini (vx_ends hC hr hlk) jc_Ac_readParameters 54 (by decide) rfl ?_
      refine And.intro rfl ?_
      refine And.intro (fun c57 => ?_) (fun c57 => ?_)
      · skip
        have c57 : f4 = false := bI_eq c57
        refine vx_go hC hFt hini (vx_ends hC hr hlk) jc_Ac_readParameters 67 (by decide) rfl ?_
        refine And.intro rfl (And.intro (And.intro rfl rfl) ?_)
        refine And.intro rfl ?_
        refine And.intro rfl ?_
        refine And.intro rfl (And.intro (And.intro rfl rfl) ?_)
        refine Vx.subL (lv' := [(0, .ref h), (1, .ref (K (100 + kd))), (2, .int (nI tn + 1))]) [1, 2, 0] rfl ?_
        have hfn : (f4 && (alikeL ((bsc r4).takeWhile isTk) (pnL kd) && sameL (asg ((bsc r4).dropWhile isTk)).2.2 (vnL kd))) = false := by rw [c57]; rfl
        refine Vx.eqs rfl (lv2 := [(0, .ref h), (1, .ref (K (100 + kd))), (2, .int (nI (tn + 1)))]) (by rw [nI_1]) rfl (w2 := (rdW tc 0 h ra sa [.int (qu), .int (mo), .int (bI false), .int (nI (t4 + 1)), .int (nI 1000)] T (asg ((bsc r4).dropWhile isTk)).2.1 sd6 (asg ((bsc r4).dropWhile isTk)).2.2.length)) (by rw [← nI_1 t4]; rfl) ?_
        have hal := (asg_sf (rs := ((bsc r4).dropWhile isTk))).length_le
        have hdl := (List.dropWhile_suffix (l := bsc r4) isTk).length_le
        exact ih (tn + 1) false (t4 + 1) (asg ((bsc r4).dropWhile isTk)).2.1 sd6 (asg ((bsc r4).dropWhile isTk)).2.2.length (asg_sf.trans (dw_sfx hsB)) (by rw [← hres, prm, if_pos c10, if_neg c13, if_neg (by rw [c19]; exact fun z => by cases z), if_pos hasg, hfn]) (by omega) (by omega)
      · skip
        have c57 : f4 = true := bI_ne c57
        refine And.intro (fun c59 => ?_) (fun c59 => ?_)
        · skip
          have c59 : alikeL ((bsc r4).takeWhile isTk) (pnL kd) = false := bI_eq c59
          refine vx_go hC hFt hini (vx_ends hC hr hlk) jc_Ac_readParameters 67 (by decide) rfl ?_
          refine And.intro rfl (And.intro (And.intro rfl rfl) ?_)
          refine And.intro rfl ?_
          refine And.intro rfl ?_
          refine And.intro rfl (And.intro (And.intro rfl rfl) ?_)
          refine Vx.subL (lv' := [(0, .ref h), (1, .ref (K (100 + kd))), (2, .int (nI tn + 1))]) [1, 2, 0] rfl ?_
          have hfn : (f4 && (alikeL ((bsc r4).takeWhile isTk) (pnL kd) && sameL (asg ((bsc r4).dropWhile isTk)).2.2 (vnL kd))) = false := by rw [c59, Bool.false_and, Bool.and_false]
          refine Vx.eqs rfl (lv2 := [(0, .ref h), (1, .ref (K (100 + kd))), (2, .int (nI (tn + 1)))]) (by rw [nI_1]) rfl (w2 := (rdW tc 0 h ra sa [.int (qu), .int (mo), .int (bI false), .int (nI (t4 + 1)), .int (nI 1000)] T (asg ((bsc r4).dropWhile isTk)).2.1 sd6 (asg ((bsc r4).dropWhile isTk)).2.2.length)) (by rw [← nI_1 t4]; rfl) ?_
          have hal := (asg_sf (rs := ((bsc r4).dropWhile isTk))).length_le
          have hdl := (List.dropWhile_suffix (l := bsc r4) isTk).length_le
          exact ih (tn + 1) false (t4 + 1) (asg ((bsc r4).dropWhile isTk)).2.1 sd6 (asg ((bsc r4).dropWhile isTk)).2.2.length (asg_sf.trans (dw_sfx hsB)) (by rw [← hres, prm, if_pos c10, if_neg c13, if_neg (by rw [c19]; exact fun z => by cases z), if_pos hasg, hfn]) (by omega) (by omega)
        · skip
          have c59 : alikeL ((bsc r4).takeWhile isTk) (pnL kd) = true := bI_ne c59
          refine ⟨_, ⟨"OriginDesk$MediaType", "value", "Ljava/lang/String;", "OriginDesk$MediaType", g4, Or.inl (hC.2.2.2.2.1 _ (List.mem_cons_of_mem _ wf_Ac_95)), fun _ z => z⟩, ?_⟩
          refine ux_call hC (c_Rd_isSaid l D tys tc hty 0 (by decide) h ra sa [.int (qu), .int (mo), .int (bI f4), .int (nI t4), .int (nI 1000)] T (asg ((bsc r4).dropWhile isTk)).2.1 sd6 (asg ((bsc r4).dropWhile isTk)).2.2.length hT (asg_sf.trans (dw_sfx hsB)) a4 (vnL kd) (isW_m kd).2.2.2 (asg ((bsc r4).dropWhile isTk)).2.2 hsd6 rfl hin6.1 hin6.2) k4 (cw_U wm_Rd_isSaid wl_Ac_44 wsm_Ac_isSaid wi_Rd_isSaid ws_Ac_Ac_isSaid rfl hC.2.2.2.2.1 ⟨by decide, by decide⟩) rfl rfl rfl rfl (Nat.le_of_ble_eq_true rfl) ⟨Nat.zero_le _, Nat.zero_le _⟩ (fun r' w1 hp => ?_)
          obtain ⟨rfl, rfl⟩ := hp
          refine And.intro (fun c64 => ?_) (fun c64 => ?_)
          · skip
            have c64 : sameL (asg ((bsc r4).dropWhile isTk)).2.2 (vnL kd) = false := bI_eq c64
            refine vx_go hC hFt hini (vx_ends hC hr hlk) jc_Ac_readParameters 67 (by decide) rfl ?_
            refine And.intro rfl (And.intro (And.intro rfl rfl) ?_)
            refine And.intro rfl ?_
            refine And.intro rfl ?_
            refine And.intro rfl (And.intro (And.intro rfl rfl) ?_)
            refine Vx.subL (lv' := [(0, .ref h), (1, .ref (K (100 + kd))), (2, .int (nI tn + 1))]) [1, 2, 0] rfl ?_
            have hfn : (f4 && (alikeL ((bsc r4).takeWhile isTk) (pnL kd) && sameL (asg ((bsc r4).dropWhile isTk)).2.2 (vnL kd))) = false := by rw [c64, Bool.and_false, Bool.and_false]
            refine Vx.eqs rfl (lv2 := [(0, .ref h), (1, .ref (K (100 + kd))), (2, .int (nI (tn + 1)))]) (by rw [nI_1]) rfl (w2 := (rdW tc 0 h ra sa [.int (qu), .int (mo), .int (bI false), .int (nI (t4 + 1)), .int (nI 1000)] T (asg ((bsc r4).dropWhile isTk)).2.1 sd6 (asg ((bsc r4).dropWhile isTk)).2.2.length)) (by rw [← nI_1 t4]; rfl) ?_
            have hal := (asg_sf (rs := ((bsc r4).dropWhile isTk))).length_le
            have hdl := (List.dropWhile_suffix (l := bsc r4) isTk).length_le
            exact ih (tn + 1) false (t4 + 1) (asg ((bsc r4).dropWhile isTk)).2.1 sd6 (asg ((bsc r4).dropWhile isTk)).2.2.length (asg_sf.trans (dw_sfx hsB)) (by rw [← hres, prm, if_pos c10, if_neg c13, if_neg (by rw [c19]; exact fun z => by cases z), if_pos hasg, hfn]) (by omega) (by omega)
          · skip
            have c64 : sameL (asg ((bsc r4).dropWhile isTk)).2.2 (vnL kd) = true := bI_ne c64
            refine vx_go hC hFt hini (vx_ends hC hr hlk) jc_Ac_readParameters 68 (by decide) rfl ?_
            refine And.intro rfl (And.intro (And.intro rfl rfl) ?_)
            refine And.intro rfl ?_
            refine And.intro rfl ?_
            refine And.intro rfl (And.intro (And.intro rfl rfl) ?_)
            refine Vx.subL (lv' := [(0, .ref h), (1, .ref (K (100 + kd))), (2, .int (nI tn + 1))]) [1, 2, 0] rfl ?_
            have hfn : (f4 && (alikeL ((bsc r4).takeWhile isTk) (pnL kd) && sameL (asg ((bsc r4).dropWhile isTk)).2.2 (vnL kd))) = true := by rw [c57, c59, c64]; rfl
            refine Vx.eqs rfl (lv2 := [(0, .ref h), (1, .ref (K (100 + kd))), (2, .int (nI (tn + 1)))]) (by rw [nI_1]) rfl (w2 := (rdW tc 0 h ra sa [.int (qu), .int (mo), .int (bI true), .int (nI (t4 + 1)), .int (nI 1000)] T (asg ((bsc r4).dropWhile isTk)).2.1 sd6 (asg ((bsc r4).dropWhile isTk)).2.2.length)) (by rw [← nI_1 t4]; rfl) ?_
            have hal := (asg_sf (rs := ((bsc r4).dropWhile isTk))).length_le
            have hdl := (List.dropWhile_suffix (l := bsc r4) isTk).length_le
            exact ih (tn + 1) true (t4 + 1) (asg ((bsc r4).dropWhile isTk)).2.1 sd6 (asg ((bsc r4).dropWhile isTk)).2.2.length (asg_sf.trans (dw_sfx hsB)) (by rw [← hres, prm, if_pos c10, if_neg c13, if_neg (by rw [c19]; exact fun z => by cases z), if_pos hasg, hfn]) (by omega) (by omega)
def mtI (mt : Nat) : Int32 := nI mt - 1
theorem mtI_lt {a b : Nat} (ha : a < 2 ^ 30) (hb : b < 2 ^ 30) : mtI a < nI b ↔ a < b + 1 := by
  unfold mtI
  rw [n_1 (by omega)]
  by_cases e : a = 0
  · rw [if_pos e, e]
    exact ⟨fun _ => by omega, fun _ => Int32.lt_of_lt_of_le (by decide) (nI_ge0 (by omega))⟩
  · rw [if_neg e]
    show nI (a - 1) < nI b ↔ _
    rw [nI_ltI (by omega) (by omega)]; omega
theorem prm_told {P V : List Nat} {n : Nat} {f : Bool} {t : Nat} {rs : List Nat} {u : Bool × Nat × Nat × List Nat} (h : prm P V n f t rs = some u) : u.2.1 ≤ t + n ∧ u.2.2.2.length ≤ rs.length := by
  induction n generalizing f t rs with
  | zero => cases h
  | succ n ih =>
    rw [prm] at h
    split at h
    · rename_i h59
      have hb := bsc_len h59
      have hd := (List.dropWhile_suffix (l := bsc rs) isTk).length_le
      split at h
      · cases h
      · split at h
        · split at h
          · obtain rfl := Option.some.inj h
            refine ⟨by show t ≤ _; omega, ?_⟩
            have h1 := (gp_sf (rs := (wt ((bsc rs).dropWhile isTk)).2)).length_le
            have h2 := (wt_sf (rs := (bsc rs).dropWhile isTk)).length_le
            show (gp _).length ≤ _
            omega
          · cases h
        · split at h
          · have h1 := ih h
            have h2 := (asg_sf (rs := (bsc rs).dropWhile isTk)).length_le
            omega
          · cases h
    · obtain rfl := Option.some.inj h
      exact ⟨by show t ≤ _; omega, (gp_sf (rs := rs)).length_le⟩
theorem mrg_len {M S P V rs : List Nat} {u : Bool × Nat × Nat × List Nat} (h : mrg M S P V rs = some u) : u.2.1 ≤ 99 ∧ u.2.2.2.length < rs.length := by
  unfold mrg at h
  split at h
  · cases h
  · rename_i hc
    have h1 := prm_told h
    have h2 := (List.dropWhile_suffix (l := (pk 47 (rs.dropWhile isTk)).2) isTk).length_le
    have h3 : (pk 47 (rs.dropWhile isTk)).1 = true := by
      cases h9 : (pk 47 (rs.dropWhile isTk)).1 with
      | true => rfl
      | false => exact absurd (Or.inr (Or.inl h9)) hc
    have h4 := pk_len1 h3
    have h5 := (List.dropWhile_suffix (l := rs) isTk).length_le
    refine ⟨?_, by omega⟩
    have h6 := h1.1
    have h7 : ∀ (c d : Prop) [Decidable c] [Decidable d], (if c then 0 else 1) + (if d then 0 else 1) ≤ 2 := fun c d _ _ => by split <;> split <;> omega
    have h8 := h7 (rs.takeWhile isTk = [42]) ((pk 47 (rs.dropWhile isTk)).2.takeWhile isTk = [42])
    omega
set_option maxRecDepth 100000 in
set_option maxHeartbeats 4000000 in
theorem c_Ac_read (l : Launch) (D : va_G) (tys : List (ClassId × FieldType)) (tc : Nat → ClassId) (hty : ∀ i : Nat, i < 4 → tys[i]? = some (tc i, vx_ty i)) (h ra sa : Nat) (z1 z2 : Int32) (sd : Nat → Int32) (ss : Nat) (q : Nat) (ro : Nat → Nat) (tx : Nat → List Nat) (hx : ∀ G, G < 8 → isT (tx G)) (K : Nat → Nat) (q0 m0 f0 t0 w0 : Int32) (kd : Nat) (hkd : kd < 6) : Kt l y_Ac_read (yw y_Ac_read b_Ac_read 4 (some .boolean)) 6 135 0 0 D cls tys (fun A U H => rqF q ro tx A U H ∧ rdF ra [] A U H ∧ gF K A U H) [.ref h, .ref q, .ref (K (100 + kd))] [(h, .inr (0, [.ref ra, .int z1, .int z2, .ref sa, .int (nI ss), .int (q0), .int (m0), .int (f0), .int (t0), .int (w0)])), (sa, .inl (tc 0, 96, .inl sd))] (fun r w => r = some (.int (bI (accL (mnL kd) (snL kd) (pnL kd) (vnL kd) 97 0 0 0 (tx 0)).isSome)) ∧ ∃ ra2 y1 y2 ss2 sd2 q2 m2 f2 t2 w2, w = [(h, .inr (0, [.ref ra2, .int y1, .int y2, .ref sa, .int (nI ss2), .int (q2), .int (m2), .int (f2), .int (t2), .int (w2)])), (sa, .inl (tc 0, 96, .inl sd2))] ∧ (ra2 = ra ∨ ra2 = ro 0) ∧ ∀ v, (accL (mnL kd) (snL kd) (pnL kd) (vnL kd) 97 0 0 0 (tx 0)) = some v → q2 = nI v) := by
  refine Kt.of (ro_and (rqF_ro q ro tx) (ro_and (rdF_ro ra []) (gF_ro K))) (by decide) rfl hty (Nat.le_of_ble_eq_true rfl) ?_
  intro p e s m args below meth c0 A hC hr hlk hnm hF
  have hFt : vx_Ft y_Ac_read.cls (yw y_Ac_read b_Ac_read 4 (some .boolean)) cls cty ft_Ac := ft_of (fun w h => List.mem_cons_of_mem _ h) fl_Ac_in ft_Ac_b
  have hini : false = true → meth.name = "<init>" := fun h => by cases h
  obtain ⟨hrq, hold, hg⟩ := hF
  refine vx_gon hC hFt hini (vx_ends hC hr hlk) jc_Ac_read 0 12 (by decide) rfl ?_
  refine ux_call hC (c_Rd_open l D tys tc hty 0 (by decide) h ra sa [.int (q0), .int (m0), .int (f0), .int (t0), .int (w0)] z1 z2 sd ss q ro tx 0 (by decide) (hx 0 (by decide)).1) hrq (cw_U wm_Rd_open wl_Ac_9 wsm_Ac_open wi_Rd_open ws_Ac_Ac_open rfl hC.2.2.2.2.1 ⟨by decide, by decide⟩) rfl rfl rfl rfl (Nat.le_of_ble_eq_true rfl) ⟨Nat.zero_le _, Nat.zero_le _⟩ (fun r' w1 hp => ?_)
  obtain ⟨rfl, rfl⟩ := hp
  obtain ⟨ra2, hra2⟩ : ∃ ra2, (if 0 < (tx 0).length then ro 0 else ra) = ra2 := ⟨_, rfl⟩
  rw [hra2]
  have hra : ra2 = ra ∨ ra2 = ro 0 := by rw [← hra2]; split <;> simp
  have hrd : rdF ra2 (tx 0) A s s.heap := by
    rw [← hra2]
    split
    · exact hrq.2.choose_spec.choose_spec.2.2.2.2 0 (by decide)
    · rename_i hz
      rw [show tx 0 = [] from List.eq_nil_of_length_eq_zero (by omega)]; exact hold
  obtain ⟨T, hTe⟩ : ∃ T, tx 0 = T := ⟨_, rfl⟩
  have hT : isT T := by rw [← hTe]; exact hx 0 (by decide)
  rw [hTe] at hrd ⊢
  refine And.intro rfl (And.intro (And.intro rfl rfl) ?_)
  refine And.intro rfl (And.intro (And.intro rfl rfl) ?_)
  refine Vx.subL (lv' := [(0, .ref h), (2, .ref (K (100 + kd))), (3, .int (nI 0))]) [1, 3, 0] rfl ?_
  obtain ⟨el, he0⟩ : ∃ el : Nat, el = 0 := ⟨_, rfl⟩
  obtain ⟨mt4, hm0⟩ : ∃ mt4 : Nat, mt4 = 0 := ⟨_, rfl⟩
  obtain ⟨q4, hq0⟩ : ∃ q4 : Nat, q4 = 0 := ⟨_, rfl⟩
  obtain ⟨f4, hf0⟩ : ∃ f4 : Int32, f4 = f0 := ⟨_, rfl⟩
  obtain ⟨t4, ht0⟩ : ∃ t4 : Int32, t4 = t0 := ⟨_, rfl⟩
  obtain ⟨w4, hw0⟩ : ∃ w4 : Int32, w4 = w0 := ⟨_, rfl⟩
  obtain ⟨r4, hr0⟩ : ∃ r4 : List Nat, r4 = T := ⟨_, rfl⟩
  obtain ⟨sd4, hd0⟩ : ∃ sd4, sd4 = sd := ⟨_, rfl⟩
  obtain ⟨ss4, hs0⟩ : ∃ ss4, ss4 = ss := ⟨_, rfl⟩
  obtain ⟨n4, hn0⟩ : ∃ n4 : Nat, n4 = 97 := ⟨_, rfl⟩
  obtain ⟨RES, hRES⟩ : ∃ RES, accL (mnL kd) (snL kd) (pnL kd) (vnL kd) 97 0 0 0 T = RES := ⟨_, rfl⟩
  rw [hRES]
  refine Vx.eqs rfl (lv2 := [(0, .ref h), (2, .ref (K (100 + kd))), (3, .int (nI el))]) (by rw [he0]) rfl (w2 := (rdW tc 0 h ra2 sa [.int (nI q4), .int (mtI mt4), .int (f4), .int (t4), .int (w4)] T r4 sd4 ss4)) (by rw [hm0, hq0, hf0, ht0, hw0, hr0, hd0, hs0]; rfl) ?_
  have hs4 : r4 <:+ T := by rw [hr0]; exact List.suffix_refl _
  have hres : accL (mnL kd) (snL kd) (pnL kd) (vnL kd) n4 el mt4 q4 r4 = RES := by rw [hn0, he0, hm0, hq0, hr0]; exact hRES
  have hln : r4.length + el ≤ 96 := by rw [hr0, he0]; have := hT.1; omega
  have hnt : n4 + el = 97 := by omega
  have hmt : mt4 ≤ 100 := by omega
  clear he0 hm0 hq0 hf0 ht0 hw0 hr0 hd0 hs0 hn0 hRES
  induction n4 generalizing el mt4 q4 f4 t4 w4 r4 sd4 ss4 with
  | zero => omega
  | succ n4 ih =>
    refine vx_go hC hFt hini (vx_ends hC hr hlk) jc_Ac_read 12 (by decide) rfl ?_
    refine And.intro (fun c14 => ?_) (fun c14 => ?_)
    · skip
      have c14 : 96 ≤ el := (nI_leI (a := 96) (by omega) (by omega)).mp c14
      refine vx_go hC hFt hini (vx_ends hC hr hlk) jc_Ac_read 35 (by decide) rfl ?_
      refine And.intro (fun c36 => ?_) (fun c36 => ?_)
      · skip
        have c36 : el = 0 := Nat.eq_zero_of_not_pos (fun z => absurd c36 (nI_nle z (by omega)))
        refine vx_go hC hFt hini (vx_ends hC hr hlk) jc_Ac_read 39 (by decide) rfl ?_
        refine And.intro (rfl) (And.intro ?_ (And.intro (Nat.le_refl _) (Nat.le_refl _)))
        have hg0 : gc r4 = [] := by rw [show r4 = [] from List.eq_nil_of_length_eq_zero (by omega)]; rfl
        rw [accL, if_pos hg0, if_pos c36] at hres
        subst hres
        exact ⟨rfl, ra2, _, _, _, _, _, _, _, _, _, rfl, hra, (fun v hv => by cases hv)⟩
      · skip
        have c36 : ¬ el = 0 := fun z => c36 (by rw [z]; exact nI_le (Nat.le_refl 0) (by decide))
        refine vx_go hC hFt hini (vx_ends hC hr hlk) jc_Ac_read 40 (by decide) rfl ?_
        refine And.intro (rfl) (And.intro ?_ (And.intro (Nat.le_refl _) (Nat.le_refl _)))
        have hg0 : gc r4 = [] := by rw [show r4 = [] from List.eq_nil_of_length_eq_zero (by omega)]; rfl
        rw [accL, if_pos hg0, if_neg c36] at hres
        subst hres
        exact ⟨rfl, ra2, _, _, _, _, _, _, _, _, _, rfl, hra, (fun v hv => by rw [Option.some.inj hv])⟩
    · skip
      have c14 : ¬ 96 ≤ el := fun z => c14 ((nI_leI (a := 96) (by omega) (by omega)).mpr z)
      refine ux_call hC (c_Rd_findElement l D tys tc hty 0 (by decide) h ra2 sa [.int (nI q4), .int (mtI mt4), .int (f4), .int (t4), .int (w4)] T r4 sd4 ss4 hT hs4) hrd (cw_U wm_Rd_findElement wl_Ac_22 wsm_Ac_findElement wi_Rd_findElement ws_Ac_Ac_findElement rfl hC.2.2.2.2.1 ⟨by decide, by decide⟩) rfl rfl rfl rfl (Nat.le_of_ble_eq_true rfl) ⟨Nat.zero_le _, Nat.zero_le _⟩ (fun r' w1 hp => ?_)
      obtain ⟨rfl, rfl⟩ := hp
      refine And.intro (fun c17 => ?_) (fun c17 => ?_)
      · skip
        have c17 : gc r4 = [] := by
          cases h9 : gc r4 with
          | nil => rfl
          | cons a b => rw [h9] at c17; exact absurd c17 (show ¬ bI true = 0 by decide)
        refine vx_go hC hFt hini (vx_ends hC hr hlk) jc_Ac_read 35 (by decide) rfl ?_
        refine And.intro (fun c36 => ?_) (fun c36 => ?_)
        · skip
          have c36 : el = 0 := Nat.eq_zero_of_not_pos (fun z => absurd c36 (nI_nle z (by omega)))
          refine vx_go hC hFt hini (vx_ends hC hr hlk) jc_Ac_read 39 (by decide) rfl ?_
          refine And.intro (rfl) (And.intro ?_ (And.intro (Nat.le_refl _) (Nat.le_refl _)))
          have hg0 := c17
          rw [accL, if_pos hg0, if_pos c36] at hres
          subst hres
          exact ⟨rfl, ra2, _, _, _, _, _, _, _, _, _, rfl, hra, (fun v hv => by cases hv)⟩
        · skip
          have c36 : ¬ el = 0 := fun z => c36 (by rw [z]; exact nI_le (Nat.le_refl 0) (by decide))
          refine vx_go hC hFt hini (vx_ends hC hr hlk) jc_Ac_read 40 (by decide) rfl ?_
          refine And.intro (rfl) (And.intro ?_ (And.intro (Nat.le_refl _) (Nat.le_refl _)))
          have hg0 := c17
          rw [accL, if_pos hg0, if_neg c36] at hres
          subst hres
          exact ⟨rfl, ra2, _, _, _, _, _, _, _, _, _, rfl, hra, (fun v hv => by rw [Option.some.inj hv])⟩
      · skip
        have c17 : ¬ gc r4 = [] := fun z => c17 (by rw [z]; rfl)
        have hsg : gc r4 <:+ T := gc_sf.trans hs4
        refine ox_call hC (c_Ac_readTokens l D tys tc hty h ra2 sa T (gc r4) sd4 ss4 hT hsg K (nI q4) (mtI mt4) f4 t4 w4 kd hkd) ⟨hrd, hg⟩ (cw_V wm_Ac_readTokens wl_Ac_26 wi_Ac_readTokens ws_Ac_Ac_readTokens hC.2.2.2.2.1 ⟨by decide, by decide⟩) rfl rfl rfl rfl (Nat.le_of_ble_eq_true rfl) ⟨Nat.zero_le _, Nat.zero_le _⟩ (fun r' w1 hp => ?_)
        obtain ⟨rfl, fi5, to5, r5, sd5, ss5, rfl, hs5, hx5⟩ := hp
        refine And.intro (fun c21 => ?_) (fun c21 => ?_)
        · skip
          have c21 : (mrT (mnL kd) (snL kd) (gc r4)) = none := by
            cases h9 : (mrT (mnL kd) (snL kd) (gc r4)) with
            | none => rfl
            | some u => rw [h9] at c21; exact absurd c21 (show ¬ bI true = 0 by decide)
          refine vx_go hC hFt hini (vx_ends hC hr hlk) jc_Ac_read 29 (by decide) rfl ?_
          refine And.intro (rfl) (And.intro ?_ (And.intro (Nat.le_refl _) (Nat.le_refl _)))
          rw [accL, if_neg c17, mrg_T, c21] at hres
          subst hres
          exact ⟨rfl, ra2, _, _, _, _, _, _, _, _, _, rfl, hra, (fun v hv => by cases hv)⟩
        · skip
          obtain ⟨u1, hu1⟩ : ∃ u1, (mrT (mnL kd) (snL kd) (gc r4)) = some u1 := by
            cases h9 : (mrT (mnL kd) (snL kd) (gc r4)) with
            | none => rw [h9] at c21; exact absurd rfl c21
            | some u => exact ⟨u, rfl⟩
          obtain ⟨rfl, rfl, rfl⟩ := hx5 u1 hu1
          refine ox_call hC (c_Ac_readParameters l D tys tc hty h ra2 sa T u1.2.2 sd5 ss5 hT hs5 K (nI q4) (mtI mt4) u1.1 u1.2.1 w4 kd hkd) ⟨hrd, hg⟩ (cw_V wm_Ac_readParameters wl_Ac_30 wi_Ac_readParameters ws_Ac_Ac_readParameters hC.2.2.2.2.1 ⟨by decide, by decide⟩) rfl rfl rfl rfl (Nat.le_of_ble_eq_true rfl) ⟨Nat.zero_le _, Nat.zero_le _⟩ (fun r' w1 hp => ?_)
          obtain ⟨rfl, fi6, to6, we6, r6, sd6, ss6, rfl, hs6, hx6⟩ := hp
          refine And.intro (fun c25 => ?_) (fun c25 => ?_)
          · skip
            have hp1 : prm (pnL kd) (vnL kd) 97 u1.1 u1.2.1 u1.2.2 = none := by
              cases h9 : prm (pnL kd) (vnL kd) 97 u1.1 u1.2.1 u1.2.2 with
              | none => rfl
              | some u => rw [h9] at c25; exact absurd c25 (show ¬ bI true = 0 by decide)
            refine vx_go hC hFt hini (vx_ends hC hr hlk) jc_Ac_read 29 (by decide) rfl ?_
            refine And.intro (rfl) (And.intro ?_ (And.intro (Nat.le_refl _) (Nat.le_refl _)))
            have hmr0 : (mrg (mnL kd) (snL kd) (pnL kd) (vnL kd) (gc r4)) = none := by rw [mrg_T, hu1]; exact hp1
            rw [accL, if_neg c17, hmr0] at hres
            subst hres
            exact ⟨rfl, ra2, _, _, _, _, _, _, _, _, _, rfl, hra, (fun v hv => by cases hv)⟩
          · skip
            obtain ⟨u2, hu2⟩ : ∃ u2, prm (pnL kd) (vnL kd) 97 u1.1 u1.2.1 u1.2.2 = some u2 := by
              cases h9 : prm (pnL kd) (vnL kd) 97 u1.1 u1.2.1 u1.2.2 with
              | none => rw [h9] at c25; exact absurd rfl c25
              | some u => exact ⟨u, rfl⟩
            obtain ⟨rfl, rfl, rfl, hg2⟩ := hx6 u2 hu2
            have hmr : (mrg (mnL kd) (snL kd) (pnL kd) (vnL kd) (gc r4)) = some u2 := by rw [mrg_T, hu1]; exact hu2
            have hml := mrg_len hmr
            refine ux_call hC (c_Rd_endsElement l D tys tc hty 0 (by decide) h ra2 sa [.int (nI q4), .int (mtI mt4), .int (bI u2.1), .int (nI u2.2.1), .int (nI u2.2.2.1)] T r6 sd6 ss6 hT hs6) hrd (cw_U wm_Rd_endsElement wl_Ac_33 wsm_Ac_endsElement wi_Rd_endsElement ws_Ac_Ac_endsElement rfl hC.2.2.2.2.1 ⟨by decide, by decide⟩) rfl rfl rfl rfl (Nat.le_of_ble_eq_true rfl) ⟨Nat.zero_le _, Nat.zero_le _⟩ (fun r' w1 hp => ?_)
            obtain ⟨rfl, rfl⟩ := hp
            refine And.intro (fun c28 => ?_) (fun c28 => ?_)
            · skip
              have c28 : ee (gp r6) = true := bI_ne c28
              refine vx_go hC hFt hini (vx_ends hC hr hlk) jc_Ac_read 31 (by decide) rfl ?_
              refine ox_call hC (c_Ac_weigh l D tys tc hty h ra2 sa T (gp r6) sd6 ss6 hT (gp_sf.trans hs6) K (nI q4) (mtI mt4) u2.1 (nI u2.2.1) (nI u2.2.2.1)) ⟨hrd, hg⟩ (cw_V wm_Ac_weigh wl_Ac_36 wi_Ac_weigh ws_Ac_Ac_weigh hC.2.2.2.2.1 ⟨by decide, by decide⟩) rfl rfl rfl rfl (Nat.le_of_ble_eq_true rfl) ⟨Nat.zero_le _, Nat.zero_le _⟩ (fun r' w1 hp => ?_)
              obtain ⟨rfl, rfl⟩ := hp
              refine Vx.subL (lv' := [(0, .ref h), (2, .ref (K (100 + kd))), (3, .int (nI el + 1))]) [1, 2, 0] rfl ?_
              have hcd : (u2.1 = true ∧ mtI mt4 < nI u2.2.1) ↔ (u2.1 = true ∧ mt4 < u2.2.1 + 1) := by rw [mtI_lt (by omega) (by omega)]
              refine Vx.eqs rfl (lv2 := [(0, .ref h), (2, .ref (K (100 + kd))), (3, .int (nI (el + 1)))]) (by rw [nI_1]) rfl (w2 := (rdW tc 0 h ra2 sa [.int (nI (if u2.1 = true ∧ mt4 < u2.2.1 + 1 then u2.2.2.1 else q4)), .int (mtI (if u2.1 = true ∧ mt4 < u2.2.1 + 1 then u2.2.1 + 1 else mt4)), .int (bI u2.1), .int (nI u2.2.1), .int (nI u2.2.2.1)] T (gp r6) sd6 ss6)) (by
                by_cases hz : u2.1 = true ∧ mt4 < u2.2.1 + 1
                · rw [if_pos (hcd.mpr hz), if_pos (hcd.mpr hz), if_pos hz, if_pos hz, show mtI (u2.2.1 + 1) = nI u2.2.1 from nI_pred _]
                · rw [if_neg (fun y => hz (hcd.mp y)), if_neg (fun y => hz (hcd.mp y)), if_neg hz, if_neg hz]) ?_
              have hgl := (gc_sf (rs := r4)).length_le
              have hgl2 : (gp r6).length < (gc r4).length := by rw [hg2]; exact hml.2
              exact ih (el + 1) (if u2.1 = true ∧ mt4 < u2.2.1 + 1 then u2.2.1 + 1 else mt4) (if u2.1 = true ∧ mt4 < u2.2.1 + 1 then u2.2.2.1 else q4) (bI u2.1) (nI u2.2.1) (nI u2.2.2.1) (gp r6) sd6 ss6 (gp_sf.trans hs6) (by rw [← hres, accL, if_neg c17, hmr]; show _ = (if ee u2.2.2.2 = true then _ else none); rw [← hg2, if_pos c28]) (by omega) (by omega) (by split <;> omega)
            · skip
              have c28 : ee (gp r6) = false := bI_eq (c28)
              refine And.intro (rfl) (And.intro ?_ (And.intro (Nat.le_refl _) (Nat.le_refl _)))
              rw [accL, if_neg c17, hmr] at hres
              replace hres : (if ee u2.2.2.2 = true then _ else none) = RES := hres
              rw [← hg2, if_neg (by rw [c28]; exact fun z => by cases z)] at hres
              subst hres
              exact ⟨rfl, ra2, _, _, _, _, _, _, _, _, _, rfl, hra, (fun v hv => by cases hv)⟩
