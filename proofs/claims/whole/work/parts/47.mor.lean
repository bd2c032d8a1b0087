/-! THE REFERENCE: rests of names, calendars, by program (wip/whole/gen/p47.py) -/
def dys (m y : Nat) : Nat := if m = 1 ∧ y % 4 = 0 then 29 else [31, 28, 31, 30, 31, 30, 31, 31, 30, 31, 30, 31].getD m 0
def dbf (y : Nat) : Nat := 365 * (y - 1970) + (y - 1970 + 1) / 4
def mdb (y : Nat) : Nat → Nat
  | 0 => 0
  | m + 1 => mdb y m + dys m y
def cal (y m d t : Nat) : Option Nat := if 1970 ≤ y ∧ y ≤ 2099 ∧ 1 ≤ d ∧ d ≤ dys m y then some (86400 * (dbf y + (d - 1) + mdb y m) + t) else none
theorem dbf_s {y : Nat} (h : 1970 ≤ y) : dbf (y + 1) = dbf y + (if y % 4 = 0 then 366 else 365) := by
  unfold dbf; split <;> omega
/-- the year that a day falls into -/
def yrq : Nat → Nat → Nat → Nat
  | 0, y, _ => y
  | n + 1, y, days => if dbf (y + 1) ≤ days then yrq n (y + 1) days else y
def yrN (N : Nat) : Nat := yrq 200 1970 (N / 86400)
theorem yrq_ok {n y days : Nat} (h0 : 1970 ≤ y) (h : dbf y ≤ days) (hn : days < dbf (y + n)) : 1970 ≤ yrq n y days ∧ dbf (yrq n y days) ≤ days ∧ days < dbf (yrq n y days + 1) := by
  induction n generalizing y with
  | zero => rw [Nat.add_zero] at hn; omega
  | succ n ih =>
    rw [yrq]
    by_cases e : dbf (y + 1) ≤ days
    · rw [if_pos e]; exact ih (by omega) e (by rw [show y + 1 + n = y + (n + 1) by omega]; exact hn)
    · rw [if_neg e]; exact ⟨h0, h, by omega⟩
theorem dbf_mono {a b : Nat} (h : a ≤ b) : dbf a ≤ dbf b := by unfold dbf; omega
theorem yr_un {a b days : Nat} (h1 : dbf a ≤ days) (h2 : days < dbf (a + 1)) (h3 : dbf b ≤ days) (h4 : days < dbf (b + 1)) : a = b := by
  rcases Nat.lt_trichotomy a b with z | z | z
  · have := dbf_mono (show a + 1 ≤ b by omega); omega
  · exact z
  · have := dbf_mono (show b + 1 ≤ a by omega); omega
theorem yrN_ok {N : Nat} (h : N ≤ 4102444799) : 1970 ≤ yrN N ∧ yrN N ≤ 2099 ∧ dbf (yrN N) ≤ N / 86400 ∧ N / 86400 < dbf (yrN N + 1) := by
  have h0 : dbf (1970 + 200) = 73050 := by decide
  have h1 : N / 86400 < dbf (1970 + 200) := by omega
  have h9 : dbf 1970 = 0 := by decide
  obtain ⟨a, b, c⟩ := yrq_ok (n := 200) (y := 1970) (days := N / 86400) (Nat.le_refl _) (by omega) h1
  refine ⟨a, ?_, b, c⟩
  rcases Nat.lt_or_ge 2099 (yrN N) with z | z
  · have h2 := dbf_mono (show 2100 ≤ yrN N by omega)
    have h3 : dbf 2100 = 47482 := by decide
    have h4 : dbf (yrN N) ≤ N / 86400 := b
    omega
  · exact z
theorem lW_toInt {n : Nat} (h : n < 2 ^ 63) : (lN n).toInt = (n : Int) := lg_ofNat_toInt (by omega)
theorem lW_lt {a b : Nat} (ha : a < 2 ^ 63) (hb : b < 2 ^ 63) : lN a < lN b ↔ a < b := by rw [Int64.lt_iff_toInt_lt, lW_toInt ha, lW_toInt hb]; omega
theorem lW_div {a d : Nat} (ha : a < 2 ^ 63) (h0 : 0 < d) (hd : d < 2 ^ 63) : lN a / lN d = lN (a / d) := by
  apply Int64.toInt_inj.mp
  have h1 : a / d ≤ a := Nat.div_le_self _ _
  rw [lW_toInt (by omega), Int64.toInt_div_of_ne_left _ _ (by intro z; have := congrArg Int64.toInt z; rw [lW_toInt ha] at this; have h2 : Int64.minValue.toInt = -2 ^ 63 := rfl; rw [h2] at this; omega), lW_toInt ha, lW_toInt hd, Int.tdiv_eq_ediv_of_nonneg (by omega)]
  exact (Int.natCast_ediv a d).symm
theorem lW_sub {a b : Nat} (h : b ≤ a) : lN a - lN b = lN (a - b) := by
  rw [show lN a = lN (a - b) + lN b by rw [lN_add, Nat.sub_add_cancel h], Int64.add_sub_cancel]
theorem lc_lt {x y : Int64} : lg_cmp x y < 0 ↔ x < y := by
  unfold lg_cmp
  by_cases h : x > y
  · rw [if_pos h]; exact ⟨fun z => absurd z (by decide), fun z => absurd (Int64.lt_trans z h) Int64.lt_irrefl⟩
  · rw [if_neg h]
    by_cases h2 : x = y
    · rw [if_pos h2]; exact ⟨fun z => absurd z (by decide), fun z => absurd z (by rw [h2]; exact Int64.lt_irrefl)⟩
    · rw [if_neg h2]
      refine ⟨fun _ => ?_, fun _ => by decide⟩
      rcases Int64.lt_or_eq_of_le (Int64.not_lt.mp h) with z | z
      · exact z
      · exact absurd z h2
theorem mod4 {y : Nat} (h : y < 2 ^ 31) : nI y - nI y / (4 : Int32) * (4 : Int32) = nI (y % 4) := pk_rem h (by decide) (by decide)
theorem iw_sday : isWd 2036425843 [115, 100, 97, 121] := by refine ⟨by decide, ?_, ?_⟩ <;> decide
theorem iw_nesday : isWd 133459204072814 [110, 101, 115, 100, 97, 121] := by refine ⟨by decide, ?_, ?_⟩ <;> decide
theorem iw_rsday : isWd 521325015922 [114, 115, 100, 97, 121] := by refine ⟨by decide, ?_, ?_⟩ <;> decide
theorem iw_urday : isWd 521325015669 [117, 114, 100, 97, 121] := by refine ⟨by decide, ?_, ?_⟩ <;> decide
theorem iw_day : isWd 7954788 [100, 97, 121] := by refine ⟨by decide, ?_, ?_⟩ <;> decide
set_option maxRecDepth 100000 in
set_option maxHeartbeats 4000000 in
theorem c_Mo_restOf (l : Launch) (D : va_G) (tys : List (ClassId × FieldType)) (tc : Nat → ClassId) (hty : ∀ i : Nat, i < 4 → tys[i]? = some (tc i, vx_ty i)) (h : Nat) (ar : Nat → Nat) (now : Int64) (sc : Nat → Int32) (ai : Nat → Nat → Int32) (al : Nat → Nat → Int64) (F : Nat) (T : List Nat) (ps : Nat) (hM : mdS sc ai F T ps) (hp3 : ps ≤ T.length) (wd : Nat) (hwd : wd < 7) : Kt l y_Mo_restOf (yw y_Mo_restOf b_Mo_restOf 6 (some .boolean)) 3 63 0 0 D cls tys (fun _ _ _ => True) [.ref h, .int (nI wd)] (mdW tc h ar now sc ai al) (fun r w => bP tc h ar now sc ai al T (ps + 8) (tt (rstL wd) (T.drop ps)) r w) := by
  refine Kt.of ro_true (by decide) rfl hty (Nat.le_of_ble_eq_true rfl) ?_
  intro p e s m args below meth c0 A hC hr hlk hnm hF
  have hFt : vx_Ft y_Mo_restOf.cls (yw y_Mo_restOf b_Mo_restOf 6 (some .boolean)) cls cty ft_Mo := ft_of (fun w h => List.mem_cons_of_mem _ h) fl_Mo_in ft_Mo_b
  have hini : false = true → meth.name = "<init>" := fun h => by cases h
  obtain ⟨hF8, h11, hlenT, htx, hT, h12, hps⟩ := id hM
  have hTl := hT.1
  refine vx_cut (α := (Int64 × List Nat)) 48 (fun u => isWd u.1 u.2 ∧ rstL wd = u.2) (fun u => [(0, .ref h), (1, .int (nI wd))]) (fun u => [.long u.1]) (fun u => (mdW tc h ar now sc ai al)) (fun hJ21 => ?_) ?_
  · skip
    refine vx_gon hC hFt hini (vx_ends hC hr hlk) jc_Mo_restOf 0 21 (by decide) rfl ?_
    refine And.intro (fun c2 => ?_) (fun c2 => ?_)
    · skip
      have c2 : ¬ (wd = 2) := fun z => c2 (by rw [z]; rfl)
      refine vx_gon hC hFt hini (vx_ends hC hr hlk) jc_Mo_restOf 5 16 (by decide) rfl ?_
      refine And.intro (fun c7 => ?_) (fun c7 => ?_)
      · skip
        have c7 : ¬ (wd = 3) := fun z => c7 (by rw [z]; rfl)
        refine vx_gon hC hFt hini (vx_ends hC hr hlk) jc_Mo_restOf 10 11 (by decide) rfl ?_
        refine And.intro (fun c12 => ?_) (fun c12 => ?_)
        · skip
          have c12 : ¬ (wd = 4) := fun z => c12 (by rw [z]; rfl)
          refine vx_gon hC hFt hini (vx_ends hC hr hlk) jc_Mo_restOf 15 6 (by decide) rfl ?_
          refine And.intro (fun c17 => ?_) (fun c17 => ?_)
          · skip
            have c17 : ¬ (wd = 6) := fun z => c17 (by rw [z]; rfl)
            refine vx_gon hC hFt hini (vx_ends hC hr hlk) jc_Mo_restOf 20 1 (by decide) rfl ?_
            refine And.intro (Or.inr (Or.inl ⟨_, rfl, hC.2.2.2.2.1 _ (List.mem_cons_of_mem _ wc_Mo_252)⟩)) ?_
            exact hJ21 (7954788, [100, 97, 121]) ⟨iw_day, by rw [rstL, if_neg (by omega), if_neg (by omega), if_neg (by omega), if_neg (by omega)]⟩
          · skip
            have c17 : wd = 6 := (nI_eq (a := wd) (b := 6) (by omega) (by omega)).mp c17
            refine And.intro (Or.inr (Or.inl ⟨_, rfl, hC.2.2.2.2.1 _ (List.mem_cons_of_mem _ wc_Mo_250)⟩)) ?_
            exact hJ21 (521325015669, [117, 114, 100, 97, 121]) ⟨iw_urday, by rw [rstL, if_neg (by omega), if_neg (by omega), if_neg (by omega), if_pos (by omega)]⟩
        · skip
          have c12 : wd = 4 := (nI_eq (a := wd) (b := 4) (by omega) (by omega)).mp c12
          refine And.intro (Or.inr (Or.inl ⟨_, rfl, hC.2.2.2.2.1 _ (List.mem_cons_of_mem _ wc_Mo_248)⟩)) ?_
          exact hJ21 (521325015922, [114, 115, 100, 97, 121]) ⟨iw_rsday, by rw [rstL, if_neg (by omega), if_neg (by omega), if_pos (by omega)]⟩
      · skip
        have c7 : wd = 3 := (nI_eq (a := wd) (b := 3) (by omega) (by omega)).mp c7
        refine And.intro (Or.inr (Or.inl ⟨_, rfl, hC.2.2.2.2.1 _ (List.mem_cons_of_mem _ wc_Mo_246)⟩)) ?_
        exact hJ21 (133459204072814, [110, 101, 115, 100, 97, 121]) ⟨iw_nesday, by rw [rstL, if_neg (by omega), if_pos (by omega)]⟩
    · skip
      have c2 : wd = 2 := (nI_eq (a := wd) (b := 2) (by omega) (by omega)).mp c2
      refine And.intro (Or.inr (Or.inl ⟨_, rfl, hC.2.2.2.2.1 _ (List.mem_cons_of_mem _ wc_Mo_244)⟩)) ?_
      exact hJ21 (2036425843, [115, 100, 97, 121]) ⟨iw_sday, by rw [rstL, if_pos (by omega)]⟩
  · rintro ⟨w, W⟩ ⟨hW, hWr⟩
    replace hW : isWd w W := hW
    replace hWr : rstL wd = W := hWr
    have hW8 := hW.1
    rw [hWr]
    refine vx_cut (α := Unit) 55 (fun u => True) (fun u => [(0, .ref h), (1, .int (nI wd)), (2, .long w), (4, .int (bI true)), (5, .int (nI 0))]) (fun u => []) (fun u => (mdW tc h ar now sc ai al)) (fun hJ26 => ?_) ?_
    · skip
      refine vx_gon hC hFt hini (vx_ends hC hr hlk) jc_Mo_restOf 21 5 (by decide) rfl ?_
      refine Vx.subL (lv' := [(0, .ref h), (1, .int (nI wd)), (2, .long w), (4, .int (bI true)), (5, .int (nI 0))]) [3, 4, 2, 1, 0] rfl ?_
      exact hJ26 () trivial
    · intro u9 _
      clear u9
      generalize hRES : tt W (T.drop ps) = RES
      obtain ⟨sm, hsm⟩ : ∃ sm : Bool, sm = true := ⟨_, rfl⟩
      obtain ⟨k, hk⟩ : ∃ k : Nat, k = 0 := ⟨_, rfl⟩
      obtain ⟨s4, hs4⟩ : ∃ s4, s4 = sc := ⟨_, rfl⟩
      obtain ⟨pp, hpp0⟩ : ∃ pp : Nat, pp = ps := ⟨_, rfl⟩
      refine Vx.eqs rfl (lv2 := [(0, .ref h), (1, .int (nI wd)), (2, .long w), (4, .int (bI sm)), (5, .int (nI k))]) (by rw [hsm, hk]) rfl (w2 := mdW tc h ar now s4 ai al) (by rw [hs4]) ?_
      have hg4 : gq sc s4 := by rw [hs4]; exact gq.refl
      have h411 : s4 11 = sc 11 := by rw [hs4]
      have h412 : s4 12 = nI pp := by rw [hs4, hpp0]; exact h12
      have hpk : pp ≤ ps + k := by omega
      have hpp : sm = true → pp ≤ T.length := fun _ => by omega
      have hres : (sm && (tt (W.drop k) (T.drop pp)).1) = RES.1 ∧ (sm = true → tt (W.drop k) (T.drop pp) = RES) := by rw [hsm, hk, hpp0]; exact ⟨by rw [← hRES]; rfl, fun _ => hRES⟩
      have hkl : k ≤ W.length := by omega
      clear hsm hk hs4 hpp0 hRES
      induction hn : W.length - k using Nat.strongRecOn generalizing sm k s4 pp with
      | _ n ih =>
        have hM4 : mdS s4 ai F T pp := hM.gq h411 h412 (by omega)
        refine vx_go hC hFt hini (vx_ends hC hr hlk) jc_Mo_restOf 26 (by decide) rfl ?_
        refine mo_calls hC (c_Mo_lengthOf l D tys tc hty w W hW) wm_Mo_lengthOf wl_Mo_135 wt_Mo_lengthOf ⟨by decide, by decide⟩ rfl rfl (Nat.le_of_ble_eq_true rfl) ⟨Nat.zero_le _, Nat.zero_le _⟩ (fun r' hp => ?_)
        subst hp
        refine And.intro (fun c29 => ?_) (fun c29 => ?_)
        · skip
          have c29 := (nI_leI (a := W.length) (b := k) (by omega) (by omega)).mp c29
          refine vx_go hC hFt hini (vx_ends hC hr hlk) jc_Mo_restOf 49 (by decide) rfl ?_
          refine And.intro ((bI_narrow _)) (And.intro ?_ (And.intro (Nat.le_refl _) (Nat.le_refl _)))
          have hR1 : RES.1 = sm := by rw [← hres.1, drop_end (W := W) (i := k) (by omega)]; simp [tt]
          refine ⟨by rw [hR1], s4, pp, rfl, hg4, h411, h412, by omega, fun z => ?_⟩
          rw [hR1] at z
          exact ⟨by rw [← hres.2 z, drop_end (W := W) (i := k) (by omega)]; rfl, hpp z⟩
        · skip
          have c29 : ¬ (W.length ≤ k) := fun z => c29 ((nI_leI (a := W.length) (b := k) (by omega) (by omega)).mpr z)
          have hwk := hW.2.1 k (by omega)
          have hck : 0 < W.getD k 0 ∧ W.getD k 0 < 256 := hwk.2
          refine And.intro (fun c31 => ?_) (fun c31 => ?_)
          · skip
            obtain rfl : sm = false := bI_eq c31
            refine vx_go hC hFt hini (vx_ends hC hr hlk) jc_Mo_restOf 45 (by decide) rfl ?_
            refine Vx.subL (lv' := [(0, .ref h), (1, .int (nI wd)), (2, .long w), (4, .int (bI false)), (5, .int (nI k + 1))]) [2, 3, 4, 1, 0] rfl ?_
            rw [nI_1]
            exact ih (W.length - (k + 1)) (by omega) false (k + 1) s4 pp (hg4) h411 (h412) (by omega) (fun z => by cases z) ⟨by rw [← hres.1]; rfl, (fun z => by cases z)⟩ (by omega) rfl
          · skip
            obtain rfl : sm = true := bI_ne c31
            refine And.intro (Or.inr (Or.inl ⟨_, rfl, hC.2.2.2.2.1 _ (List.mem_cons_of_mem _ wc_Mo_103)⟩)) ?_
            refine mo_call hC (c_Mo_take l D tys tc hty h ar now s4 ai al F T pp hM4 (W.getD k 0) hck.2) wm_Mo_take wl_Mo_153 wi_Mo_take ws_Mo_Mo_take ⟨by decide, by decide⟩ rfl (show [Value.int ((w >>> (((8 : Int32) * nI k).toInt64 &&& 63)) &&& 255).toInt32, Value.ref h] = [Value.int (nI (W.getD k 0)), Value.ref h] by rw [hwk.1, lN_i]) (Nat.le_of_ble_eq_true rfl) ⟨Nat.zero_le _, Nat.zero_le _⟩ (fun r' w1 hp => ?_)
            obtain ⟨rfl, rfl⟩ := hp
            refine And.intro (fun c42 => ?_) (fun c42 => ?_)
            · skip
              have c42 : ¬ T.getD pp 0 = W.getD k 0 := of_decide_eq_false (bI_eq c42)
              rw [if_neg c42, upd_same h412]
              refine vx_go hC hFt hini (vx_ends hC hr hlk) jc_Mo_restOf 45 (by decide) rfl ?_
              refine Vx.subL (lv' := [(0, .ref h), (1, .int (nI wd)), (2, .long w), (4, .int (bI false)), (5, .int (nI k + 1))]) [2, 3, 4, 1, 0] rfl ?_
              rw [nI_1]
              exact ih (W.length - (k + 1)) (by omega) false (k + 1) s4 pp (hg4) h411 (h412) (by omega) (fun z => by cases z) ⟨by rw [← hres.1, drop_get (W := W) (i := k) (by omega), tt_cons hck.1, if_neg c42]; rfl, (fun z => by cases z)⟩ (by omega) rfl
            · skip
              have c42 : T.getD pp 0 = W.getD k 0 := of_decide_eq_true (bI_ne c42)
              rw [if_pos c42]
              refine vx_go hC hFt hini (vx_ends hC hr hlk) jc_Mo_restOf 46 (by decide) rfl ?_
              refine Vx.subL (lv' := [(0, .ref h), (1, .int (nI wd)), (2, .long w), (4, .int (bI true)), (5, .int (nI k + 1))]) [2, 3, 4, 1, 0] rfl ?_
              rw [nI_1]
              exact ih (W.length - (k + 1)) (by omega) true (k + 1) (upd s4 12 (nI (pp + 1))) (pp + 1) (hg4.upd (by decide)) h411 (rfl) (by omega) (fun z => T_in (T := T) (k := pp) (by omega)) ⟨by rw [← hres.1, drop_get (W := W) (i := k) (by omega), tt_cons hck.1, if_pos c42], (fun _ => by rw [← hres.2 rfl, drop_get (W := W) (i := k) (by omega), tt_cons hck.1, if_pos c42])⟩ (by omega) rfl
set_option maxRecDepth 100000 in
set_option maxHeartbeats 4000000 in
theorem c_Mo_daysOf (l : Launch) (D : va_G) (tys : List (ClassId × FieldType)) (tc : Nat → ClassId) (hty : ∀ i : Nat, i < 4 → tys[i]? = some (tc i, vx_ty i)) (mo y : Nat) (hm : 1 ≤ mo ∧ mo ≤ 12) (hy : y < 2 ^ 31) : Kt l y_Mo_daysOf (yw y_Mo_daysOf b_Mo_daysOf 2 (some .int)) 0 0 0 0 D cls tys (fun _ _ _ => True) [.int (nI mo), .int (nI y)] [] (fun r w => r = some (.int (nI (dys (mo - 1) y))) ∧ w = []) := by
  refine Kt.of ro_true (by decide) rfl hty (Nat.le_of_ble_eq_true rfl) ?_
  intro p e s m args below meth c0 A hC hr hlk hnm hF
  have hFt : vx_Ft y_Mo_daysOf.cls (yw y_Mo_daysOf b_Mo_daysOf 2 (some .int)) cls cty [] := (fun q h => by cases h)
  have hini : false = true → meth.name = "<init>" := fun h => by cases h
  refine vx_go hC hFt hini (vx_ends hC hr hlk) jc_Mo_daysOf 0 (by decide) rfl ?_
  refine And.intro (fun c2 => ?_) (fun c2 => ?_)
  · skip
    have c2 : ¬ (mo = 2) := fun z => c2 (by rw [z]; rfl)
    refine vx_go hC hFt hini (vx_ends hC hr hlk) jc_Mo_daysOf 11 (by decide) rfl ?_
    refine And.intro (fun c13 => ?_) (fun c13 => ?_)
    · skip
      have c13 : mo = 4 := (nI_eq (a := mo) (b := 4) (by omega) (by omega)).mp c13
      refine vx_go hC hFt hini (vx_ends hC hr hlk) jc_Mo_daysOf 23 (by decide) rfl ?_
      refine vx_go hC hFt hini (vx_ends hC hr hlk) jc_Mo_daysOf 26 (by decide) rfl ?_
      refine And.intro (trivial) (And.intro ?_ (And.intro (Nat.le_refl _) (Nat.le_refl _)))
      refine And.intro ?_ rfl
      rw [show dys (mo - 1) y = 30 by
        rw [dys, if_neg (fun z => c2 (by omega))]
        rcases (show mo = 1 ∨ mo = 3 ∨ mo = 4 ∨ mo = 5 ∨ mo = 6 ∨ mo = 7 ∨ mo = 8 ∨ mo = 9 ∨ mo = 10 ∨ mo = 11 ∨ mo = 12 by omega) with rfl | rfl | rfl | rfl | rfl | rfl | rfl | rfl | rfl | rfl | rfl <;> first | rfl | omega]
      rfl
    · skip
      have c13 : ¬ (mo = 4) := fun z => c13 (by rw [z]; rfl)
      refine And.intro (fun c16 => ?_) (fun c16 => ?_)
      · skip
        have c16 : mo = 6 := (nI_eq (a := mo) (b := 6) (by omega) (by omega)).mp c16
        refine vx_go hC hFt hini (vx_ends hC hr hlk) jc_Mo_daysOf 23 (by decide) rfl ?_
        refine vx_go hC hFt hini (vx_ends hC hr hlk) jc_Mo_daysOf 26 (by decide) rfl ?_
        refine And.intro (trivial) (And.intro ?_ (And.intro (Nat.le_refl _) (Nat.le_refl _)))
        refine And.intro ?_ rfl
        rw [show dys (mo - 1) y = 30 by
          rw [dys, if_neg (fun z => c2 (by omega))]
          rcases (show mo = 1 ∨ mo = 3 ∨ mo = 4 ∨ mo = 5 ∨ mo = 6 ∨ mo = 7 ∨ mo = 8 ∨ mo = 9 ∨ mo = 10 ∨ mo = 11 ∨ mo = 12 by omega) with rfl | rfl | rfl | rfl | rfl | rfl | rfl | rfl | rfl | rfl | rfl <;> first | rfl | omega]
        rfl
      · skip
        have c16 : ¬ (mo = 6) := fun z => c16 (by rw [z]; rfl)
        refine And.intro (fun c19 => ?_) (fun c19 => ?_)
        · skip
          have c19 : mo = 9 := (nI_eq (a := mo) (b := 9) (by omega) (by omega)).mp c19
          refine vx_go hC hFt hini (vx_ends hC hr hlk) jc_Mo_daysOf 23 (by decide) rfl ?_
          refine vx_go hC hFt hini (vx_ends hC hr hlk) jc_Mo_daysOf 26 (by decide) rfl ?_
          refine And.intro (trivial) (And.intro ?_ (And.intro (Nat.le_refl _) (Nat.le_refl _)))
          refine And.intro ?_ rfl
          rw [show dys (mo - 1) y = 30 by
            rw [dys, if_neg (fun z => c2 (by omega))]
            rcases (show mo = 1 ∨ mo = 3 ∨ mo = 4 ∨ mo = 5 ∨ mo = 6 ∨ mo = 7 ∨ mo = 8 ∨ mo = 9 ∨ mo = 10 ∨ mo = 11 ∨ mo = 12 by omega) with rfl | rfl | rfl | rfl | rfl | rfl | rfl | rfl | rfl | rfl | rfl <;> first | rfl | omega]
          rfl
        · skip
          have c19 : ¬ (mo = 9) := fun z => c19 (by rw [z]; rfl)
          refine And.intro (fun c22 => ?_) (fun c22 => ?_)
          · skip
            have c22 : ¬ (mo = 11) := fun z => c22 (by rw [z]; rfl)
            refine vx_go hC hFt hini (vx_ends hC hr hlk) jc_Mo_daysOf 25 (by decide) rfl ?_
            refine And.intro (trivial) (And.intro ?_ (And.intro (Nat.le_refl _) (Nat.le_refl _)))
            refine And.intro ?_ rfl
            rw [show dys (mo - 1) y = 31 by
              rw [dys, if_neg (fun z => c2 (by omega))]
              rcases (show mo = 1 ∨ mo = 3 ∨ mo = 4 ∨ mo = 5 ∨ mo = 6 ∨ mo = 7 ∨ mo = 8 ∨ mo = 9 ∨ mo = 10 ∨ mo = 11 ∨ mo = 12 by omega) with rfl | rfl | rfl | rfl | rfl | rfl | rfl | rfl | rfl | rfl | rfl <;> first | rfl | omega]
            rfl
          · skip
            have c22 : mo = 11 := (nI_eq (a := mo) (b := 11) (by omega) (by omega)).mp c22
            refine vx_go hC hFt hini (vx_ends hC hr hlk) jc_Mo_daysOf 26 (by decide) rfl ?_
            refine And.intro (trivial) (And.intro ?_ (And.intro (Nat.le_refl _) (Nat.le_refl _)))
            refine And.intro ?_ rfl
            rw [show dys (mo - 1) y = 30 by
              rw [dys, if_neg (fun z => c2 (by omega))]
              rcases (show mo = 1 ∨ mo = 3 ∨ mo = 4 ∨ mo = 5 ∨ mo = 6 ∨ mo = 7 ∨ mo = 8 ∨ mo = 9 ∨ mo = 10 ∨ mo = 11 ∨ mo = 12 by omega) with rfl | rfl | rfl | rfl | rfl | rfl | rfl | rfl | rfl | rfl | rfl <;> first | rfl | omega]
            rfl
  · skip
    have c2 : mo = 2 := (nI_eq (a := mo) (b := 2) (by omega) (by omega)).mp c2
    refine And.intro (by decide) ?_
    refine And.intro (fun c6 => ?_) (fun c6 => ?_)
    · skip
      have c6 : ¬ y % 4 = 0 := fun z => c6 (show nI y - nI y / (4 : Int32) * (4 : Int32) = 0 by rw [mod4 hy, z]; rfl)
      refine vx_go hC hFt hini (vx_ends hC hr hlk) jc_Mo_daysOf 9 (by decide) rfl ?_
      refine vx_go hC hFt hini (vx_ends hC hr hlk) jc_Mo_daysOf 26 (by decide) rfl ?_
      refine And.intro (trivial) (And.intro ?_ (And.intro (Nat.le_refl _) (Nat.le_refl _)))
      refine And.intro ?_ rfl
      rw [show dys (mo - 1) y = 28 by rw [dys, if_neg (fun z => c6 z.2), show mo - 1 = 1 by omega]; rfl]
      rfl
    · skip
      have c6 : y % 4 = 0 := by
        have c6 : nI y - nI y / (4 : Int32) * (4 : Int32) = nI 0 := c6
        rw [mod4 hy] at c6
        exact (nI_eq (by omega) (by omega)).mp c6
      refine vx_go hC hFt hini (vx_ends hC hr hlk) jc_Mo_daysOf 26 (by decide) rfl ?_
      refine And.intro (trivial) (And.intro ?_ (And.intro (Nat.le_refl _) (Nat.le_refl _)))
      refine And.intro ?_ rfl
      rw [show dys (mo - 1) y = 29 by rw [dys, if_pos ⟨by omega, c6⟩]]
      rfl
