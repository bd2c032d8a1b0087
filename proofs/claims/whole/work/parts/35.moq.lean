/-! THE REFERENCE: numbers, quoted texts, assigned values, tongues, by program (wip/whole/gen/p35.py) -/
/-- the same but for at, from, to, isOne -/
def fq (s t : Nat → Int32) : Prop := ∀ k, k ≠ 12 → k ≠ 13 → k ≠ 14 → k ≠ 19 → t k = s k
theorem fq.refl {s : Nat → Int32} : fq s s := fun _ _ _ _ _ => rfl
theorem fq.upd {s t : Nat → Int32} {k : Nat} {v : Int32} (h : fq s t) (h1 : k = 12 ∨ k = 13 ∨ k = 14 ∨ k = 19) (_ : True) : fq s (upd t k v) := fun j a b c d => (pk_un (by omega)).trans (h j a b c d)
theorem fq.trans {s t u : Nat → Int32} (h : fq s t) (g : fq t u) : fq s u := fun j a b c d => (g j a b c d).trans (h j a b c d)
theorem mdS.fq {sc s2 : Nat → Int32} {ai : Nat → Nat → Int32} {F : Nat} {T : List Nat} {ps p2 : Nat} (h : mdS sc ai F T ps) (g : fq sc s2) (h12 : s2 12 = nI p2) (h2 : p2 ≤ 400) : mdS s2 ai F T p2 := ⟨h.1, (g 11 (by decide) (by decide) (by decide) (by decide)).trans h.2.1, h.2.2.1, h.2.2.2.1, h.2.2.2.2.1, h12, h2⟩
/-- the same but for the places that reading changes -/
def gq (s t : Nat → Int32) : Prop := ∀ k, k < 11 ∨ 20 ≤ k → t k = s k
theorem gq.refl {s : Nat → Int32} : gq s s := fun _ _ => rfl
theorem gq.upd {s t : Nat → Int32} {k : Nat} {v : Int32} (h : gq s t) (h1 : 11 ≤ k ∧ k < 20) : gq s (upd t k v) := fun j hj => (pk_un (by omega)).trans (h j hj)
theorem gq.trans {s t u : Nat → Int32} (h : gq s t) (g : gq t u) : gq s u := fun j hj => (g j hj).trans (h j hj)
theorem fq.gq {s t : Nat → Int32} (h : fq s t) : gq s t := fun j hj => h j (by omega) (by omega) (by omega) (by omega)
theorem mdS.gq {sc s2 : Nat → Int32} {ai : Nat → Nat → Int32} {F : Nat} {T : List Nat} {ps p2 : Nat} (h : mdS sc ai F T ps) (g : s2 11 = sc 11) (h12 : s2 12 = nI p2) (h2 : p2 ≤ 400) : mdS s2 ai F T p2 := ⟨h.1, g.trans h.2.1, h.2.2.1, h.2.2.2.1, h.2.2.2.2.1, h12, h2⟩
section
variable {p : Program} {l : Launch} {e : Env} {R : Room} {s : State} {m : MethodId} {args : Array Value} {below : List Frame} {meth : Method} {c : Code} {cc : ByteArray} {nL : Nat} {D : va_G} {tys : List (ClassId × FieldType)} {A : Nat → Prop} {tc : Nat → ClassId} {Q : State → Prop} {st : List Value} {k n : Nat} {K : List Value → va_W → Nat → Nat → Prop} {y0 : MethodName} {b0 : ByteArray} {n0 index : Nat} {r0 : Option FieldType} {ws : va_W} {own : String}
theorem sx_ldcw (hC : Cx p s m args c cc nL own (yw y0 b0 n0 r0) D cls tys A tc) {v : Int32} (hw : Jvm.Cond.constant own index v ∈ gw) (kk : K (.int v :: st) ws k n) : vx_SX cc (Vx p l e R s m args below meth c nL D cls A Q) (.ldc_w index) 3 st ws k n K :=
  fun _ _ hdg hK H locs ls hP hD hS hl => lv_ldcw hC.1 hC.2.1 hC.2.2.2.1 (hC.2.2.2.2.1 _ (List.mem_cons_of_mem _ hw)) hdg (hK _ _ _ _ kk H locs ls hP hD hS hl)
end
/-- nine digits at most, else the greatest -/
def vv (S : List Nat) : Nat := if S.length ≤ 9 then f9 S else 999999999
theorem vv_nm {S : List Nat} (h : S ≠ []) : nmv S = some (vv S) := by
  unfold nmv vv
  rw [if_neg h]
  by_cases e : 9 < S.length
  · rw [if_pos e, if_neg (by omega)]
  · rw [if_neg e, if_pos (by omega)]
theorem tkw_add {T : List Nat} {pp : Nat} {q : Nat → Bool} {S R : List Nat} (h : q (T.getD pp 0) = true) (hl : pp < T.length) (e : S ++ (T.drop pp).takeWhile q = R) : (S ++ [T.getD pp 0]) ++ (T.drop (pp + 1)).takeWhile q = R := by
  rw [← e, drop_get hl, tw_t h, List.append_assoc]; rfl
theorem tkw_no {T : List Nat} {pp : Nat} {q : Nat → Bool} (h : q (T.getD pp 0) = false) : (T.drop pp).takeWhile q = [] := by
  rcases Nat.lt_or_ge pp T.length with h1 | h1
  · rw [drop_get h1, tw_f h]
  · rw [drop_end h1]; rfl
theorem pz_tw {T : List Nat} {ps : Nat} {q : Nat → Bool} : pz T ps q = ps + ((T.drop ps).takeWhile q).length := rfl
theorem pz_dw {T : List Nat} {ps : Nat} {q : Nat → Bool} : T.drop (pz T ps q) = (T.drop ps).dropWhile q := by
  unfold pz
  rw [← List.drop_drop]
  have h := List.takeWhile_append_dropWhile (p := q) (l := T.drop ps)
  generalize hA : (T.drop ps).takeWhile q = A at h
  generalize (T.drop ps).dropWhile q = B at h
  rw [← h, List.drop_left]
set_option maxRecDepth 100000 in
set_option maxHeartbeats 4000000 in
theorem c_Mo_many (l : Launch) (D : va_G) (tys : List (ClassId × FieldType)) (tc : Nat → ClassId) (hty : ∀ i : Nat, i < 4 → tys[i]? = some (tc i, vx_ty i)) (h : Nat) (ar : Nat → Nat) (now : Int64) (sc : Nat → Int32) (ai : Nat → Nat → Int32) (al : Nat → Nat → Int64) (F : Nat) (T : List Nat) (ps : Nat) (hM : mdS sc ai F T ps) : Kt l y_Mo_many (yw y_Mo_many b_Mo_many 3 (some .int)) 2 41 0 0 D cls tys (fun _ _ _ => True) [.ref h] (mdW tc h ar now sc ai al) (fun r w => r = some (.int (iI (nmv ((T.drop ps).takeWhile isDg)))) ∧ w = mdW tc h ar now (upd sc 12 (nI (pz T ps isDg))) ai al) := by
  refine Kt.of ro_true (by decide) rfl hty (Nat.le_of_ble_eq_true rfl) ?_
  intro p e s m args below meth c0 A hC hr hlk hnm hF
  have hFt : vx_Ft y_Mo_many.cls (yw y_Mo_many b_Mo_many 3 (some .int)) cls cty ft_Mo := ft_of (fun w h => List.mem_cons_of_mem _ h) fl_Mo_in ft_Mo_b
  have hini : false = true → meth.name = "<init>" := fun h => by cases h
  obtain ⟨hF8, h11, hlenT, htx, hT, h12, hps⟩ := id hM
  have hTl := hT.1
  refine vx_gon hC hFt hini (vx_ends hC hr hlk) jc_Mo_many 0 5 (by decide) rfl ?_
  refine And.intro rfl ?_
  obtain ⟨DS, hDS0⟩ : ∃ DS, (T.drop ps).takeWhile isDg = DS := ⟨_, rfl⟩
  rw [hDS0]
  refine Vx.subL (lv' := [(0, .ref h), (1, .int (sc 12)), (2, .int (nI 0))]) [2, 1, 0] rfl ?_
  refine Vx.eqs rfl (lv2 := [(0, .ref h), (1, .int (nI ps)), (2, .int (nI 0))]) (by rw [← h12]) rfl (w2 := mdW tc h ar now (upd sc 12 (nI ps)) ai al) (by rw [upd_same h12]) ?_
  obtain ⟨S, hS⟩ : ∃ S : List Nat, S = [] := ⟨_, rfl⟩
  obtain ⟨pp, hpp⟩ : ∃ pp : Nat, pp = ps := ⟨_, rfl⟩
  have hps0 := hps
  have hM0 := hM
  rw [← hpp] at hps
  have hpS : pp = ps + S.length := by rw [hS]; simpa using hpp
  have hDS : S ++ (T.drop pp).takeWhile isDg = DS := by rw [hS, hpp]; exact hDS0
  refine Vx.eqs rfl (lv2 := [(0, .ref h), (1, .int (nI ps)), (2, .int (nI (vv S)))]) (by rw [hS]; rfl) rfl (w2 := mdW tc h ar now (upd sc 12 (nI pp)) ai al) (by rw [hpp]) ?_
  clear hpp hS hM h12
  induction hn : T.length - pp using Nat.strongRecOn generalizing pp S with
  | _ n ih =>
    refine vx_go hC hFt hini (vx_ends hC hr hlk) jc_Mo_many 5 (by decide) rfl ?_
    refine mo_call hC (c_Mo_next l D tys tc hty h ar now (upd sc 12 (nI pp)) ai al F T pp (hM0.at hps)) wm_Mo_next wl_Mo_115 wi_Mo_next ws_Mo_Mo_next ⟨by decide, by decide⟩ rfl rfl (Nat.le_of_ble_eq_true rfl) ⟨Nat.zero_le _, Nat.zero_le _⟩ (fun r' w1 hp => ?_)
    obtain ⟨rfl, rfl⟩ := hp
    refine mo_calls hC (c_Mo_isDigit l D tys tc hty (T.getD pp 0) (T_lt hT pp)) wm_Mo_isDigit wl_Mo_119 wt_Mo_isDigit ⟨by decide, by decide⟩ rfl rfl (Nat.le_of_ble_eq_true rfl) ⟨Nat.zero_le _, Nat.zero_le _⟩ (fun r' hp => ?_)
    subst hp
    refine And.intro (fun c8 => ?_) (fun c8 => ?_)
    · skip
      have c8 : isDg (T.getD pp 0) = false := bI_eq c8
      refine vx_go hC hFt hini (vx_ends hC hr hlk) jc_Mo_many 33 (by decide) rfl ?_
      refine And.intro rfl ?_
      refine And.intro (fun c36 => ?_) (fun c36 => ?_)
      · skip
        refine vx_go hC hFt hini (vx_ends hC hr hlk) jc_Mo_many 39 (by decide) rfl ?_
        refine And.intro (trivial) (And.intro ?_ (And.intro (Nat.le_refl _) (Nat.le_refl _)))
        rw [tkw_no c8, List.append_nil] at hDS
        rw [← hDS, show pz T ps isDg = pp by rw [pz_tw, hDS0, ← hDS]; omega]
        rw [vv_nm (by intro z; rw [z] at hpS; exact c36 (by rw [show pp = ps by simpa using hpS]; exact pk_us))]
        exact And.intro rfl rfl
      · skip
        refine vx_go hC hFt hini (vx_ends hC hr hlk) jc_Mo_many 40 (by decide) rfl ?_
        refine And.intro (trivial) (And.intro ?_ (And.intro (Nat.le_refl _) (Nat.le_refl _)))
        rw [tkw_no c8, List.append_nil] at hDS
        rw [← hDS, show pz T ps isDg = pp by rw [pz_tw, hDS0, ← hDS]; omega]
        rw [show S = [] from List.eq_nil_of_length_eq_zero (by have := (nI_eq (a := pp) (b := ps) (by omega) (by omega)).mp c36; omega)]
        exact And.intro rfl rfl
    · skip
      have c8 : isDg (T.getD pp 0) = true := bI_ne c8
      have hdg := dg_in c8
      have hin := T_in (T := T) (k := pp) (by omega)
      refine And.intro rfl ?_
      refine And.intro (fun c14 => ?_) (fun c14 => ?_)
      · skip
        have c14 : 9 ≤ S.length := by
          have c14 : nI 9 ≤ nI pp - nI ps := c14
          rw [pk_sub (by omega), nI_leI (by omega) (by omega)] at c14
          omega
        refine vx_go hC hFt hini (vx_ends hC hr hlk) jc_Mo_many 24 (by decide) rfl ?_
        refine sx_ldcw hC wc_Mo_301 ?_
        refine And.intro rfl ?_
        refine And.intro rfl ?_
        refine And.intro rfl (And.intro (And.intro rfl rfl) ?_)
        refine Vx.subL (lv' := [(0, .ref h), (1, .int (nI ps)), (2, .int (nI 999999999))]) [1, 2, 0] rfl ?_
        refine Vx.eqs rfl (lv2 := [(0, .ref h), (1, .int (nI ps)), (2, .int (nI (vv (S ++ [T.getD pp 0]))))]) (by rw [show vv (S ++ [T.getD pp 0]) = 999999999 by rw [vv, if_neg (by rw [List.length_append]; simp; omega)]]) rfl (show _ = mdW tc h ar now (upd sc 12 (nI pp + 1)) ai al from rfl) ?_
        rw [nI_1]
        exact ih (T.length - (pp + 1)) (by omega) (S ++ [T.getD pp 0]) (pp + 1) (by omega) (by rw [List.length_append, hpS]; rfl) (tkw_add c8 hin hDS) rfl
      · skip
        have c14 : ¬ 9 ≤ S.length := fun z => c14 (by
          show nI 9 ≤ nI pp - nI ps
          rw [pk_sub (by omega), nI_leI (by omega) (by omega)]
          omega)
        refine mo_call hC (c_Mo_next l D tys tc hty h ar now (upd sc 12 (nI pp)) ai al F T pp (hM0.at hps)) wm_Mo_next wl_Mo_115 wi_Mo_next ws_Mo_Mo_next ⟨by decide, by decide⟩ rfl rfl (Nat.le_of_ble_eq_true rfl) ⟨Nat.zero_le _, Nat.zero_le _⟩ (fun r' w1 hp => ?_)
        obtain ⟨rfl, rfl⟩ := hp
        refine vx_go hC hFt hini (vx_ends hC hr hlk) jc_Mo_many 25 (by decide) rfl ?_
        refine And.intro rfl ?_
        refine And.intro rfl ?_
        refine And.intro rfl (And.intro (And.intro rfl rfl) ?_)
        refine Vx.subL (lv' := [(0, .ref h), (1, .int (nI ps)), (2, .int ((10 : Int32) * nI (vv S) + nI (T.getD pp 0) - 48))]) [1, 2, 0] rfl ?_
        refine Vx.eqs rfl (lv2 := [(0, .ref h), (1, .int (nI ps)), (2, .int (nI (vv (S ++ [T.getD pp 0]))))]) (by rw [ten_add (by omega), show vv (S ++ [T.getD pp 0]) = 10 * vv S + T.getD pp 0 - 48 by rw [vv, vv, if_pos (by rw [List.length_append]; simp; omega), if_pos (by omega), f9_lo (by omega)]]) rfl (show _ = mdW tc h ar now (upd sc 12 (nI pp + 1)) ai al from rfl) ?_
        rw [nI_1]
        exact ih (T.length - (pp + 1)) (by omega) (S ++ [T.getD pp 0]) (pp + 1) (by omega) (by rw [List.length_append, hpS]; rfl) (tkw_add c8 hin hDS) rfl
/-- the world behind a reading: what it says, where it ended -/
def qP (tc : Nat → ClassId) (h : Nat) (ar : Nat → Nat) (now : Int64) (sc : Nat → Int32) (ai : Nat → Nat → Int32) (al : Nat → Nat → Int64) (T : List Nat) (b : Bool) (rest : List Nat) (X : (Nat → Int32) → Prop) (r : Option Value) (w : va_W) : Prop := r = some (.int (bI b)) ∧ ∃ s2, w = mdW tc h ar now s2 ai al ∧ fq sc s2 ∧ (b = true → ∃ p2, p2 ≤ T.length ∧ T.drop p2 = rest ∧ s2 12 = nI p2 ∧ X s2)
theorem qP.no {tc : Nat → ClassId} {h : Nat} {ar : Nat → Nat} {now : Int64} {sc s2 : Nat → Int32} {ai : Nat → Nat → Int32} {al : Nat → Nat → Int64} {T rest : List Nat} {b : Bool} {X : (Nat → Int32) → Prop} (hb : b = false) (hf : fq sc s2) : qP tc h ar now sc ai al T b rest X (some (.int 0)) (mdW tc h ar now s2 ai al) := ⟨by rw [hb]; rfl, s2, rfl, hf, fun z => by rw [hb] at z; cases z⟩
theorem bI_fits (b : Bool) : fits .boolean (.int (bI b)) = true := by cases b <;> rfl
theorem one_dec {S : List Nat} {c : Nat} : (decide (S.length + 1 = 1) && decide (c = 49)) = decide (S ++ [c] = [49]) := by
  cases S with
  | nil => simp
  | cons a S => simp
theorem qtx_o {x : Nat} {r S : List Nat} (h1 : ¬ x = 34) (h2 : ¬ x = 92) (h3 : isQt x = true) : qtx (x :: r) S = qtx r (S ++ [x]) := by rw [qtx.eq_def]; simp [h1, h2, h3]
theorem qtx_bad {T S : List Nat} {pp : Nat} (h1 : ¬ T.getD pp 0 = 34) (h2 : ¬ T.getD pp 0 = 92) (h3 : isQt (T.getD pp 0) = false) : (qtx (T.drop pp) S).1 = false := by
  rcases Nat.lt_or_ge pp T.length with h | h
  · rw [drop_get h]
    generalize T.getD pp 0 = x at h1 h2 h3
    rw [qtx.eq_def]; simp [h1, h2, h3]
  · rw [drop_end h]; rfl
set_option maxRecDepth 100000 in
set_option maxHeartbeats 4000000 in
theorem c_Mo_quoted (l : Launch) (D : va_G) (tys : List (ClassId × FieldType)) (tc : Nat → ClassId) (hty : ∀ i : Nat, i < 4 → tys[i]? = some (tc i, vx_ty i)) (h : Nat) (ar : Nat → Nat) (now : Int64) (sc : Nat → Int32) (ai : Nat → Nat → Int32) (al : Nat → Nat → Int64) (F : Nat) (T : List Nat) (ps : Nat) (hM : mdS sc ai F T ps) (hpl : ps < T.length) : Kt l y_Mo_quoted (yw y_Mo_quoted b_Mo_quoted 4 (some .boolean)) 3 63 0 0 D cls tys (fun _ _ _ => True) [.ref h] (mdW tc h ar now sc ai al) (fun r w => qP tc h ar now sc ai al T (qtx (T.drop (ps + 1)) []).1 (qtx (T.drop (ps + 1)) []).2.1 (fun s2 => s2 19 = bI (decide ((qtx (T.drop (ps + 1)) []).2.2 = [49]))) r w) := by
  refine Kt.of ro_true (by decide) rfl hty (Nat.le_of_ble_eq_true rfl) ?_
  intro p e s m args below meth c0 A hC hr hlk hnm hF
  have hFt : vx_Ft y_Mo_quoted.cls (yw y_Mo_quoted b_Mo_quoted 4 (some .boolean)) cls cty ft_Mo := ft_of (fun w h => List.mem_cons_of_mem _ h) fl_Mo_in ft_Mo_b
  have hini : false = true → meth.name = "<init>" := fun h => by cases h
  obtain ⟨hF8, h11, hlenT, htx, hT, h12, hps⟩ := id hM
  have hTl := hT.1
  refine vx_gon hC hFt hini (vx_ends hC hr hlk) jc_Mo_quoted 0 10 (by decide) rfl ?_
  refine And.intro rfl ?_
  refine And.intro rfl ?_
  refine And.intro rfl (And.intro (And.intro rfl rfl) ?_)
  generalize hres : qtx (T.drop (ps + 1)) [] = RES
  refine Vx.subL (lv' := [(0, .ref h), (1, .int (nI 0)), (2, .int (bI false))]) [2, 1, 0] rfl ?_
  obtain ⟨s2, hs2⟩ : ∃ s2, s2 = upd sc 12 (nI (ps + 1)) := ⟨_, rfl⟩
  obtain ⟨pp, hpp⟩ : ∃ pp : Nat, pp = ps + 1 := ⟨_, rfl⟩
  obtain ⟨S, hS⟩ : ∃ S : List Nat, S = [] := ⟨_, rfl⟩
  have hfr : fq sc s2 := by rw [hs2]; exact fq.refl.upd (by decide) (by decide)
  refine Vx.eqs rfl (lv2 := [(0, .ref h), (1, .int (nI S.length)), (2, .int (bI (decide (S = [49]))))]) (by rw [hS]; rfl) rfl (w2 := mdW tc h ar now s2 ai al) (by rw [hs2, ← nI_1, ← h12]; rfl) ?_
  replace h12 : s2 12 = nI pp := by rw [hs2, hpp]; exact pk_us
  have hpl2 : pp ≤ T.length := by omega
  replace hres : qtx (T.drop pp) S = RES := by rw [hpp, hS]; exact hres
  have hSl : S.length + 1 ≤ pp := by rw [hS, hpp]; simp
  clear hs2 hpp hS
  induction hn : T.length - pp using Nat.strongRecOn generalizing s2 pp S with
  | _ n ih =>
    have hMp := hM.fq hfr h12 (by omega)
    refine vx_go hC hFt hini (vx_ends hC hr hlk) jc_Mo_quoted 10 (by decide) rfl ?_
    refine mo_call hC (c_Mo_next l D tys tc hty h ar now s2 ai al F T pp hMp) wm_Mo_next wl_Mo_115 wi_Mo_next ws_Mo_Mo_next ⟨by decide, by decide⟩ rfl rfl (Nat.le_of_ble_eq_true rfl) ⟨Nat.zero_le _, Nat.zero_le _⟩ (fun r' w1 hp => ?_)
    obtain ⟨rfl, rfl⟩ := hp
    refine And.intro (fun c13 => ?_) (fun c13 => ?_)
    · skip
      have c13 : T.getD pp 0 = 34 := (nI_eq (by have := T_lt hT (pp); omega) (by omega)).mp c13
      have hin := T_in (T := T) (k := pp) (by omega)
      refine vx_go hC hFt hini (vx_ends hC hr hlk) jc_Mo_quoted 55 (by decide) rfl ?_
      refine And.intro rfl (And.intro (And.intro (bI_narrow _) (bI_fits _)) ?_)
      refine wq_ws (ws2 := mdW tc h ar now (upd s2 19 (bI (decide (S = [49])))) ai al) rfl ?_
      refine mo_call hC (c_Mo_take l D tys tc hty h ar now (upd s2 19 (bI (decide (S = [49])))) ai al F T pp (hMp.ot (by decide) (by decide)) 34 (by decide)) wm_Mo_take wl_Mo_153 wi_Mo_take ws_Mo_Mo_take ⟨by decide, by decide⟩ rfl rfl (Nat.le_of_ble_eq_true rfl) ⟨Nat.zero_le _, Nat.zero_le _⟩ (fun r' w1 hp => ?_)
      obtain ⟨rfl, rfl⟩ := hp
      refine And.intro ((bI_narrow _)) (And.intro ?_ (And.intro (Nat.le_refl _) (Nat.le_refl _)))
      rw [show decide (T.getD pp 0 = 34) = true from decide_eq_true c13] at *
      have hres2 : RES = (true, T.drop (pp + 1), S) := by rw [← hres, drop_get (W := T) (i := pp) hin, c13, qtx_m]
      rw [hres2]
      refine And.intro rfl ⟨_, rfl, ((hfr.upd (by decide) (by decide)).upd (k := 12) (by decide) (by decide)), fun _ => ⟨pp + 1, hin, rfl, by rw [if_pos c13]; exact pk_us, (pk_un (by decide)).trans pk_us⟩⟩
    · skip
      have c13 : ¬ (T.getD pp 0 = 34) := fun z => c13 (by rw [z]; rfl)
      refine mo_call hC (c_Mo_take l D tys tc hty h ar now s2 ai al F T pp hMp 92 (by decide)) wm_Mo_take wl_Mo_153 wi_Mo_take ws_Mo_Mo_take ⟨by decide, by decide⟩ rfl rfl (Nat.le_of_ble_eq_true rfl) ⟨Nat.zero_le _, Nat.zero_le _⟩ (fun r' w1 hp => ?_)
      obtain ⟨rfl, rfl⟩ := hp
      refine And.intro (fun c17 => ?_) (fun c17 => ?_)
      · skip
        have c17 : ¬ T.getD pp 0 = 92 := of_decide_eq_false (bI_eq c17)
        rw [if_neg c17, upd_same h12]
        refine vx_go hC hFt hini (vx_ends hC hr hlk) jc_Mo_quoted 23 (by decide) rfl ?_
        refine mo_call hC (c_Mo_next l D tys tc hty h ar now s2 ai al F T pp hMp) wm_Mo_next wl_Mo_115 wi_Mo_next ws_Mo_Mo_next ⟨by decide, by decide⟩ rfl rfl (Nat.le_of_ble_eq_true rfl) ⟨Nat.zero_le _, Nat.zero_le _⟩ (fun r' w1 hp => ?_)
        obtain ⟨rfl, rfl⟩ := hp
        refine And.intro (fun c28 => ?_) (fun c28 => ?_)
        · skip
          have hb9 := T_lt hT pp
          have c28 : T.getD pp 0 = 9 := (nI_eq (by have := T_lt hT (pp); omega) (by omega)).mp c28
          have hq : isQt (T.getD pp 0) = true := by simp only [isQt, decide_eq_true_eq]; omega
          have hin : pp < T.length := T_in (by omega)
          refine vx_go hC hFt hini (vx_ends hC hr hlk) jc_Mo_quoted 37 (by decide) rfl ?_
          refine And.intro (fun c40 => ?_) (fun c40 => ?_)
          · skip
            have c40 : ¬ (S.length + 1 = 1) := fun z => c40 (show nI S.length + nI 1 = nI 1 by rw [nI_add, z])
            refine vx_go hC hFt hini (vx_ends hC hr hlk) jc_Mo_quoted 46 (by decide) rfl ?_
            refine And.intro rfl ?_
            refine And.intro rfl ?_
            refine And.intro rfl (And.intro (And.intro rfl rfl) ?_)
            refine Vx.subL (lv' := [(0, .ref h), (1, .int (nI S.length + 1)), (2, .int (bI false))]) [3, 1, 0] rfl ?_
            have hone : decide (S ++ [(T.getD pp 0)] = [49]) = false := by rw [← one_dec, decide_eq_false c40]; rfl
            refine Vx.eqs rfl (lv2 := [(0, .ref h), (1, .int (nI (S ++ [(T.getD pp 0)]).length)), (2, .int (bI (decide (S ++ [(T.getD pp 0)] = [49]))))]) (by rw [hone, nI_1, List.length_append]; rfl) rfl (show _ = mdW tc h ar now (upd s2 12 (s2 12 + 1)) ai al from rfl) ?_
            exact ih (T.length - (pp + 1)) (by omega) (upd s2 12 (s2 12 + 1)) (pp + 1) (S ++ [(T.getD pp 0)]) (hfr.upd (by decide) (by decide)) (by rw [pk_us, h12, nI_1]) (by omega) (by rw [← hres, drop_get (W := T) (i := pp) hin, qtx_o c13 c17 hq]) (by rw [List.length_append]; simp; omega) rfl
          · skip
            have c40 : S.length + 1 = 1 := (nI_eq (a := S.length + 1) (b := 1) (by omega) (by omega)).mp (by rw [← nI_add]; exact c40)
            refine And.intro (fun c43 => ?_) (fun c43 => ?_)
            · skip
              have c43 : ¬ (T.getD pp 0 = 49) := fun z => c43 (by rw [z]; rfl)
              refine vx_go hC hFt hini (vx_ends hC hr hlk) jc_Mo_quoted 46 (by decide) rfl ?_
              refine And.intro rfl ?_
              refine And.intro rfl ?_
              refine And.intro rfl (And.intro (And.intro rfl rfl) ?_)
              refine Vx.subL (lv' := [(0, .ref h), (1, .int (nI S.length + 1)), (2, .int (bI false))]) [3, 1, 0] rfl ?_
              have hone : decide (S ++ [(T.getD pp 0)] = [49]) = false := by rw [← one_dec, decide_eq_false c43, Bool.and_false]
              refine Vx.eqs rfl (lv2 := [(0, .ref h), (1, .int (nI (S ++ [(T.getD pp 0)]).length)), (2, .int (bI (decide (S ++ [(T.getD pp 0)] = [49]))))]) (by rw [hone, nI_1, List.length_append]; rfl) rfl (show _ = mdW tc h ar now (upd s2 12 (s2 12 + 1)) ai al from rfl) ?_
              exact ih (T.length - (pp + 1)) (by omega) (upd s2 12 (s2 12 + 1)) (pp + 1) (S ++ [(T.getD pp 0)]) (hfr.upd (by decide) (by decide)) (by rw [pk_us, h12, nI_1]) (by omega) (by rw [← hres, drop_get (W := T) (i := pp) hin, qtx_o c13 c17 hq]) (by rw [List.length_append]; simp; omega) rfl
            · skip
              have c43 : T.getD pp 0 = 49 := (nI_eq (by have := T_lt hT (pp); omega) (by omega)).mp c43
              refine vx_go hC hFt hini (vx_ends hC hr hlk) jc_Mo_quoted 47 (by decide) rfl ?_
              refine And.intro rfl ?_
              refine And.intro rfl ?_
              refine And.intro rfl (And.intro (And.intro rfl rfl) ?_)
              refine Vx.subL (lv' := [(0, .ref h), (1, .int (nI S.length + 1)), (2, .int (bI true))]) [3, 1, 0] rfl ?_
              have hone : decide (S ++ [(T.getD pp 0)] = [49]) = true := by rw [← one_dec, decide_eq_true c40, decide_eq_true c43]; rfl
              refine Vx.eqs rfl (lv2 := [(0, .ref h), (1, .int (nI (S ++ [(T.getD pp 0)]).length)), (2, .int (bI (decide (S ++ [(T.getD pp 0)] = [49]))))]) (by rw [hone, nI_1, List.length_append]; rfl) rfl (show _ = mdW tc h ar now (upd s2 12 (s2 12 + 1)) ai al from rfl) ?_
              exact ih (T.length - (pp + 1)) (by omega) (upd s2 12 (s2 12 + 1)) (pp + 1) (S ++ [(T.getD pp 0)]) (hfr.upd (by decide) (by decide)) (by rw [pk_us, h12, nI_1]) (by omega) (by rw [← hres, drop_get (W := T) (i := pp) hin, qtx_o c13 c17 hq]) (by rw [List.length_append]; simp; omega) rfl
        · skip
          have hb9 := T_lt hT pp
          have c28 : ¬ (T.getD pp 0 = 9) := fun z => c28 (by rw [z]; rfl)
          refine And.intro (fun c31 => ?_) (fun c31 => ?_)
          · skip
            have c31 := (nI_ltI (a := T.getD pp 0) (b := 32) (by omega) (by omega)).mp c31
            refine vx_go hC hFt hini (vx_ends hC hr hlk) jc_Mo_quoted 35 (by decide) rfl ?_
            refine And.intro (rfl) (And.intro ?_ (And.intro (Nat.le_refl _) (Nat.le_refl _)))
            exact qP.no (by rw [← hres]; exact qtx_bad c13 c17 (by simp only [isQt, decide_eq_false_iff_not]; omega)) hfr
          · skip
            have c31 : ¬ (T.getD pp 0 < 32) := fun z => c31 ((nI_ltI (a := T.getD pp 0) (b := 32) (by omega) (by omega)).mpr z)
            refine And.intro (fun c34 => ?_) (fun c34 => ?_)
            · skip
              have c34 : ¬ (T.getD pp 0 = 127) := fun z => c34 (by rw [z]; rfl)
              have hq : isQt (T.getD pp 0) = true := by simp only [isQt, decide_eq_true_eq]; omega
              have hin : pp < T.length := T_in (by omega)
              refine vx_go hC hFt hini (vx_ends hC hr hlk) jc_Mo_quoted 37 (by decide) rfl ?_
              refine And.intro (fun c40 => ?_) (fun c40 => ?_)
              · skip
                have c40 : ¬ (S.length + 1 = 1) := fun z => c40 (show nI S.length + nI 1 = nI 1 by rw [nI_add, z])
                refine vx_go hC hFt hini (vx_ends hC hr hlk) jc_Mo_quoted 46 (by decide) rfl ?_
                refine And.intro rfl ?_
                refine And.intro rfl ?_
                refine And.intro rfl (And.intro (And.intro rfl rfl) ?_)
                refine Vx.subL (lv' := [(0, .ref h), (1, .int (nI S.length + 1)), (2, .int (bI false))]) [3, 1, 0] rfl ?_
                have hone : decide (S ++ [(T.getD pp 0)] = [49]) = false := by rw [← one_dec, decide_eq_false c40]; rfl
                refine Vx.eqs rfl (lv2 := [(0, .ref h), (1, .int (nI (S ++ [(T.getD pp 0)]).length)), (2, .int (bI (decide (S ++ [(T.getD pp 0)] = [49]))))]) (by rw [hone, nI_1, List.length_append]; rfl) rfl (show _ = mdW tc h ar now (upd s2 12 (s2 12 + 1)) ai al from rfl) ?_
                exact ih (T.length - (pp + 1)) (by omega) (upd s2 12 (s2 12 + 1)) (pp + 1) (S ++ [(T.getD pp 0)]) (hfr.upd (by decide) (by decide)) (by rw [pk_us, h12, nI_1]) (by omega) (by rw [← hres, drop_get (W := T) (i := pp) hin, qtx_o c13 c17 hq]) (by rw [List.length_append]; simp; omega) rfl
              · skip
                have c40 : S.length + 1 = 1 := (nI_eq (a := S.length + 1) (b := 1) (by omega) (by omega)).mp (by rw [← nI_add]; exact c40)
                refine And.intro (fun c43 => ?_) (fun c43 => ?_)
                · skip
                  have c43 : ¬ (T.getD pp 0 = 49) := fun z => c43 (by rw [z]; rfl)
                  refine vx_go hC hFt hini (vx_ends hC hr hlk) jc_Mo_quoted 46 (by decide) rfl ?_
                  refine And.intro rfl ?_
                  refine And.intro rfl ?_
                  refine And.intro rfl (And.intro (And.intro rfl rfl) ?_)
                  refine Vx.subL (lv' := [(0, .ref h), (1, .int (nI S.length + 1)), (2, .int (bI false))]) [3, 1, 0] rfl ?_
                  have hone : decide (S ++ [(T.getD pp 0)] = [49]) = false := by rw [← one_dec, decide_eq_false c43, Bool.and_false]
                  refine Vx.eqs rfl (lv2 := [(0, .ref h), (1, .int (nI (S ++ [(T.getD pp 0)]).length)), (2, .int (bI (decide (S ++ [(T.getD pp 0)] = [49]))))]) (by rw [hone, nI_1, List.length_append]; rfl) rfl (show _ = mdW tc h ar now (upd s2 12 (s2 12 + 1)) ai al from rfl) ?_
                  exact ih (T.length - (pp + 1)) (by omega) (upd s2 12 (s2 12 + 1)) (pp + 1) (S ++ [(T.getD pp 0)]) (hfr.upd (by decide) (by decide)) (by rw [pk_us, h12, nI_1]) (by omega) (by rw [← hres, drop_get (W := T) (i := pp) hin, qtx_o c13 c17 hq]) (by rw [List.length_append]; simp; omega) rfl
                · skip
                  have c43 : T.getD pp 0 = 49 := (nI_eq (by have := T_lt hT (pp); omega) (by omega)).mp c43
                  refine vx_go hC hFt hini (vx_ends hC hr hlk) jc_Mo_quoted 47 (by decide) rfl ?_
                  refine And.intro rfl ?_
                  refine And.intro rfl ?_
                  refine And.intro rfl (And.intro (And.intro rfl rfl) ?_)
                  refine Vx.subL (lv' := [(0, .ref h), (1, .int (nI S.length + 1)), (2, .int (bI true))]) [3, 1, 0] rfl ?_
                  have hone : decide (S ++ [(T.getD pp 0)] = [49]) = true := by rw [← one_dec, decide_eq_true c40, decide_eq_true c43]; rfl
                  refine Vx.eqs rfl (lv2 := [(0, .ref h), (1, .int (nI (S ++ [(T.getD pp 0)]).length)), (2, .int (bI (decide (S ++ [(T.getD pp 0)] = [49]))))]) (by rw [hone, nI_1, List.length_append]; rfl) rfl (show _ = mdW tc h ar now (upd s2 12 (s2 12 + 1)) ai al from rfl) ?_
                  exact ih (T.length - (pp + 1)) (by omega) (upd s2 12 (s2 12 + 1)) (pp + 1) (S ++ [(T.getD pp 0)]) (hfr.upd (by decide) (by decide)) (by rw [pk_us, h12, nI_1]) (by omega) (by rw [← hres, drop_get (W := T) (i := pp) hin, qtx_o c13 c17 hq]) (by rw [List.length_append]; simp; omega) rfl
            · skip
              have c34 : T.getD pp 0 = 127 := (nI_eq (by have := T_lt hT (pp); omega) (by omega)).mp c34
              refine And.intro (rfl) (And.intro ?_ (And.intro (Nat.le_refl _) (Nat.le_refl _)))
              exact qP.no (by rw [← hres]; exact qtx_bad c13 c17 (by simp only [isQt, decide_eq_false_iff_not]; omega)) hfr
      · skip
        have c17 : T.getD pp 0 = 92 := of_decide_eq_true (bI_ne c17)
        rw [if_pos c17]
        have hin0 := T_in (T := T) (k := pp) (by omega)
        refine mo_call hC (c_Mo_ended l D tys tc hty h ar now (upd s2 12 (nI (pp + 1))) ai al F T (pp + 1) (hMp.at (by omega))) wm_Mo_ended wl_Mo_166 wi_Mo_ended ws_Mo_Mo_ended ⟨by decide, by decide⟩ rfl rfl (Nat.le_of_ble_eq_true rfl) ⟨Nat.zero_le _, Nat.zero_le _⟩ (fun r' w1 hp => ?_)
        obtain ⟨rfl, rfl⟩ := hp
        refine And.intro (fun c20 => ?_) (fun c20 => ?_)
        · skip
          have c20 : ¬ T.length ≤ pp + 1 := of_decide_eq_false (bI_eq c20)
          refine vx_go hC hFt hini (vx_ends hC hr hlk) jc_Mo_quoted 23 (by decide) rfl ?_
          refine mo_call hC (c_Mo_next l D tys tc hty h ar now (upd s2 12 (nI (pp + 1))) ai al F T (pp + 1) (hMp.at (by omega))) wm_Mo_next wl_Mo_115 wi_Mo_next ws_Mo_Mo_next ⟨by decide, by decide⟩ rfl rfl (Nat.le_of_ble_eq_true rfl) ⟨Nat.zero_le _, Nat.zero_le _⟩ (fun r' w1 hp => ?_)
          obtain ⟨rfl, rfl⟩ := hp
          refine And.intro (fun c28 => ?_) (fun c28 => ?_)
          · skip
            have hb9 := T_lt hT (pp + 1)
            have c28 : T.getD (pp + 1) 0 = 9 := (nI_eq (by have := T_lt hT ((pp + 1)); omega) (by omega)).mp c28
            have hq : isQt (T.getD (pp + 1) 0) = true := by simp only [isQt, decide_eq_true_eq]; omega
            have hin : pp + 1 < T.length := T_in (by omega)
            refine vx_go hC hFt hini (vx_ends hC hr hlk) jc_Mo_quoted 37 (by decide) rfl ?_
            refine And.intro (fun c40 => ?_) (fun c40 => ?_)
            · skip
              have c40 : ¬ (S.length + 1 = 1) := fun z => c40 (show nI S.length + nI 1 = nI 1 by rw [nI_add, z])
              refine vx_go hC hFt hini (vx_ends hC hr hlk) jc_Mo_quoted 46 (by decide) rfl ?_
              refine And.intro rfl ?_
              refine And.intro rfl ?_
              refine And.intro rfl (And.intro (And.intro rfl rfl) ?_)
              refine Vx.subL (lv' := [(0, .ref h), (1, .int (nI S.length + 1)), (2, .int (bI false))]) [3, 1, 0] rfl ?_
              have hone : decide (S ++ [(T.getD (pp + 1) 0)] = [49]) = false := by rw [← one_dec, decide_eq_false c40]; rfl
              refine Vx.eqs rfl (lv2 := [(0, .ref h), (1, .int (nI (S ++ [(T.getD (pp + 1) 0)]).length)), (2, .int (bI (decide (S ++ [(T.getD (pp + 1) 0)] = [49]))))]) (by rw [hone, nI_1, List.length_append]; rfl) rfl (show _ = mdW tc h ar now (upd (upd s2 12 (nI (pp + 1))) 12 (nI (pp + 1) + 1)) ai al from rfl) ?_
              exact ih (T.length - (pp + 2)) (by omega) (upd (upd s2 12 (nI (pp + 1))) 12 (nI (pp + 1) + 1)) (pp + 2) (S ++ [(T.getD (pp + 1) 0)]) ((hfr.upd (by decide) (by decide)).upd (by decide) (by decide)) (by rw [pk_us, nI_1]) (by omega) (by rw [← hres, drop_get (W := T) (i := pp) (by omega), drop_get (W := T) (i := pp + 1) hin, c17, qtx_eq hq]) (by rw [List.length_append]; simp; omega) rfl
            · skip
              have c40 : S.length + 1 = 1 := (nI_eq (a := S.length + 1) (b := 1) (by omega) (by omega)).mp (by rw [← nI_add]; exact c40)
              refine And.intro (fun c43 => ?_) (fun c43 => ?_)
              · skip
                have c43 : ¬ (T.getD (pp + 1) 0 = 49) := fun z => c43 (by rw [z]; rfl)
                refine vx_go hC hFt hini (vx_ends hC hr hlk) jc_Mo_quoted 46 (by decide) rfl ?_
                refine And.intro rfl ?_
                refine And.intro rfl ?_
                refine And.intro rfl (And.intro (And.intro rfl rfl) ?_)
                refine Vx.subL (lv' := [(0, .ref h), (1, .int (nI S.length + 1)), (2, .int (bI false))]) [3, 1, 0] rfl ?_
                have hone : decide (S ++ [(T.getD (pp + 1) 0)] = [49]) = false := by rw [← one_dec, decide_eq_false c43, Bool.and_false]
                refine Vx.eqs rfl (lv2 := [(0, .ref h), (1, .int (nI (S ++ [(T.getD (pp + 1) 0)]).length)), (2, .int (bI (decide (S ++ [(T.getD (pp + 1) 0)] = [49]))))]) (by rw [hone, nI_1, List.length_append]; rfl) rfl (show _ = mdW tc h ar now (upd (upd s2 12 (nI (pp + 1))) 12 (nI (pp + 1) + 1)) ai al from rfl) ?_
                exact ih (T.length - (pp + 2)) (by omega) (upd (upd s2 12 (nI (pp + 1))) 12 (nI (pp + 1) + 1)) (pp + 2) (S ++ [(T.getD (pp + 1) 0)]) ((hfr.upd (by decide) (by decide)).upd (by decide) (by decide)) (by rw [pk_us, nI_1]) (by omega) (by rw [← hres, drop_get (W := T) (i := pp) (by omega), drop_get (W := T) (i := pp + 1) hin, c17, qtx_eq hq]) (by rw [List.length_append]; simp; omega) rfl
              · skip
                have c43 : T.getD (pp + 1) 0 = 49 := (nI_eq (by have := T_lt hT ((pp + 1)); omega) (by omega)).mp c43
                refine vx_go hC hFt hini (vx_ends hC hr hlk) jc_Mo_quoted 47 (by decide) rfl ?_
                refine And.intro rfl ?_
                refine And.intro rfl ?_
                refine And.intro rfl (And.intro (And.intro rfl rfl) ?_)
                refine Vx.subL (lv' := [(0, .ref h), (1, .int (nI S.length + 1)), (2, .int (bI true))]) [3, 1, 0] rfl ?_
                have hone : decide (S ++ [(T.getD (pp + 1) 0)] = [49]) = true := by rw [← one_dec, decide_eq_true c40, decide_eq_true c43]; rfl
                refine Vx.eqs rfl (lv2 := [(0, .ref h), (1, .int (nI (S ++ [(T.getD (pp + 1) 0)]).length)), (2, .int (bI (decide (S ++ [(T.getD (pp + 1) 0)] = [49]))))]) (by rw [hone, nI_1, List.length_append]; rfl) rfl (show _ = mdW tc h ar now (upd (upd s2 12 (nI (pp + 1))) 12 (nI (pp + 1) + 1)) ai al from rfl) ?_
                exact ih (T.length - (pp + 2)) (by omega) (upd (upd s2 12 (nI (pp + 1))) 12 (nI (pp + 1) + 1)) (pp + 2) (S ++ [(T.getD (pp + 1) 0)]) ((hfr.upd (by decide) (by decide)).upd (by decide) (by decide)) (by rw [pk_us, nI_1]) (by omega) (by rw [← hres, drop_get (W := T) (i := pp) (by omega), drop_get (W := T) (i := pp + 1) hin, c17, qtx_eq hq]) (by rw [List.length_append]; simp; omega) rfl
          · skip
            have hb9 := T_lt hT (pp + 1)
            have c28 : ¬ (T.getD (pp + 1) 0 = 9) := fun z => c28 (by rw [z]; rfl)
            refine And.intro (fun c31 => ?_) (fun c31 => ?_)
            · skip
              have c31 := (nI_ltI (a := T.getD (pp + 1) 0) (b := 32) (by omega) (by omega)).mp c31
              refine vx_go hC hFt hini (vx_ends hC hr hlk) jc_Mo_quoted 35 (by decide) rfl ?_
              refine And.intro (rfl) (And.intro ?_ (And.intro (Nat.le_refl _) (Nat.le_refl _)))
              exact qP.no (by rw [← hres, drop_get (W := T) (i := pp) (by omega), drop_get (W := T) (i := pp + 1) (by omega), c17, qtx_en (by simp only [isQt, decide_eq_false_iff_not]; omega)]) (hfr.upd (by decide) (by decide))
            · skip
              have c31 : ¬ (T.getD (pp + 1) 0 < 32) := fun z => c31 ((nI_ltI (a := T.getD (pp + 1) 0) (b := 32) (by omega) (by omega)).mpr z)
              refine And.intro (fun c34 => ?_) (fun c34 => ?_)
              · skip
                have c34 : ¬ (T.getD (pp + 1) 0 = 127) := fun z => c34 (by rw [z]; rfl)
                have hq : isQt (T.getD (pp + 1) 0) = true := by simp only [isQt, decide_eq_true_eq]; omega
                have hin : pp + 1 < T.length := T_in (by omega)
                refine vx_go hC hFt hini (vx_ends hC hr hlk) jc_Mo_quoted 37 (by decide) rfl ?_
                refine And.intro (fun c40 => ?_) (fun c40 => ?_)
                · skip
                  have c40 : ¬ (S.length + 1 = 1) := fun z => c40 (show nI S.length + nI 1 = nI 1 by rw [nI_add, z])
                  refine vx_go hC hFt hini (vx_ends hC hr hlk) jc_Mo_quoted 46 (by decide) rfl ?_
                  refine And.intro rfl ?_
                  refine And.intro rfl ?_
                  refine And.intro rfl (And.intro (And.intro rfl rfl) ?_)
                  refine Vx.subL (lv' := [(0, .ref h), (1, .int (nI S.length + 1)), (2, .int (bI false))]) [3, 1, 0] rfl ?_
                  have hone : decide (S ++ [(T.getD (pp + 1) 0)] = [49]) = false := by rw [← one_dec, decide_eq_false c40]; rfl
                  refine Vx.eqs rfl (lv2 := [(0, .ref h), (1, .int (nI (S ++ [(T.getD (pp + 1) 0)]).length)), (2, .int (bI (decide (S ++ [(T.getD (pp + 1) 0)] = [49]))))]) (by rw [hone, nI_1, List.length_append]; rfl) rfl (show _ = mdW tc h ar now (upd (upd s2 12 (nI (pp + 1))) 12 (nI (pp + 1) + 1)) ai al from rfl) ?_
                  exact ih (T.length - (pp + 2)) (by omega) (upd (upd s2 12 (nI (pp + 1))) 12 (nI (pp + 1) + 1)) (pp + 2) (S ++ [(T.getD (pp + 1) 0)]) ((hfr.upd (by decide) (by decide)).upd (by decide) (by decide)) (by rw [pk_us, nI_1]) (by omega) (by rw [← hres, drop_get (W := T) (i := pp) (by omega), drop_get (W := T) (i := pp + 1) hin, c17, qtx_eq hq]) (by rw [List.length_append]; simp; omega) rfl
                · skip
                  have c40 : S.length + 1 = 1 := (nI_eq (a := S.length + 1) (b := 1) (by omega) (by omega)).mp (by rw [← nI_add]; exact c40)
                  refine And.intro (fun c43 => ?_) (fun c43 => ?_)
                  · skip
                    have c43 : ¬ (T.getD (pp + 1) 0 = 49) := fun z => c43 (by rw [z]; rfl)
                    refine vx_go hC hFt hini (vx_ends hC hr hlk) jc_Mo_quoted 46 (by decide) rfl ?_
                    refine And.intro rfl ?_
                    refine And.intro rfl ?_
                    refine And.intro rfl (And.intro (And.intro rfl rfl) ?_)
                    refine Vx.subL (lv' := [(0, .ref h), (1, .int (nI S.length + 1)), (2, .int (bI false))]) [3, 1, 0] rfl ?_
                    have hone : decide (S ++ [(T.getD (pp + 1) 0)] = [49]) = false := by rw [← one_dec, decide_eq_false c43, Bool.and_false]
                    refine Vx.eqs rfl (lv2 := [(0, .ref h), (1, .int (nI (S ++ [(T.getD (pp + 1) 0)]).length)), (2, .int (bI (decide (S ++ [(T.getD (pp + 1) 0)] = [49]))))]) (by rw [hone, nI_1, List.length_append]; rfl) rfl (show _ = mdW tc h ar now (upd (upd s2 12 (nI (pp + 1))) 12 (nI (pp + 1) + 1)) ai al from rfl) ?_
                    exact ih (T.length - (pp + 2)) (by omega) (upd (upd s2 12 (nI (pp + 1))) 12 (nI (pp + 1) + 1)) (pp + 2) (S ++ [(T.getD (pp + 1) 0)]) ((hfr.upd (by decide) (by decide)).upd (by decide) (by decide)) (by rw [pk_us, nI_1]) (by omega) (by rw [← hres, drop_get (W := T) (i := pp) (by omega), drop_get (W := T) (i := pp + 1) hin, c17, qtx_eq hq]) (by rw [List.length_append]; simp; omega) rfl
                  · skip
                    have c43 : T.getD (pp + 1) 0 = 49 := (nI_eq (by have := T_lt hT ((pp + 1)); omega) (by omega)).mp c43
                    refine vx_go hC hFt hini (vx_ends hC hr hlk) jc_Mo_quoted 47 (by decide) rfl ?_
                    refine And.intro rfl ?_
                    refine And.intro rfl ?_
                    refine And.intro rfl (And.intro (And.intro rfl rfl) ?_)
                    refine Vx.subL (lv' := [(0, .ref h), (1, .int (nI S.length + 1)), (2, .int (bI true))]) [3, 1, 0] rfl ?_
                    have hone : decide (S ++ [(T.getD (pp + 1) 0)] = [49]) = true := by rw [← one_dec, decide_eq_true c40, decide_eq_true c43]; rfl
                    refine Vx.eqs rfl (lv2 := [(0, .ref h), (1, .int (nI (S ++ [(T.getD (pp + 1) 0)]).length)), (2, .int (bI (decide (S ++ [(T.getD (pp + 1) 0)] = [49]))))]) (by rw [hone, nI_1, List.length_append]; rfl) rfl (show _ = mdW tc h ar now (upd (upd s2 12 (nI (pp + 1))) 12 (nI (pp + 1) + 1)) ai al from rfl) ?_
                    exact ih (T.length - (pp + 2)) (by omega) (upd (upd s2 12 (nI (pp + 1))) 12 (nI (pp + 1) + 1)) (pp + 2) (S ++ [(T.getD (pp + 1) 0)]) ((hfr.upd (by decide) (by decide)).upd (by decide) (by decide)) (by rw [pk_us, nI_1]) (by omega) (by rw [← hres, drop_get (W := T) (i := pp) (by omega), drop_get (W := T) (i := pp + 1) hin, c17, qtx_eq hq]) (by rw [List.length_append]; simp; omega) rfl
              · skip
                have c34 : T.getD (pp + 1) 0 = 127 := (nI_eq (by have := T_lt hT ((pp + 1)); omega) (by omega)).mp c34
                refine And.intro (rfl) (And.intro ?_ (And.intro (Nat.le_refl _) (Nat.le_refl _)))
                exact qP.no (by rw [← hres, drop_get (W := T) (i := pp) (by omega), drop_get (W := T) (i := pp + 1) (by omega), c17, qtx_en (by simp only [isQt, decide_eq_false_iff_not]; omega)]) (hfr.upd (by decide) (by decide))
        · skip
          have c20 : T.length ≤ pp + 1 := of_decide_eq_true (bI_ne c20)
          refine And.intro (rfl) (And.intro ?_ (And.intro (Nat.le_refl _) (Nat.le_refl _)))
          exact qP.no (by rw [← hres, drop_get (W := T) (i := pp) (by omega), drop_end (W := T) (i := pp + 1) c20, c17, qtx_e]) (hfr.upd (by decide) (by decide))
