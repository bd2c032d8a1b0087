/-! THE REFERENCE: deciding, by program (wip/whole/gen/p53.py) -/
theorem paA_nil {a : Nat → Nat → Int32} : paA a [] := ⟨Nat.zero_le _, fun i hi => by simp at hi⟩
theorem getD_l {pa : List (Nat × Nat)} {v : Nat × Nat} {i : Nat} (h : i < pa.length) : (pa ++ [v]).getD i (0, 0) = pa.getD i (0, 0) := by
  rw [List.getD_eq_getElem?_getD, List.getD_eq_getElem?_getD, List.getElem?_append_left h]
theorem getD_r {pa : List (Nat × Nat)} {v : Nat × Nat} : (pa ++ [v]).getD pa.length (0, 0) = v := by
  rw [List.getD_eq_getElem?_getD, List.getElem?_append_right (Nat.le_refl _), Nat.sub_self]; rfl
theorem paA_add {a : Nat → Nat → Int32} {pa : List (Nat × Nat)} {v : Nat × Nat} (h : paA a pa) (h4 : pa.length < 4) (h1 : v.1 ≤ v.2) (h2 : v.2 < 100000) : paA (ap (ap a 11 (upd (a 11) pa.length (nI v.1))) 12 (upd (a 12) pa.length (nI v.2))) (pa ++ [v]) := by
  refine ⟨by rw [List.length_append, List.length_singleton]; omega, fun i hi => ?_⟩
  rw [List.length_append, List.length_singleton] at hi
  show upd (a 11) pa.length (nI v.1) i = _ ∧ upd (a 12) pa.length (nI v.2) i = _ ∧ _
  by_cases e : i = pa.length
  · subst e
    rw [getD_r, pk_us, pk_us]; exact ⟨rfl, rfl, h1, h2⟩
  · rw [getD_l (by omega), pk_un e, pk_un e]; exact h.2 i (by omega)
theorem rsv_ok {n : Nat} {u : Option Nat × Option Nat} {v : Nat × Nat} (h : rsv n u = some v) : v.1 ≤ v.2 ∧ v.2 < n := by
  unfold rsv at h
  cases hb : rsB n u with
  | none => rw [hb] at h; cases h
  | some b =>
    rw [hb] at h
    have h9 := rsB_le hb
    simp only [] at h
    split at h
    · rename_i h1; obtain rfl := Option.some.inj h; exact ⟨h1, h9⟩
    · cases h
def spB (u : Option Nat × Option Nat) : Prop := (∀ v, u.1 = some v → v ≤ 999999999) ∧ (∀ v, u.2 = some v → v ≤ 999999999)
theorem spc_b {rs : List Nat} {u : (Option Nat × Option Nat) × List Nat} (h : spc rs = some u) : spB u.1 := by
  unfold spc at h
  split at h
  · split at h
    · obtain rfl := Option.some.inj h
      exact ⟨fun v hv => nmv_le hv, fun v hv => nmv_le hv⟩
    · cases h
  · cases h
theorem rgG_b {n : Nat} {A L : List (Option Nat × Option Nat)} {rs : List Nat} (hA : ∀ u ∈ A, spB u) (h : rgG n A rs = some L) : ∀ u ∈ L, spB u := by
  induction n generalizing A rs with
  | zero => cases h
  | succ n ih =>
    rw [rgG] at h
    split at h
    · split at h
      · cases h
      · obtain rfl := Option.some.inj h; exact hA
    · split at h
      · cases h
      · rename_i u hu
        split at h
        · exact ih (fun w hw => by
            rcases List.mem_append.mp hw with z | z
            · exact hA w z
            · rw [List.mem_singleton.mp z]; exact spc_b hu) h
        · cases h
theorem rngL_b {T : List Nat} {L : List (Option Nat × Option Nat)} (h : rngL T = some L) : ∀ u ∈ L, spB u := by
  unfold rngL at h
  split at h
  · split at h
    · exact rgG_b (fun u hu => by simp at hu) h
    · cases h
  · cases h
def rq (s t : Nat → Int32) : Prop := ∀ k, k < 11 ∨ (21 ≤ k ∧ k ≠ 27) → t k = s k
theorem rq.refl {s : Nat → Int32} : rq s s := fun _ _ => rfl
theorem rq.trans {a b c : Nat → Int32} (h1 : rq a b) (h2 : rq b c) : rq a c := fun k hk => (h2 k hk).trans (h1 k hk)
theorem rq.upd {s t : Nat → Int32} {v : Int32} (h : rq s t) : rq s (upd t 27 v) := fun j hj => (pk_un (by omega)).trans (h j hj)
theorem gq.rq {s t : Nat → Int32} (h : gq s t) : rq s t := fun k hk => h k (by omega)
theorem hq.rq {s t : Nat → Int32} (h : hq s t) : rq s t := fun k hk => h k (by omega)
def ra9 (a b : Nat → Nat → Int32) : Prop := ∀ k, k < 9 → b k = a k
theorem aq.ra9 {a b : Nat → Nat → Int32} (h : aq a b) : ra9 a b := fun k hk => h k (by omega) (by omega)
theorem spA.fr {a b : Nat → Nat → Int32} {A : List (Option Nat × Option Nat)} (h : spA a A) (h9 : b 9 = a 9) (h10 : b 10 = a 10) : spA b A := fun i u hu => by rw [h9, h10]; exact h i u hu
theorem fm_take {A : List (Option Nat × Option Nat)} {k : Nat} {u : Option Nat × Option Nat} {f : Option Nat × Option Nat → Option (Nat × Nat)} (h : A[k]? = some u) : (A.take (k + 1)).filterMap f = (A.take k).filterMap f ++ (match f u with
    | none => []
    | some v => [v]) := by
  rw [List.take_add_one, h, List.filterMap_append]
  cases hf : f u <;> simp [hf]
theorem fm_len {A : List (Option Nat × Option Nat)} {f : Option Nat × Option Nat → Option (Nat × Nat)} : (A.filterMap f).length ≤ A.length := List.length_filterMap_le _ _
set_option maxRecDepth 100000 in
set_option maxHeartbeats 4000000 in
theorem c_Mo_ranged (l : Launch) (D : va_G) (tys : List (ClassId × FieldType)) (tc : Nat → ClassId) (hty : ∀ i : Nat, i < 4 → tys[i]? = some (tc i, vx_ty i)) (h : Nat) (ar : Nat → Nat) (now : Int64) (sc : Nat → Int32) (ai : Nat → Nat → Int32) (al : Nat → Nat → Int64) (N : Nat) (rp : List Rp) (me : Int32) (tx : Nat → List Nat) (hR : mdR now sc ai al N rp me tx) (i : Nat) (r9 : Rp) (hi : rp[i]? = some r9) (h27 : sc 27 = nI 0) : Kt l y_Mo_ranged (yw y_Mo_ranged b_Mo_ranged 3 (some .int)) 7 162 0 0 D cls tys (fun _ _ _ => True) [.ref h, .int (nI i)] (mdW tc h ar now sc ai al) (fun r w => r = some (.int (nI (rgS (yrN N + 50) me tx r9).1)) ∧ ∃ s2 a2, w = mdW tc h ar now s2 a2 al ∧ rq sc s2 ∧ ra9 ai a2 ∧ s2 27 = nI (rgS (yrN N + 50) me tx r9).2.length ∧ paA a2 (rgS (yrN N + 50) me tx r9).2) := by
  refine Kt.of ro_true (by decide) rfl hty (Nat.le_of_ble_eq_true rfl) ?_
  intro p e s m args below meth c0 A hC hr hlk hnm hF
  have hFt : vx_Ft y_Mo_ranged.cls (yw y_Mo_ranged b_Mo_ranged 3 (some .int)) cls cty ft_Mo := ft_of (fun w h => List.mem_cons_of_mem _ h) fl_Mo_in ft_Mo_b
  have hini : false = true → meth.name = "<init>" := fun h => by cases h
  obtain ⟨hN, hnow, hWd, hrp, h1c, h8m, hx⟩ := id hR
  have hr9 := hrp.2 i r9 hi
  have hil : i < rp.length := (List.getElem?_eq_some_iff.mp hi).1
  have hi4 : i < 4 := Nat.lt_of_lt_of_le hil hrp.1
  refine vx_gon hC hFt hini (vx_ends hC hr hlk) jc_Mo_ranged 0 22 (by decide) rfl ?_
  refine And.intro rfl ?_
  refine And.intro (fun c2 => ?_) (fun c2 => ?_)
  · skip
    have c2 : ¬ me = 0 := by rw [← h8m]; exact c2
    refine vx_gon hC hFt hini (vx_ends hC hr hlk) jc_Mo_ranged 18 4 (by decide) rfl ?_
    refine And.intro (trivial) (And.intro ?_ (And.intro (Nat.le_refl _) (Nat.le_refl _)))
    have hv : (rgS (yrN N + 50) me tx r9) = (200, []) := by
      rw [rgS, if_pos c2]
    rw [hv]
    exact ⟨rfl, sc, ai, rfl, rq.refl, (fun _ _ => rfl), h27, paA_nil⟩
  · skip
    have c2 : me = 0 := by
      rw [← h8m]
      exact c2
    refine mo_call hC (c_Mo_there l D tys tc hty h ar now sc ai al 7 (tx 7) (by decide) (hx 7 (by decide)).2.2.2 (hx 7 (by decide)).2.1) wm_Mo_there wl_Mo_223 wi_Mo_there ws_Mo_Mo_there ⟨by decide, by decide⟩ rfl rfl (Nat.le_of_ble_eq_true rfl) ⟨Nat.zero_le _, Nat.zero_le _⟩ (fun r' w1 hp => ?_)
    obtain ⟨rfl, rfl⟩ := hp
    refine And.intro (fun c6 => ?_) (fun c6 => ?_)
    · skip
      have c6 : tx 7 = [] := List.eq_nil_of_length_eq_zero (Nat.eq_zero_of_not_pos (of_decide_eq_false (bI_eq c6)))
      refine vx_gon hC hFt hini (vx_ends hC hr hlk) jc_Mo_ranged 18 4 (by decide) rfl ?_
      refine And.intro (trivial) (And.intro ?_ (And.intro (Nat.le_refl _) (Nat.le_refl _)))
      have hv : (rgS (yrN N + 50) me tx r9) = (200, []) := by
        rw [rgS, if_neg (fun z => z c2), show rngL (tx 7) = none by rw [c6]; rfl]
        split <;> rfl
      rw [hv]
      exact ⟨rfl, sc, ai, rfl, rq.refl, (fun _ _ => rfl), h27, paA_nil⟩
    · skip
      have c6 : ¬ tx 7 = [] := fun z => by
        have := of_decide_eq_true (bI_ne c6)
        rw [z] at this
        exact absurd this (by decide)
      refine mo_call hC (c_Mo_ifRange l D tys tc hty h ar now sc ai al (tx 6) (hx 6 (by decide)) N hN hnow i r9.2.2.2.1 r9.2.2.2.2.1 r9.2.2.2.2.2 hi4 hr9.2.2.2.2.1 hr9.1.2.2.2.1 hr9.2.2.2.2.2.1 hr9.2.2.2.2.2.2 hr9.1.2.2.2.2) wm_Mo_ifRange wl_Mo_326 wi_Mo_ifRange ws_Mo_Mo_ifRange ⟨by decide, by decide⟩ rfl rfl (Nat.le_of_ble_eq_true rfl) ⟨Nat.zero_le _, Nat.zero_le _⟩ (fun r' w1 hp => ?_)
      obtain ⟨rfl, s2, rfl, hg2⟩ := hp
      refine And.intro (fun c10 => ?_) (fun c10 => ?_)
      · skip
        have c10 : irS (yrN N + 50) (tagL r9.2.2.2.1) r9.2.2.2.2.1 r9.2.2.2.2.2 (tx 6) = false := bI_eq c10
        refine vx_gon hC hFt hini (vx_ends hC hr hlk) jc_Mo_ranged 18 4 (by decide) rfl ?_
        refine And.intro (trivial) (And.intro ?_ (And.intro (Nat.le_refl _) (Nat.le_refl _)))
        have hv : (rgS (yrN N + 50) me tx r9) = (200, []) := by
          rw [rgS, if_neg (fun z => z c2), if_pos c10]
        rw [hv]
        exact ⟨rfl, s2, ai, rfl, hg2.rq, (fun _ _ => rfl), ((hg2 27 (by decide)).trans h27), paA_nil⟩
      · skip
        have c10 : irS (yrN N + 50) (tagL r9.2.2.2.1) r9.2.2.2.2.1 r9.2.2.2.2.2 (tx 6) = true := bI_ne c10
        refine mo_call hC (c_Mo_ranges l D tys tc hty h ar now s2 ai al (tx 7) (hx 7 (by decide))) wm_Mo_ranges wl_Mo_329 wi_Mo_ranges ws_Mo_Mo_ranges ⟨by decide, by decide⟩ rfl rfl (Nat.le_of_ble_eq_true rfl) ⟨Nat.zero_le _, Nat.zero_le _⟩ (fun r' w1 hp => ?_)
        obtain ⟨rfl, s3, a3, rfl, hg3, ha3, hx3⟩ := hp
        refine And.intro (fun c13 => ?_) (fun c13 => ?_)
        · skip
          have c13 : rngL (tx 7) = none := by
            cases h9 : rngL (tx 7) with
            | none => rfl
            | some A => rw [h9] at c13; exact absurd c13 (show ¬ bI true = 0 by decide)
          refine vx_gon hC hFt hini (vx_ends hC hr hlk) jc_Mo_ranged 18 4 (by decide) rfl ?_
          refine And.intro (trivial) (And.intro ?_ (And.intro (Nat.le_refl _) (Nat.le_refl _)))
          have hv : (rgS (yrN N + 50) me tx r9) = (200, []) := by
            rw [rgS, if_neg (fun z => z c2), if_neg (by rw [c10]; exact fun z => by cases z), c13]
          rw [hv]
          exact ⟨rfl, s3, a3, rfl, (hg2.rq.trans hg3.rq), ha3.ra9, ((hg3 27 (by decide)).trans ((hg2 27 (by decide)).trans h27)), paA_nil⟩
        · skip
          obtain ⟨A, hA⟩ : ∃ A, rngL (tx 7) = some A := by
            cases h9 : rngL (tx 7) with
            | none => rw [h9] at c13; exact absurd rfl c13
            | some A => exact ⟨A, rfl⟩
          obtain ⟨h320, hA96, hsA⟩ := hx3 A hA
          refine And.intro rfl ?_
          refine And.intro (fun c17 => ?_) (fun c17 => ?_)
          · skip
            have c17 : ¬ 4 < A.length := Nat.not_lt.mpr ((nI_leI (b := 4) (by omega) (by omega)).mp (by rw [h320] at c17; exact c17))
            refine vx_gon hC hFt hini (vx_ends hC hr hlk) jc_Mo_ranged 20 2 (by decide) rfl ?_
            refine Vx.subL (lv' := [(0, .ref h), (1, .int (nI i)), (2, .int (nI 0))]) [1, 2, 0] rfl ?_
            obtain ⟨k, hk0⟩ : ∃ k : Nat, k = 0 := ⟨_, rfl⟩
            obtain ⟨s4, hs40⟩ : ∃ s4, s4 = s3 := ⟨_, rfl⟩
            obtain ⟨a4, ha40⟩ : ∃ a4, a4 = a3 := ⟨_, rfl⟩
            refine Vx.eqs rfl (lv2 := [(0, .ref h), (1, .int (nI i)), (2, .int (nI k))]) (by rw [hk0]) rfl (w2 := mdW tc h ar now s4 a4 al) (by rw [hs40, ha40]) ?_
            have hg4 : rq sc s4 := by rw [hs40]; exact hg2.rq.trans hg3.rq
            have ha4 : ra9 ai a4 := by rw [ha40]; exact ha3.ra9
            have h420 : s4 20 = nI A.length := by rw [hs40]; exact h320
            have hs4 : spA a4 A := by rw [ha40]; exact hsA
            have h427 : s4 27 = nI ((A.take k).filterMap (rsv r9.2.2.1)).length := by rw [hs40, hk0]; exact (hg3 27 (by decide)).trans ((hg2 27 (by decide)).trans h27)
            have hp4 : paA a4 ((A.take k).filterMap (rsv r9.2.2.1)) := by rw [hk0]; exact paA_nil
            have hkl : k ≤ A.length := by omega
            clear hk0 hs40 ha40
            induction hn : A.length - k using Nat.strongRecOn generalizing k s4 a4 with
            | _ m9 ih =>
              have hPC : ((A.take k).filterMap (rsv r9.2.2.1)).length ≤ k := Nat.le_trans fm_len (by rw [List.length_take]; omega)
              refine vx_go hC hFt hini (vx_ends hC hr hlk) jc_Mo_ranged 22 (by decide) rfl ?_
              refine And.intro rfl ?_
              refine And.intro (fun c25 => ?_) (fun c25 => ?_)
              · skip
                have c25 : A.length ≤ k := by rw [h420] at c25; exact (nI_leI (by omega) (by omega)).mp c25
                rw [List.take_of_length_le c25] at h427 hp4
                refine vx_go hC hFt hini (vx_ends hC hr hlk) jc_Mo_ranged 35 (by decide) rfl ?_
                refine mo_call hC (c_Mo_overlap l D tys tc hty h ar now s4 a4 al (A.filterMap (rsv r9.2.2.1)) hp4 h427) wm_Mo_overlap wl_Mo_336 wi_Mo_overlap ws_Mo_Mo_overlap ⟨by decide, by decide⟩ rfl rfl (Nat.le_of_ble_eq_true rfl) ⟨Nat.zero_le _, Nat.zero_le _⟩ (fun r' w1 hp => ?_)
                obtain ⟨rfl, rfl⟩ := hp
                refine And.intro (fun c37 => ?_) (fun c37 => ?_)
                · skip
                  have c37 : ovl (A.filterMap (rsv r9.2.2.1)) = false := bI_eq c37
                  refine vx_go hC hFt hini (vx_ends hC hr hlk) jc_Mo_ranged 43 (by decide) rfl ?_
                  refine And.intro rfl ?_
                  refine And.intro (fun c45 => ?_) (fun c45 => ?_)
                  · skip
                    have c45 : ¬ A.filterMap (rsv r9.2.2.1) = [] := fun z => c45 (by rw [h427, z]; rfl)
                    refine vx_go hC hFt hini (vx_ends hC hr hlk) jc_Mo_ranged 48 (by decide) rfl ?_
                    refine And.intro (trivial) (And.intro ?_ (And.intro (Nat.le_refl _) (Nat.le_refl _)))
                    have hv : (rgS (yrN N + 50) me tx r9) = (206, A.filterMap (rsv r9.2.2.1)) := by
                      rw [rgS, if_neg (fun z => z c2), if_neg (by rw [c10]; exact fun z => by cases z), hA]
                      show (if 4 < A.length then _ else _) = _
                      rw [if_neg c17]
                      rw [if_neg (by rw [c37]; exact fun z => by cases z), if_neg c45]
                    rw [hv]
                    exact ⟨rfl, s4, a4, rfl, hg4, ha4, h427, hp4⟩
                  · skip
                    have c45 : A.filterMap (rsv r9.2.2.1) = [] := List.eq_nil_of_length_eq_zero ((nI_eq (b := 0) (by have := hp4.1; omega) (by omega)).mp (by rw [← h427]; exact c45))
                    refine vx_go hC hFt hini (vx_ends hC hr hlk) jc_Mo_ranged 49 (by decide) rfl ?_
                    refine And.intro (trivial) (And.intro ?_ (And.intro (Nat.le_refl _) (Nat.le_refl _)))
                    have hv : (rgS (yrN N + 50) me tx r9) = (416, []) := by
                      rw [rgS, if_neg (fun z => z c2), if_neg (by rw [c10]; exact fun z => by cases z), hA]
                      show (if 4 < A.length then _ else _) = _
                      rw [if_neg c17]
                      rw [if_neg (by rw [c37]; exact fun z => by cases z), if_pos c45]
                    rw [hv]
                    exact ⟨rfl, s4, a4, rfl, hg4, ha4, (by rw [h427, c45]), paA_nil⟩
                · skip
                  have c37 : ovl (A.filterMap (rsv r9.2.2.1)) = true := bI_ne c37
                  refine And.intro rfl (And.intro (And.intro rfl rfl) ?_)
                  refine And.intro (trivial) (And.intro ?_ (And.intro (Nat.le_refl _) (Nat.le_refl _)))
                  have hv : (rgS (yrN N + 50) me tx r9) = (200, []) := by
                    rw [rgS, if_neg (fun z => z c2), if_neg (by rw [c10]; exact fun z => by cases z), hA]
                    show (if 4 < A.length then _ else _) = _
                    rw [if_neg c17]
                    exact if_pos c37
                  rw [hv]
                  exact ⟨rfl, upd s4 27 0, a4, rfl, hg4.upd, ha4, pk_us, paA_nil⟩
              · skip
                have c25 : ¬ A.length ≤ k := fun z => c25 (by rw [h420]; exact (nI_leI (by omega) (by omega)).mpr z)
                obtain ⟨u, hu⟩ : ∃ u, A[k]? = some u := ⟨_, List.getElem?_eq_getElem (by omega)⟩
                have hub := rngL_b hA u (List.mem_of_getElem? hu)
                refine And.intro rfl ?_
                replace hPC : ((A.take k).filterMap (rsv r9.2.2.1)).length < 4 := by omega
                refine And.intro rfl (And.intro rfl (And.intro (vp_in_nI hi4 (by decide)) ?_))
                rw [nI_clamp (by omega), ha4 3 (by decide), hr9.2.2.2.1]
                refine mo_call hC (c_Mo_resolve l D tys tc hty h ar now s4 a4 al k r9.2.2.1 ((A.take k).filterMap (rsv r9.2.2.1)).length u.1 u.2 (by omega) (hs4 k u hu).1 (hs4 k u hu).2 hub.1 hub.2 hr9.1.2.2.1 hPC h427) wm_Mo_resolve wl_Mo_332 wi_Mo_resolve ws_Mo_Mo_resolve ⟨by decide, by decide⟩ rfl rfl (Nat.le_of_ble_eq_true rfl) ⟨Nat.zero_le _, Nat.zero_le _⟩ (fun r' w1 hp => ?_)
                obtain ⟨rfl, s5, a5, rfl, hno, hyes⟩ := hp
                refine Vx.subL (lv' := [(0, .ref h), (1, .int (nI i)), (2, .int (nI k + 1))]) [1, 2, 0] rfl ?_
                rw [nI_1]
                cases hv : rsv r9.2.2.1 u with
                | none =>
                  obtain ⟨rfl, rfl⟩ := hno hv
                  have e1 : ((A.take (k + 1)).filterMap (rsv r9.2.2.1)) = ((A.take k).filterMap (rsv r9.2.2.1)) := by rw [fm_take hu, hv]; exact List.append_nil _
                  exact ih (A.length - (k + 1)) (by omega) (k + 1) s5 a5 hg4 ha4 h420 hs4 (by rw [e1]; exact h427) (by rw [e1]; exact hp4) (by omega) rfl
                | some v =>
                  obtain ⟨rfl, rfl⟩ := hyes v hv
                  obtain ⟨v1, v2⟩ := rsv_ok hv
                  have e1 : ((A.take (k + 1)).filterMap (rsv r9.2.2.1)) = ((A.take k).filterMap (rsv r9.2.2.1)) ++ [v] := by rw [fm_take hu, hv]
                  exact ih (A.length - (k + 1)) (by omega) (k + 1) _ _ hg4.upd (fun j hj => (show ap (ap a4 11 _) 12 _ j = a4 j from (ap_n (by omega)).trans (ap_n (by omega))).trans (ha4 j hj)) ((pk_un (by decide)).trans h420) (hs4.fr rfl rfl) (by rw [e1, List.length_append]; exact pk_us) (by rw [e1]; exact paA_add hp4 hPC v1 (by have := hr9.1.2.2.1; omega)) (by omega) rfl
          · skip
            have c17 : 4 < A.length := Nat.lt_of_not_le (fun z => c17 (by rw [h320]; exact (nI_leI (b := 4) (by omega) (by omega)).mpr z))
            refine And.intro (trivial) (And.intro ?_ (And.intro (Nat.le_refl _) (Nat.le_refl _)))
            have hv : (rgS (yrN N + 50) me tx r9) = (200, []) := by
              rw [rgS, if_neg (fun z => z c2), if_neg (by rw [c10]; exact fun z => by cases z), hA]; exact if_pos c17
            rw [hv]
            exact ⟨rfl, s3, a3, rfl, (hg2.rq.trans hg3.rq), ha3.ra9, ((hg3 27 (by decide)).trans ((hg2 27 (by decide)).trans h27)), paA_nil⟩
theorem getD_rp {rp : List Rp} {i : Nat} {r : Rp} (h : rp[i]? = some r) : rp.getD i (0, 0, 0, 0, false, 0) = r := by rw [List.getD_eq_getElem?_getD, h]; rfl
def anN (v : Option (Nat × Rp)) : Option (Nat × Nat) := v.map (fun u => (u.1, u.2.2.2.1))
theorem cnS_le {ly : Nat} {tx : Nat → List Nat} {r : Rp} : cnS ly tx r ≤ 412 := by unfold cnS; split; omega; split <;> omega
set_option maxRecDepth 100000 in
set_option maxHeartbeats 4000000 in
theorem c_Mo_decide (l : Launch) (D : va_G) (tys : List (ClassId × FieldType)) (tc : Nat → ClassId) (hty : ∀ i : Nat, i < 4 → tys[i]? = some (tc i, vx_ty i)) (h : Nat) (ar : Nat → Nat) (now : Int64) (sc : Nat → Int32) (ai : Nat → Nat → Int32) (al : Nat → Nat → Int64) (N : Nat) (rp : List Rp) (me : Int32) (tx : Nat → List Nat) (hR : mdR now sc ai al N rp me tx) (h24 : sc 24 = -1) (h25 : sc 25 = nI 0) (h27 : sc 27 = nI 0) : Kt l y_Mo_decide (yw y_Mo_decide b_Mo_decide 3 (some .int)) 9 206 0 0 D cls tys (fun _ _ _ => True) [.ref h] (mdW tc h ar now sc ai al) (fun r w => r = some (.int (nI (dcS (yrN N + 50) rp me tx).1)) ∧ ∃ s2 a2, w = mdW tc h ar now s2 a2 al ∧ (∀ k, k < 11 ∨ k = 23 ∨ k = 26 → s2 k = sc k) ∧ ra9 ai a2 ∧ s2 24 = iI ((anN (dcS (yrN N + 50) rp me tx).2.1).map Prod.fst) ∧ s2 25 = nI (((anN (dcS (yrN N + 50) rp me tx).2.1).map Prod.snd).getD 0) ∧ s2 27 = nI (dcS (yrN N + 50) rp me tx).2.2.length ∧ paA a2 (dcS (yrN N + 50) rp me tx).2.2) := by
  refine Kt.of ro_true (by decide) rfl hty (Nat.le_of_ble_eq_true rfl) ?_
  intro p e s m args below meth c0 A hC hr hlk hnm hF
  have hFt : vx_Ft y_Mo_decide.cls (yw y_Mo_decide b_Mo_decide 3 (some .int)) cls cty ft_Mo := ft_of (fun w h => List.mem_cons_of_mem _ h) fl_Mo_in ft_Mo_b
  have hini : false = true → meth.name = "<init>" := fun h => by cases h
  obtain ⟨hN, hnow, hWd, hrp, h1c, h8m, hx⟩ := id hR
  have hrl := hrp.1
  refine vx_go hC hFt hini (vx_ends hC hr hlk) jc_Mo_decide 0 (by decide) rfl ?_
  refine And.intro rfl ?_
  refine And.intro (fun c2 => ?_) (fun c2 => ?_)
  · skip
    have c2 : me < 0 := by rw [← h8m]; exact c2
    refine vx_go hC hFt hini (vx_ends hC hr hlk) jc_Mo_decide 7 (by decide) rfl ?_
    refine And.intro (trivial) (And.intro ?_ (And.intro (Nat.le_refl _) (Nat.le_refl _)))
    have hv : (dcS (yrN N + 50) rp me tx) = (501, none, []) := if_pos (Or.inl c2)
    rw [hv]
    exact ⟨rfl, sc, ai, rfl, fun _ _ => rfl, fun _ _ => rfl, h24, h25, h27, paA_nil⟩
  · skip
    have c2 : ¬ me < 0 := by rw [← h8m]; exact c2
    refine And.intro rfl ?_
    refine And.intro (fun c6 => ?_) (fun c6 => ?_)
    · skip
      have c6 : me ≤ 2 := by rw [← h8m]; exact c6
      refine vx_go hC hFt hini (vx_ends hC hr hlk) jc_Mo_decide 9 (by decide) rfl ?_
      refine And.intro rfl ?_
      refine And.intro (fun c11 => ?_) (fun c11 => ?_)
      · skip
        have c11 : ¬ rp = [] := fun z => c11 (by rw [h1c, z]; rfl)
        refine vx_go hC hFt hini (vx_ends hC hr hlk) jc_Mo_decide 14 (by decide) rfl ?_
        refine And.intro rfl ?_
        refine And.intro (fun c17 => ?_) (fun c17 => ?_)
        · skip
          have c17 : ¬ me = 2 := by rw [← h8m]; exact c17
          refine vx_go hC hFt hini (vx_ends hC hr hlk) jc_Mo_decide 20 (by decide) rfl ?_
          refine mo_call hC (c_Mo_chosenOne l D tys tc hty h ar now sc ai al N rp me tx hR) wm_Mo_chosenOne wl_Mo_339 wi_Mo_chosenOne ws_Mo_Mo_chosenOne ⟨by decide, by decide⟩ rfl rfl (Nat.le_of_ble_eq_true rfl) ⟨Nat.zero_le _, Nat.zero_le _⟩ (fun r' w1 hp => ?_)
          obtain ⟨rfl, s2, rfl, hg2⟩ := hp
          refine And.intro (fun c24 => ?_) (fun c24 => ?_)
          · skip
            obtain ⟨i, c24⟩ : ∃ i, chS tx rp = some i := by
              cases h9 : chS tx rp with
              | none => rw [h9] at c24; exact absurd c24 (by decide)
              | some i => exact ⟨i, rfl⟩
            have hil := chS_lt c24
            obtain ⟨r9, hi⟩ : ∃ r9, rp[i]? = some r9 := ⟨_, List.getElem?_eq_getElem hil⟩
            have hr9 := hrp.2 i r9 hi
            have hi4 : i < 4 := by omega
            rw [c24, show iI (some i) = nI i from rfl]
            refine vx_go hC hFt hini (vx_ends hC hr hlk) jc_Mo_decide 27 (by decide) rfl ?_
            refine And.intro rfl (And.intro (And.intro rfl rfl) ?_)
            refine And.intro rfl ?_
            refine And.intro rfl (And.intro rfl (And.intro (vp_in_nI hi4 (by decide)) ?_))
            rw [nI_clamp (by omega), hr9.2.2.2.1]
            refine And.intro rfl (And.intro (And.intro rfl rfl) ?_)
            refine mo_call hC (c_Mo_conditions l D tys tc hty h ar now (upd (upd s2 24 (nI i)) 25 (nI r9.2.2.1)) ai al N rp me tx ((hR.gq hg2).fr rfl rfl (fun _ _ => rfl)) i r9 hi) wm_Mo_conditions wl_Mo_345 wi_Mo_conditions ws_Mo_Mo_conditions ⟨by decide, by decide⟩ rfl rfl (Nat.le_of_ble_eq_true rfl) ⟨Nat.zero_le _, Nat.zero_le _⟩ (fun r' w1 hp => ?_)
            obtain ⟨rfl, s3, rfl, hg3⟩ := hp
            have hcl := cnS_le (ly := yrN N + 50) (tx := tx) (r := r9)
            refine And.intro (fun c41 => ?_) (fun c41 => ?_)
            · skip
              have c41 : ¬ 0 < cnS (yrN N + 50) tx r9 := fun z => absurd c41 (nI_nle z (by omega))
              refine vx_go hC hFt hini (vx_ends hC hr hlk) jc_Mo_decide 44 (by decide) rfl ?_
              refine mo_call hC (c_Mo_ranged l D tys tc hty h ar now s3 ai al N rp me tx (((hR.gq hg2).fr (s2 := upd (upd s2 24 (nI i)) 25 (nI r9.2.2.1)) rfl rfl (fun _ _ => rfl)).gq hg3) i r9 hi ((hg3 27 (by decide)).trans ((hg2 27 (by decide)).trans h27))) wm_Mo_ranged wl_Mo_348 wi_Mo_ranged ws_Mo_Mo_ranged ⟨by decide, by decide⟩ rfl rfl (Nat.le_of_ble_eq_true rfl) ⟨Nat.zero_le _, Nat.zero_le _⟩ (fun r' w1 hp => ?_)
              obtain ⟨rfl, s4, a4, rfl, hg4, ha4, h427, hp4⟩ := hp
              refine And.intro (trivial) (And.intro ?_ (And.intro (Nat.le_refl _) (Nat.le_refl _)))
              have hv : (dcS (yrN N + 50) rp me tx) = ((rgS (yrN N + 50) me tx r9).1, some (i, r9), (rgS (yrN N + 50) me tx r9).2) := by
                rw [dcS, if_neg (fun z => z.elim c2 (fun y => Int32.not_lt.mpr c6 y)), if_neg c11, if_neg c17, c24]
                show (if 0 < cnS _ tx (rp.getD i (0, 0, 0, 0, false, 0)) then _ else _, _, _) = _
                rw [getD_rp hi, if_neg c41, if_neg c41]
              rw [hv]
              exact ⟨rfl, s4, a4, rfl, fun k hk => (hg4 k (by omega)).trans ((hg3 k (by omega)).trans ((pk_un (by omega)).trans ((pk_un (by omega)).trans (hg2 k (by omega))))), ha4, (hg4 24 (by decide)).trans ((hg3 24 (by decide)).trans rfl), (hg4 25 (by decide)).trans ((hg3 25 (by decide)).trans rfl), h427, hp4⟩
            · skip
              have c41 : 0 < cnS (yrN N + 50) tx r9 := Nat.pos_of_ne_zero (fun z => c41 (by rw [z]; exact nI_le (Nat.le_refl 0) (by decide)))
              refine vx_go hC hFt hini (vx_ends hC hr hlk) jc_Mo_decide 47 (by decide) rfl ?_
              refine And.intro (trivial) (And.intro ?_ (And.intro (Nat.le_refl _) (Nat.le_refl _)))
              have hv : (dcS (yrN N + 50) rp me tx) = (cnS (yrN N + 50) tx r9, some (i, r9), []) := by
                rw [dcS, if_neg (fun z => z.elim c2 (fun y => Int32.not_lt.mpr c6 y)), if_neg c11, if_neg c17, c24]
                show (if 0 < cnS _ tx (rp.getD i (0, 0, 0, 0, false, 0)) then _ else _, _, _) = _
                rw [getD_rp hi, if_pos c41, if_pos c41]
              rw [hv]
              exact ⟨rfl, s3, ai, rfl, fun k hk => (hg3 k (by omega)).trans ((pk_un (by omega)).trans ((pk_un (by omega)).trans (hg2 k (by omega)))), fun _ _ => rfl, (hg3 24 (by decide)).trans rfl, (hg3 25 (by decide)).trans rfl, (hg3 27 (by decide)).trans ((hg2 27 (by decide)).trans h27), paA_nil⟩
          · skip
            have c24 : chS tx rp = none := by
              cases h9 : chS tx rp with
              | none => rfl
              | some i => rw [h9] at c24; have := chS_lt h9; exact absurd (nI_ge0 (by omega)) c24
            refine And.intro (trivial) (And.intro ?_ (And.intro (Nat.le_refl _) (Nat.le_refl _)))
            have hv : (dcS (yrN N + 50) rp me tx) = (406, none, []) := by rw [dcS, if_neg (fun z => z.elim c2 (fun y => Int32.not_lt.mpr c6 y)), if_neg c11, if_neg c17, c24]
            rw [hv]
            exact ⟨rfl, s2, ai, rfl, fun k hk => hg2 k (by omega), fun _ _ => rfl, (hg2 24 (by decide)).trans h24, (hg2 25 (by decide)).trans h25, (hg2 27 (by decide)).trans h27, paA_nil⟩
        · skip
          have c17 : me = 2 := by rw [← h8m]; exact c17
          refine And.intro (trivial) (And.intro ?_ (And.intro (Nat.le_refl _) (Nat.le_refl _)))
          have hv : (dcS (yrN N + 50) rp me tx) = (204, none, []) := by rw [dcS, if_neg (fun z => z.elim c2 (fun y => Int32.not_lt.mpr c6 y)), if_neg c11, if_pos c17]
          rw [hv]
          exact ⟨rfl, sc, ai, rfl, fun _ _ => rfl, fun _ _ => rfl, h24, h25, h27, paA_nil⟩
      · skip
        have c11 : rp = [] := List.eq_nil_of_length_eq_zero ((nI_eq (b := 0) (by omega) (by omega)).mp (by rw [← h1c]; exact c11))
        refine And.intro (trivial) (And.intro ?_ (And.intro (Nat.le_refl _) (Nat.le_refl _)))
        have hv : (dcS (yrN N + 50) rp me tx) = (404, none, []) := by rw [dcS, if_neg (fun z => z.elim c2 (fun y => Int32.not_lt.mpr c6 y)), if_pos c11]
        rw [hv]
        exact ⟨rfl, sc, ai, rfl, fun _ _ => rfl, fun _ _ => rfl, h24, h25, h27, paA_nil⟩
    · skip
      have c6 : ¬ me ≤ 2 := by rw [← h8m]; exact c6
      refine And.intro (trivial) (And.intro ?_ (And.intro (Nat.le_refl _) (Nat.le_refl _)))
      have hv : (dcS (yrN N + 50) rp me tx) = (501, none, []) := if_pos (Or.inr (Int32.not_le.mp c6))
      rw [hv]
      exact ⟨rfl, sc, ai, rfl, fun _ _ => rfl, fun _ _ => rfl, h24, h25, h27, paA_nil⟩
/-- the reference holds this answer: status, number and size of the one chosen, whether the head alone, parts -/
def mdA (sc : Nat → Int32) (ai : Nat → Nat → Int32) (st : Int32) (an : Option (Nat × Nat)) (ho : Bool) (pa : List (Nat × Nat)) : Prop := sc 23 = st ∧ sc 24 = iI (an.map Prod.fst) ∧ sc 25 = nI ((an.map Prod.snd).getD 0) ∧ sc 26 = bI ho ∧ sc 27 = nI pa.length ∧ paA ai pa
/-- what goes together in an answer -/
def anOk (st : Int32) (an : Option (Nat × Nat)) (pa : List (Nat × Nat)) : Prop := (an = none → pa = [] ∧ st ≠ 200) ∧ (st = 206 ↔ pa ≠ []) ∧ (∀ u, an = some u → u.1 < 4 ∧ u.2 ≤ 100000) ∧ pa.length ≤ 4 ∧ ∀ i, i < pa.length → (pa.getD i (0, 0)).1 ≤ (pa.getD i (0, 0)).2 ∧ (pa.getD i (0, 0)).2 < 100000
theorem rgS_ok {ly : Nat} {me : Int32} {tx : Nat → List Nat} {r : Rp} : ((rgS ly me tx r).1 = 206 ∧ (rgS ly me tx r).2 ≠ []) ∨ (((rgS ly me tx r).1 = 200 ∨ (rgS ly me tx r).1 = 416) ∧ (rgS ly me tx r).2 = []) := by
  unfold rgS
  split
  · exact Or.inr ⟨Or.inl rfl, rfl⟩
  · split
    · exact Or.inr ⟨Or.inl rfl, rfl⟩
    · split
      · exact Or.inr ⟨Or.inl rfl, rfl⟩
      · split
        · exact Or.inr ⟨Or.inl rfl, rfl⟩
        · split
          · exact Or.inr ⟨Or.inl rfl, rfl⟩
          · split
            · exact Or.inr ⟨Or.inr rfl, rfl⟩
            · rename_i h; exact Or.inl ⟨rfl, h⟩
theorem cnS_v {ly : Nat} {tx : Nat → List Nat} {r : Rp} : cnS ly tx r = 412 ∨ cnS ly tx r = 304 ∨ cnS ly tx r = 0 := by
  unfold cnS
  split
  · exact Or.inl rfl
  · split
    · exact Or.inr (Or.inl rfl)
    · exact Or.inr (Or.inr rfl)
theorem dcS_ok {ly : Nat} {rp : List Rp} {me : Int32} {tx : Nat → List Nat} {a : Nat → Nat → Int32} (hrp : rp.length ≤ 4 ∧ ∀ r ∈ rp, rpOk r) (hpa : paA a (dcS ly rp me tx).2.2) : anOk (nI (dcS ly rp me tx).1) (anN (dcS ly rp me tx).2.1) (dcS ly rp me tx).2.2 ∧ (dcS ly rp me tx).1 ≤ 501 := by
  have hfin : ∀ {st : Nat} {an : Option (Nat × Nat)} {pa : List (Nat × Nat)}, paA a pa → ((an = none → pa = [] ∧ nI st ≠ 200) ∧ (nI st = 206 ↔ pa ≠ []) ∧ (∀ u, an = some u → u.1 < 4 ∧ u.2 ≤ 100000)) → anOk (nI st) an pa := fun h1 h2 => ⟨h2.1, h2.2.1, h2.2.2, h1.1, fun i hi => (h1.2 i hi).2.2⟩
  unfold dcS at hpa ⊢
  split at hpa
  · rename_i h; rw [if_pos h]; exact ⟨hfin hpa ⟨fun _ => ⟨rfl, by decide⟩, ⟨fun z => absurd z (by decide), fun z => absurd rfl z⟩, fun u hu => by cases hu⟩, by decide⟩
  · rename_i h
    rw [if_neg h]
    split at hpa
    · rename_i h; rw [if_pos h]; exact ⟨hfin hpa ⟨fun _ => ⟨rfl, by decide⟩, ⟨fun z => absurd z (by decide), fun z => absurd rfl z⟩, fun u hu => by cases hu⟩, by decide⟩
    · rename_i h
      rw [if_neg h]
      split at hpa
      · rename_i h; rw [if_pos h]; exact ⟨hfin hpa ⟨fun _ => ⟨rfl, by decide⟩, ⟨fun z => absurd z (by decide), fun z => absurd rfl z⟩, fun u hu => by cases hu⟩, by decide⟩
      · rename_i h
        rw [if_neg h]
        cases hc : chS tx rp with
        | none =>
          rw [hc] at hpa
          simp only [] at hpa ⊢
          exact ⟨hfin hpa ⟨fun _ => ⟨rfl, by decide⟩, ⟨fun z => absurd z (by decide), fun z => absurd rfl z⟩, fun u hu => by cases hu⟩, by decide⟩
        | some i =>
          rw [hc] at hpa
          have hil := chS_lt hc
          obtain ⟨r9, hi⟩ : ∃ r9, rp[i]? = some r9 := ⟨_, List.getElem?_eq_getElem hil⟩
          have hok := hrp.2 r9 (List.mem_of_getElem? hi)
          simp only [] at hpa ⊢
          rw [getD_rp hi] at hpa ⊢
          have hb : ∀ u, anN (some (i, r9)) = some u → u.1 < 4 ∧ u.2 ≤ 100000 := fun u hu => by obtain rfl := Option.some.inj hu; exact ⟨by show i < 4; omega, hok.2.2.1⟩
          by_cases hz : 0 < cnS ly tx r9
          · rw [if_pos hz] at hpa
            rw [if_pos hz, if_pos hz]
            refine ⟨hfin hpa ⟨(fun z => by cases z), ?_, hb⟩, ?_⟩
            · rcases cnS_v (ly := ly) (tx := tx) (r := r9) with e | e | e
              · rw [e]; exact ⟨fun z => absurd z (by decide), fun z => absurd rfl z⟩
              · rw [e]; exact ⟨fun z => absurd z (by decide), fun z => absurd rfl z⟩
              · omega
            · have := cnS_le (ly := ly) (tx := tx) (r := r9); omega
          · rw [if_neg hz] at hpa
            rw [if_neg hz, if_neg hz]
            rcases rgS_ok (ly := ly) (me := me) (tx := tx) (r := r9) with ⟨e1, e2⟩ | ⟨e1, e2⟩
            · exact ⟨hfin hpa ⟨(fun z => by cases z), by rw [e1]; exact ⟨fun _ => e2, fun _ => rfl⟩, hb⟩, by rw [e1]; decide⟩
            · refine ⟨hfin hpa ⟨(fun z => by cases z), ?_, hb⟩, ?_⟩
              · rw [e2]
                rcases e1 with e1 | e1
                · rw [e1]; exact ⟨fun z => absurd z (by decide), fun z => absurd rfl z⟩
                · rw [e1]; exact ⟨fun z => absurd z (by decide), fun z => absurd rfl z⟩
              · rcases e1 with e1 | e1 <;> rw [e1] <;> decide
set_option maxRecDepth 100000 in
set_option maxHeartbeats 4000000 in
theorem c_Mo_respond (l : Launch) (D : va_G) (tys : List (ClassId × FieldType)) (tc : Nat → ClassId) (hty : ∀ i : Nat, i < 4 → tys[i]? = some (tc i, vx_ty i)) (h : Nat) (ar : Nat → Nat) (now : Int64) (sc : Nat → Int32) (ai : Nat → Nat → Int32) (al : Nat → Nat → Int64) (N : Nat) (rp : List Rp) (me : Int32) (tx : Nat → List Nat) (hR : mdR now sc ai al N rp me tx) : Kt l y_Mo_respond (yw y_Mo_respond b_Mo_respond 1 (some .int)) 10 228 0 0 D cls tys (fun _ _ _ => True) [.ref h] (mdW tc h ar now sc ai al) (fun r w => r = some (.int (nI (dcS (yrN N + 50) rp me tx).1)) ∧ ∃ s2 a2, w = mdW tc h ar now s2 a2 al ∧ mdR now s2 a2 al N rp me tx ∧ mdA s2 a2 (nI (dcS (yrN N + 50) rp me tx).1) (anN (dcS (yrN N + 50) rp me tx).2.1) (decide (me = 1)) (dcS (yrN N + 50) rp me tx).2.2 ∧ anOk (nI (dcS (yrN N + 50) rp me tx).1) (anN (dcS (yrN N + 50) rp me tx).2.1) (dcS (yrN N + 50) rp me tx).2.2) := by
  refine Kt.of ro_true (by decide) rfl hty (Nat.le_of_ble_eq_true rfl) ?_
  intro p e s m args below meth c0 A hC hr hlk hnm hF
  have hFt : vx_Ft y_Mo_respond.cls (yw y_Mo_respond b_Mo_respond 1 (some .int)) cls cty ft_Mo := ft_of (fun w h => List.mem_cons_of_mem _ h) fl_Mo_in ft_Mo_b
  have hini : false = true → meth.name = "<init>" := fun h => by cases h
  obtain ⟨hN, hnow, hWd, hrp, h1c, h8m, hx⟩ := id hR
  refine vx_go hC hFt hini (vx_ends hC hr hlk) jc_Mo_respond 0 (by decide) rfl ?_
  refine And.intro rfl (And.intro (And.intro rfl rfl) ?_)
  refine And.intro rfl (And.intro (And.intro rfl rfl) ?_)
  refine And.intro rfl (And.intro (And.intro rfl rfl) ?_)
  refine And.intro rfl ?_
  refine And.intro (fun c13 => ?_) (fun c13 => ?_)
  · skip
    have c13 : ¬ me = 1 := by rw [← h8m]; exact c13
    refine vx_go hC hFt hini (vx_ends hC hr hlk) jc_Mo_respond 16 (by decide) rfl ?_
    refine And.intro rfl (And.intro (And.intro rfl rfl) ?_)
    refine mo_call hC (c_Mo_decide l D tys tc hty h ar now (upd (upd (upd (upd sc 24 (-1)) 25 (nI 0)) 27 (nI 0)) 26 (bI false)) ai al N rp me tx (hR.fr rfl rfl (fun _ _ => rfl)) rfl rfl rfl) wm_Mo_decide wl_Mo_354 wi_Mo_decide ws_Mo_Mo_decide ⟨by decide, by decide⟩ rfl rfl (Nat.le_of_ble_eq_true rfl) ⟨Nat.zero_le _, Nat.zero_le _⟩ (fun r' w1 hp => ?_)
    obtain ⟨rfl, s2, a2, rfl, hg2, ha2, h224, h225, h227, hp2⟩ := hp
    refine And.intro rfl (And.intro (And.intro rfl rfl) ?_)
    refine And.intro rfl ?_
    refine And.intro (trivial) (And.intro ?_ (And.intro (Nat.le_refl _) (Nat.le_refl _)))
    have hok := dcS_ok (ly := yrN N + 50) (rp := rp) (me := me) (tx := tx) ⟨hrp.1, fun r hr => by
      obtain ⟨j, hj⟩ := List.getElem?_of_mem hr
      exact (hrp.2 j r hj).1⟩ hp2
    refine ⟨rfl, upd s2 23 (nI (dcS (yrN N + 50) rp me tx).1), a2, rfl, hR.fr (by rw [pk_un (by decide), hg2 1 (by decide)]; rfl) (by rw [pk_un (by decide), hg2 8 (by decide)]; rfl) ha2, ⟨pk_us, h224, h225, ?_, h227, hp2⟩, hok.1⟩
    rw [pk_un (by decide), hg2 26 (by decide), decide_eq_false c13]
    rfl
  · skip
    have c13 : me = 1 := by rw [← h8m]; exact c13
    refine vx_go hC hFt hini (vx_ends hC hr hlk) jc_Mo_respond 17 (by decide) rfl ?_
    refine And.intro rfl (And.intro (And.intro rfl rfl) ?_)
    refine mo_call hC (c_Mo_decide l D tys tc hty h ar now (upd (upd (upd (upd sc 24 (-1)) 25 (nI 0)) 27 (nI 0)) 26 (bI true)) ai al N rp me tx (hR.fr rfl rfl (fun _ _ => rfl)) rfl rfl rfl) wm_Mo_decide wl_Mo_354 wi_Mo_decide ws_Mo_Mo_decide ⟨by decide, by decide⟩ rfl rfl (Nat.le_of_ble_eq_true rfl) ⟨Nat.zero_le _, Nat.zero_le _⟩ (fun r' w1 hp => ?_)
    obtain ⟨rfl, s2, a2, rfl, hg2, ha2, h224, h225, h227, hp2⟩ := hp
    refine And.intro rfl (And.intro (And.intro rfl rfl) ?_)
    refine And.intro rfl ?_
    refine And.intro (trivial) (And.intro ?_ (And.intro (Nat.le_refl _) (Nat.le_refl _)))
    have hok := dcS_ok (ly := yrN N + 50) (rp := rp) (me := me) (tx := tx) ⟨hrp.1, fun r hr => by
      obtain ⟨j, hj⟩ := List.getElem?_of_mem hr
      exact (hrp.2 j r hj).1⟩ hp2
    refine ⟨rfl, upd s2 23 (nI (dcS (yrN N + 50) rp me tx).1), a2, rfl, hR.fr (by rw [pk_un (by decide), hg2 1 (by decide)]; rfl) (by rw [pk_un (by decide), hg2 8 (by decide)]; rfl) ha2, ⟨pk_us, h224, h225, ?_, h227, hp2⟩, hok.1⟩
    rw [pk_un (by decide), hg2 26 (by decide), decide_eq_true c13]
    rfl
