/-! THE CLASS: its constants, Accept, by program (wip/whole/gen/p62.py) -/
def KLs : List (String × Nat × String × List Nat) := [("OriginDesk$Reader", 62, tokS, tokL), ("OriginDesk", 173, "", []), ("OriginDesk$Accept", 42, "*", [42]), ("OriginDesk$Accept", 80, "q", [113]), ("OriginDesk$Dates", 26, "SunMonTueWedThuFriSat", [83, 117, 110, 77, 111, 110, 84, 117, 101, 87, 101, 100, 84, 104, 117, 70, 114, 105, 83, 97, 116]), ("OriginDesk$Dates", 78, " GMT", [32, 71, 77, 84]), ("OriginDesk$Dates", 80, ", ", [44, 32]), ("OriginDesk$Dates", 88, "sday", [115, 100, 97, 121]), ("OriginDesk$Dates", 90, "nesday", [110, 101, 115, 100, 97, 121]), ("OriginDesk$Dates", 92, "rsday", [114, 115, 100, 97, 121]), ("OriginDesk$Dates", 94, "urday", [117, 114, 100, 97, 121]), ("OriginDesk$Dates", 96, "day", [100, 97, 121]), ("OriginDesk$Dates", 104, "JanFebMarAprMayJunJulAugSepOctNovDec", [74, 97, 110, 70, 101, 98, 77, 97, 114, 65, 112, 114, 77, 97, 121, 74, 117, 110, 74, 117, 108, 65, 117, 103, 83, 101, 112, 79, 99, 116, 78, 111, 118, 68, 101, 99]), ("OriginDesk$Languages", 51, "*", [42]), ("OriginDesk$Ranges", 32, "bytes", [98, 121, 116, 101, 115]), ("OriginDesk$Response", 70, "--PART--\r\n", [45, 45, 80, 65, 82, 84, 45, 45, 13, 10]), ("OriginDesk$Response", 82, "\r\n", [13, 10]), ("OriginDesk$Response", 93, "--PART\r\nRange: ", [45, 45, 80, 65, 82, 84, 13, 10, 82, 97, 110, 103, 101, 58, 32]), ("OriginDesk$Response", 105, "\r\n\r\n", [13, 10, 13, 10]), ("OriginDesk$Tags", 52, "W/", [87, 47])]
/-- a media type, a language: only read -/
def tyF (a kd : Nat) : (Nat → Prop) → State → Heap → Prop := fun A U H => ∃ a1 a2 a3 a4 : Nat, (va_OF "OriginDesk$MediaType" "main" "Ljava/lang/String;" (.ref a1) a A U H ∧ tF a1 (mnL kd) A U H) ∧ (va_OF "OriginDesk$MediaType" "sub" "Ljava/lang/String;" (.ref a2) a A U H ∧ tF a2 (snL kd) A U H) ∧ (va_OF "OriginDesk$MediaType" "parameter" "Ljava/lang/String;" (.ref a3) a A U H ∧ tF a3 (pnL kd) A U H) ∧ (va_OF "OriginDesk$MediaType" "value" "Ljava/lang/String;" (.ref a4) a A U H ∧ tF a4 (vnL kd) A U H)
def lgF (a wh : Nat) : (Nat → Prop) → State → Heap → Prop := fun A U H => ∃ a1 a2 : Nat, (va_OF "OriginDesk$Language" "code" "Ljava/lang/String;" (.ref a1) a A U H ∧ tF a1 (coL wh) A U H) ∧ (va_OF "OriginDesk$Language" "beginning" "Ljava/lang/String;" (.ref a2) a A U H ∧ tF a2 (beL wh) A U H)
theorem tyF_ro (a kd : Nat) : RO (tyF a kd) := by
  refine ⟨fun A u U H ha h => ?_, fun A U H H1 hq h => ?_, fun A B U H hAB h => ?_⟩
  · obtain ⟨a1, a2, a3, a4, ⟨g1, k1⟩, ⟨g2, k2⟩, ⟨g3, k3⟩, ⟨g4, k4⟩⟩ := h
    exact ⟨a1, a2, a3, a4, ⟨g1.moved ha.alike, (tF_ro _ _).1 _ _ _ _ ha k1⟩, ⟨g2.moved ha.alike, (tF_ro _ _).1 _ _ _ _ ha k2⟩, ⟨g3.moved ha.alike, (tF_ro _ _).1 _ _ _ _ ha k3⟩, ⟨g4.moved ha.alike, (tF_ro _ _).1 _ _ _ _ ha k4⟩⟩
  · obtain ⟨a1, a2, a3, a4, ⟨g1, k1⟩, ⟨g2, k2⟩, ⟨g3, k3⟩, ⟨g4, k4⟩⟩ := h
    exact ⟨a1, a2, a3, a4, ⟨g1.kept hq, (tF_ro _ _).2.1 _ _ _ _ hq k1⟩, ⟨g2.kept hq, (tF_ro _ _).2.1 _ _ _ _ hq k2⟩, ⟨g3.kept hq, (tF_ro _ _).2.1 _ _ _ _ hq k3⟩, ⟨g4.kept hq, (tF_ro _ _).2.1 _ _ _ _ hq k4⟩⟩
  · obtain ⟨a1, a2, a3, a4, ⟨g1, k1⟩, ⟨g2, k2⟩, ⟨g3, k3⟩, ⟨g4, k4⟩⟩ := h
    exact ⟨a1, a2, a3, a4, ⟨g1.narrow hAB, (tF_ro _ _).2.2 _ _ _ _ hAB k1⟩, ⟨g2.narrow hAB, (tF_ro _ _).2.2 _ _ _ _ hAB k2⟩, ⟨g3.narrow hAB, (tF_ro _ _).2.2 _ _ _ _ hAB k3⟩, ⟨g4.narrow hAB, (tF_ro _ _).2.2 _ _ _ _ hAB k4⟩⟩
theorem lgF_ro (a wh : Nat) : RO (lgF a wh) := by
  refine ⟨fun A u U H ha h => ?_, fun A U H H1 hq h => ?_, fun A B U H hAB h => ?_⟩
  · obtain ⟨a1, a2, ⟨g1, k1⟩, ⟨g2, k2⟩⟩ := h
    exact ⟨a1, a2, ⟨g1.moved ha.alike, (tF_ro _ _).1 _ _ _ _ ha k1⟩, ⟨g2.moved ha.alike, (tF_ro _ _).1 _ _ _ _ ha k2⟩⟩
  · obtain ⟨a1, a2, ⟨g1, k1⟩, ⟨g2, k2⟩⟩ := h
    exact ⟨a1, a2, ⟨g1.kept hq, (tF_ro _ _).2.1 _ _ _ _ hq k1⟩, ⟨g2.kept hq, (tF_ro _ _).2.1 _ _ _ _ hq k2⟩⟩
  · obtain ⟨a1, a2, ⟨g1, k1⟩, ⟨g2, k2⟩⟩ := h
    exact ⟨a1, a2, ⟨g1.narrow hAB, (tF_ro _ _).2.2 _ _ _ _ hAB k1⟩, ⟨g2.narrow hAB, (tF_ro _ _).2.2 _ _ _ _ hAB k2⟩⟩
/-- the days of the months, the tables of types and languages: only read -/
def mdF : (Nat → Prop) → State → Heap → Prop := fun A U H => ∃ t : Nat, va_Z "OriginDesk$Dates" "MONTH_DAYS" "[I" (.ref t) A U H ∧ va_T .int t 12 (fun j => .int (nI ([31, 28, 31, 30, 31, 30, 31, 31, 30, 31, 30, 31].getD j 0))) A U H
def stF (K : Nat → Nat) : (Nat → Prop) → State → Heap → Prop := fun A U H => va_Z "OriginDesk$MediaType" "HTML" "LOriginDesk$MediaType;" (.ref (K 100)) A U H ∧ va_Z "OriginDesk$Language" "EN" "LOriginDesk$Language;" (.ref (K 200)) A U H ∧ va_Z "OriginDesk$Language" "NONE" "LOriginDesk$Language;" (.ref (K 205)) A U H ∧ (∃ t : Nat, va_Z "OriginDesk" "TYPES" "[LOriginDesk$MediaType;" (.ref t) A U H ∧ va_T (.object "OriginDesk$MediaType") t 6 (fun j => .ref (K (100 + j))) A U H) ∧ (∃ t : Nat, va_Z "OriginDesk" "TONGUES" "[LOriginDesk$Language;" (.ref t) A U H ∧ va_T (.object "OriginDesk$Language") t 6 (fun j => .ref (K (200 + j))) A U H) ∧ ∀ wh, wh < 5 → K (200 + wh) ≠ K 205
theorem mdF_ro : RO mdF := by
  refine ⟨fun A u U H ha h => ?_, fun A U H H1 hq h => ?_, fun A B U H hAB h => ?_⟩
  · obtain ⟨t, h1, h2⟩ := h; exact ⟨t, h1.moved ha.alike, h2.moved ha.alike⟩
  · obtain ⟨t, h1, h2⟩ := h; exact ⟨t, h1.kept hq, h2.kept hq⟩
  · obtain ⟨t, h1, h2⟩ := h; exact ⟨t, h1.narrow hAB, h2.narrow hAB⟩
theorem stF_ro (K : Nat → Nat) : RO (stF K) := by
  refine ⟨fun A u U H ha h => ?_, fun A U H H1 hq h => ?_, fun A B U H hAB h => ?_⟩
  · obtain ⟨h1, h2, h3, ⟨t, h4, h5⟩, ⟨t2, h6, h7⟩, h8⟩ := h
    exact ⟨h1.moved ha.alike, h2.moved ha.alike, h3.moved ha.alike, ⟨t, h4.moved ha.alike, h5.moved ha.alike⟩, ⟨t2, h6.moved ha.alike, h7.moved ha.alike⟩, h8⟩
  · obtain ⟨h1, h2, h3, ⟨t, h4, h5⟩, ⟨t2, h6, h7⟩, h8⟩ := h
    exact ⟨h1.kept hq, h2.kept hq, h3.kept hq, ⟨t, h4.kept hq, h5.kept hq⟩, ⟨t2, h6.kept hq, h7.kept hq⟩, h8⟩
  · obtain ⟨h1, h2, h3, ⟨t, h4, h5⟩, ⟨t2, h6, h7⟩, h8⟩ := h
    exact ⟨h1.narrow hAB, h2.narrow hAB, h3.narrow hAB, ⟨t, h4.narrow hAB, h5.narrow hAB⟩, ⟨t2, h6.narrow hAB, h7.narrow hAB⟩, h8⟩
def kcsF (K : Nat → Nat) : (Nat → Prop) → State → Heap → Prop := fun A U H => ∀ i q, KLs[i]? = some q → kcF q.1 q.2.1 q.2.2.1 (K i) q.2.2.2 A U H
def tysF (K : Nat → Nat) : (Nat → Prop) → State → Heap → Prop := fun A U H => ∀ kd, kd < 6 → tyF (K (100 + kd)) kd A U H
def lgsF (K : Nat → Nat) : (Nat → Prop) → State → Heap → Prop := fun A U H => ∀ wh, wh < 6 → lgF (K (200 + wh)) wh A U H
theorem kcsF_ro (K : Nat → Nat) : RO (kcsF K) := ⟨fun _ _ _ _ ha h i q hq => (kcF_ro _ _ _ _ _).1 _ _ _ _ ha (h i q hq), fun _ _ _ _ hz h i q hq => (kcF_ro _ _ _ _ _).2.1 _ _ _ _ hz (h i q hq), fun _ _ _ _ hz h i q hq => (kcF_ro _ _ _ _ _).2.2 _ _ _ _ hz (h i q hq)⟩
theorem tysF_ro (K : Nat → Nat) : RO (tysF K) := ⟨fun _ _ _ _ ha h i hi => (tyF_ro _ _).1 _ _ _ _ ha (h i hi), fun _ _ _ _ hz h i hi => (tyF_ro _ _).2.1 _ _ _ _ hz (h i hi), fun _ _ _ _ hz h i hi => (tyF_ro _ _).2.2 _ _ _ _ hz (h i hi)⟩
theorem lgsF_ro (K : Nat → Nat) : RO (lgsF K) := ⟨fun _ _ _ _ ha h i hi => (lgF_ro _ _).1 _ _ _ _ ha (h i hi), fun _ _ _ _ hz h i hi => (lgF_ro _ _).2.1 _ _ _ _ hz (h i hi), fun _ _ _ _ hz h i hi => (lgF_ro _ _).2.2 _ _ _ _ hz (h i hi)⟩
/-- what is never written: constant texts, media types, languages, tables; K: where they stand -/
def gF (K : Nat → Nat) : (Nat → Prop) → State → Heap → Prop := fun A U H => kcsF K A U H ∧ tysF K A U H ∧ lgsF K A U H ∧ mdF A U H ∧ stF K A U H
theorem gF_ro (K : Nat → Nat) : RO (gF K) := ro_and (kcsF_ro K) (ro_and (tysF_ro K) (ro_and (lgsF_ro K) (ro_and mdF_ro (stF_ro K))))
theorem isW_m (k : Nat) : isW (mnL k) ∧ isW (snL k) ∧ isW (pnL k) ∧ isW (vnL k) := by
  refine ⟨?_, ?_, ?_, ?_⟩
  · unfold mnL; split; exact ⟨by decide, by decide⟩; split; exact ⟨by decide, by decide⟩; exact ⟨by decide, by decide⟩
  · unfold snL; split; exact ⟨by decide, by decide⟩; split; exact ⟨by decide, by decide⟩; split; exact ⟨by decide, by decide⟩; split; exact ⟨by decide, by decide⟩; exact ⟨by decide, by decide⟩
  · unfold pnL; split; exact ⟨by decide, by decide⟩; exact ⟨by decide, by decide⟩
  · unfold vnL; split; exact ⟨by decide, by decide⟩; exact ⟨by decide, by decide⟩
/-- a media range's two tokens -/
def mrT (M S rs : List Nat) : Option (Bool × Nat × List Nat) :=
  if rs.takeWhile isTk = [] ∨ (pk 47 (rs.dropWhile isTk)).1 = false ∨ (pk 47 (rs.dropWhile isTk)).2.takeWhile isTk = [] ∨ (rs.takeWhile isTk ≠ [42] ∧ ss_star (rs.takeWhile isTk) = true) ∨ ((pk 47 (rs.dropWhile isTk)).2.takeWhile isTk ≠ [42] ∧ (rs.takeWhile isTk = [42] ∨ ss_star ((pk 47 (rs.dropWhile isTk)).2.takeWhile isTk) = true)) then none
  else some ((decide (rs.takeWhile isTk = [42]) || alikeL (rs.takeWhile isTk) M) && (decide ((pk 47 (rs.dropWhile isTk)).2.takeWhile isTk = [42]) || alikeL ((pk 47 (rs.dropWhile isTk)).2.takeWhile isTk) S), (if rs.takeWhile isTk = [42] then 0 else 1) + (if (pk 47 (rs.dropWhile isTk)).2.takeWhile isTk = [42] then 0 else 1), (pk 47 (rs.dropWhile isTk)).2.dropWhile isTk)
theorem mrg_T {M S P V rs : List Nat} : mrg M S P V rs = (match mrT M S rs with
    | none => none
    | some u => prm P V 97 u.1 u.2.1 u.2.2) := by
  unfold mrg mrT
  split <;> rfl
theorem tk_lt {rs T : List Nat} (hT : isT T) (hs : rs <:+ T) : (rs.takeWhile isTk).length ≤ 96 ∧ ∀ i, i < (rs.takeWhile isTk).length → (rs.takeWhile isTk).getD i 0 < 256 := by
  have h1 := (List.takeWhile_sublist (l := rs) isTk).length_le
  have h2 := sfx_le hs
  have h3 := hT.1
  refine ⟨by omega, fun i hi => ?_⟩
  rw [List.getD_eq_getElem?_getD, List.getElem?_eq_getElem hi]
  have h4 : (rs.takeWhile isTk)[i] ∈ rs := (List.takeWhile_sublist (l := rs) isTk).subset (List.getElem_mem hi)
  exact (hT.2 _ (hs.subset h4)).2
set_option maxRecDepth 100000 in
set_option maxHeartbeats 4000000 in
theorem c_Ac_weigh (l : Launch) (D : va_G) (tys : List (ClassId × FieldType)) (tc : Nat → ClassId) (hty : ∀ i : Nat, i < 4 → tys[i]? = some (tc i, vx_ty i)) (h ra sa : Nat) (T rs : List Nat) (sd : Nat → Int32) (ss : Nat) (hT : isT T) (hs : rs <:+ T) (K : Nat → Nat) (qu mo : Int32) (fi : Bool) (to we : Int32) : Kt l y_Ac_weigh (yw y_Ac_weigh b_Ac_weigh 1 none) 0 0 0 0 D cls tys (fun A U H => rdF ra T A U H ∧ gF K A U H) [.ref h] (rdW tc 0 h ra sa [.int (qu), .int (mo), .int (bI fi), .int (to), .int (we)] T rs sd ss) (fun r w => r = none ∧ w = (rdW tc 0 h ra sa [.int (if fi = true ∧ mo < to then we else qu), .int (if fi = true ∧ mo < to then to else mo), .int (bI fi), .int (to), .int (we)] T rs sd ss)) := by
  refine Kt.of (ro_and (rdF_ro ra T) (gF_ro K)) (by decide) rfl hty (Nat.le_of_ble_eq_true rfl) ?_
  intro p e s m args below meth c0 A hC hr hlk hnm hF
  have hFt : vx_Ft y_Ac_weigh.cls (yw y_Ac_weigh b_Ac_weigh 1 none) cls cty ft_Ac := ft_of (fun w h => List.mem_cons_of_mem _ h) fl_Ac_in ft_Ac_b
  have hini : false = true → meth.name = "<init>" := fun h => by cases h
  refine vx_go hC hFt hini (vx_ends hC hr hlk) jc_Ac_weigh 0 (by decide) rfl ?_
  refine And.intro rfl ?_
  refine And.intro (fun c2 => ?_) (fun c2 => ?_)
  · skip
    have c2 : fi = false := bI_eq c2
    refine vx_go hC hFt hini (vx_ends hC hr hlk) jc_Ac_weigh 16 (by decide) rfl ?_
    refine And.intro (trivial) (And.intro ?_ (And.intro (Nat.le_refl _) (Nat.le_refl _)))
    rw [if_neg (fun z => by rw [c2] at z; cases z.1), if_neg (fun z => by rw [c2] at z; cases z.1)]
    exact And.intro rfl rfl
  · skip
    have c2 : fi = true := bI_ne c2
    refine And.intro rfl ?_
    refine And.intro rfl ?_
    refine And.intro (fun c7 => ?_) (fun c7 => ?_)
    · skip
      refine vx_go hC hFt hini (vx_ends hC hr hlk) jc_Ac_weigh 16 (by decide) rfl ?_
      refine And.intro (trivial) (And.intro ?_ (And.intro (Nat.le_refl _) (Nat.le_refl _)))
      rw [if_neg (fun z => absurd c7 (Int32.not_le.mpr z.2)), if_neg (fun z => absurd c7 (Int32.not_le.mpr z.2))]
      exact And.intro rfl rfl
    · skip
      refine And.intro rfl ?_
      refine And.intro rfl (And.intro (And.intro rfl rfl) ?_)
      refine And.intro rfl ?_
      refine And.intro rfl (And.intro (And.intro rfl rfl) ?_)
      refine And.intro (trivial) (And.intro ?_ (And.intro (Nat.le_refl _) (Nat.le_refl _)))
      rw [if_pos ⟨c2, Int32.not_le.mp c7⟩, if_pos ⟨c2, Int32.not_le.mp c7⟩]
      exact And.intro rfl rfl
set_option maxRecDepth 100000 in
set_option maxHeartbeats 4000000 in
theorem c_Ac_readTokens (l : Launch) (D : va_G) (tys : List (ClassId × FieldType)) (tc : Nat → ClassId) (hty : ∀ i : Nat, i < 4 → tys[i]? = some (tc i, vx_ty i)) (h ra sa : Nat) (T rs : List Nat) (sd : Nat → Int32) (ss : Nat) (hT : isT T) (hs : rs <:+ T) (K : Nat → Nat) (qu mo fi to we : Int32) (kd : Nat) (hkd : kd < 6) : Kt l y_Ac_readTokens (yw y_Ac_readTokens b_Ac_readTokens 5 (some .boolean)) 5 111 0 0 D cls tys (fun A U H => rdF ra T A U H ∧ gF K A U H) [.ref h, .ref (K (100 + kd))] (rdW tc 0 h ra sa [.int (qu), .int (mo), .int (fi), .int (to), .int (we)] T rs sd ss) (fun r w => r = some (.int (bI (mrT (mnL kd) (snL kd) rs).isSome)) ∧ ∃ fi2 to2 rs2 sd2 ss2, w = (rdW tc 0 h ra sa [.int (qu), .int (mo), .int (fi2), .int (to2), .int (we)] T rs2 sd2 ss2) ∧ rs2 <:+ T ∧ ∀ u, (mrT (mnL kd) (snL kd) rs) = some u → fi2 = bI u.1 ∧ to2 = nI u.2.1 ∧ rs2 = u.2.2) := by
  refine Kt.of (ro_and (rdF_ro ra T) (gF_ro K)) (by decide) rfl hty (Nat.le_of_ble_eq_true rfl) ?_
  intro p e s m args below meth c0 A hC hr hlk hnm hF
  have hFt : vx_Ft y_Ac_readTokens.cls (yw y_Ac_readTokens b_Ac_readTokens 5 (some .boolean)) cls cty ft_Ac := ft_of (fun w h => List.mem_cons_of_mem _ h) fl_Ac_in ft_Ac_b
  have hini : false = true → meth.name = "<init>" := fun h => by cases h
  obtain ⟨hrd, hg⟩ := hF
  have hTl := hT.1
  obtain ⟨a1, a2, a3, a4, ⟨g1, k1⟩, ⟨g2, k2⟩, ⟨g3, k3⟩, ⟨g4, k4⟩⟩ := hg.2.1 kd hkd
  refine vx_cut (α := (Nat → Int32)) 9 (fun u => sdIs u (rs.takeWhile isTk) ∧ ¬ (rs.takeWhile isTk) = []) (fun u => [(0, .ref h), (1, .ref (K (100 + kd)))]) (fun u => []) (fun u => (rdW tc 0 h ra sa [.int (qu), .int (mo), .int (fi), .int (to), .int (we)] T (rs.dropWhile isTk) u (rs.takeWhile isTk).length)) (fun hJ5 => ?_) ?_
  · skip
    refine vx_gon hC hFt hini (vx_ends hC hr hlk) jc_Ac_readTokens 0 5 (by decide) rfl ?_
    refine ux_call hC (c_Rd_takeToken l D tys tc hty 0 (by decide) h ra sa [.int (qu), .int (mo), .int (fi), .int (to), .int (we)] T rs sd ss hT hs (K 0)) ⟨hrd, hg.1 0 _ rfl⟩ (cw_U wm_Rd_takeToken wl_Ac_39 wsm_Ac_takeToken wi_Rd_takeToken ws_Ac_Ac_takeToken rfl hC.2.2.2.2.1 ⟨by decide, by decide⟩) rfl rfl rfl rfl (Nat.le_of_ble_eq_true rfl) ⟨Nat.zero_le _, Nat.zero_le _⟩ (fun r' w1 hp => ?_)
    obtain ⟨rfl, sd1, hsd1, rfl⟩ := hp
    refine And.intro (fun c2 => ?_) (fun c2 => ?_)
    · skip
      have c2 : ¬ (rs.takeWhile isTk) = [] := fun z => c2 (by rw [z]; rfl)
      refine Vx.subL (lv' := [(0, .ref h), (1, .ref (K (100 + kd)))]) [0, 1] rfl ?_
      exact hJ5 sd1 ⟨hsd1, c2⟩
    · skip
      have c2 : (rs.takeWhile isTk) = [] := by
        cases h9 : (rs.takeWhile isTk) with
        | nil => rfl
        | cons a b => rw [h9] at c2; exact absurd c2 (show ¬ bI true = 0 by decide)
      refine And.intro (rfl) (And.intro ?_ (And.intro (Nat.le_refl _) (Nat.le_refl _)))
      rw [show (mrT (mnL kd) (snL kd) rs) = none from if_pos (Or.inl c2)]
      exact ⟨rfl, fi, to, (rs.dropWhile isTk), sd1, (rs.takeWhile isTk).length, rfl, dw_sfx hs, (fun u hu => by cases hu)⟩
  · rintro sd1 ⟨hsd1, c2⟩
    have hs1 : (rs.dropWhile isTk) <:+ T := dw_sfx hs
    have hs2 : (pk 47 (rs.dropWhile isTk)).2 <:+ T := pk_sfx hs1
    have hs3 : ((pk 47 (rs.dropWhile isTk)).2.dropWhile isTk) <:+ T := dw_sfx hs2
    refine vx_cut (α := Bool) 37 (fun u => (sameL (rs.takeWhile isTk) [42] || alikeL (rs.takeWhile isTk) (mnL kd)) = u) (fun u => [(0, .ref h), (1, .ref (K (100 + kd))), (2, .int (bI (sameL (rs.takeWhile isTk) [42]))), (3, .int (bI u))]) (fun u => []) (fun u => (rdW tc 0 h ra sa [.int (qu), .int (mo), .int (fi), .int (to), .int (we)] T (rs.dropWhile isTk) sd1 (rs.takeWhile isTk).length)) (fun hJ20 => ?_) ?_
    · skip
      refine vx_gon hC hFt hini (vx_ends hC hr hlk) jc_Ac_readTokens 5 15 (by decide) rfl ?_
      refine ⟨_, Or.inr (Or.inr ⟨_, _, rfl, (hg.1 2 _ rfl).1⟩), ?_⟩
      refine ux_call hC (c_Rd_isSaid l D tys tc hty 0 (by decide) h ra sa [.int (qu), .int (mo), .int (fi), .int (to), .int (we)] T (rs.dropWhile isTk) sd1 (rs.takeWhile isTk).length hT hs1 (K 2) [42] (by exact ⟨by decide, by decide⟩) (rs.takeWhile isTk) hsd1 rfl (tk_lt hT hs).1 (tk_lt hT hs).2) (hg.1 2 _ rfl).2 (cw_U wm_Rd_isSaid wl_Ac_44 wsm_Ac_isSaid wi_Rd_isSaid ws_Ac_Ac_isSaid rfl hC.2.2.2.2.1 ⟨by decide, by decide⟩) rfl rfl rfl rfl (Nat.le_of_ble_eq_true rfl) ⟨Nat.zero_le _, Nat.zero_le _⟩ (fun r' w1 hp => ?_)
      obtain ⟨rfl, rfl⟩ := hp
      refine And.intro (fun c10 => ?_) (fun c10 => ?_)
      · skip
        have c10 : sameL (rs.takeWhile isTk) [42] = true := bI_ne c10
        refine vx_gon hC hFt hini (vx_ends hC hr hlk) jc_Ac_readTokens 16 4 (by decide) rfl ?_
        refine vx_gon hC hFt hini (vx_ends hC hr hlk) jc_Ac_readTokens 19 1 (by decide) rfl ?_
        refine Vx.subL (lv' := [(0, .ref h), (1, .ref (K (100 + kd))), (2, .int (bI (sameL (rs.takeWhile isTk) [42]))), (3, .int (bI true))]) [2, 3, 1, 0] rfl ?_
        exact hJ20 true (by rw [c10]; rfl)
      · skip
        have c10 : sameL (rs.takeWhile isTk) [42] = false := bI_eq c10
        refine ⟨_, ⟨"OriginDesk$MediaType", "main", "Ljava/lang/String;", "OriginDesk$MediaType", g1, Or.inl (hC.2.2.2.2.1 _ (List.mem_cons_of_mem _ wf_Ac_48)), fun _ z => z⟩, ?_⟩
        refine ux_call hC (c_Rd_isSaidAlike l D tys tc hty 0 (by decide) h ra sa [.int (qu), .int (mo), .int (fi), .int (to), .int (we)] T (rs.dropWhile isTk) sd1 (rs.takeWhile isTk).length hT hs1 a1 (mnL kd) (isW_m kd).1 (rs.takeWhile isTk) hsd1 rfl (tk_lt hT hs).1 (tk_lt hT hs).2) k1 (cw_U wm_Rd_isSaidAlike wl_Ac_54 wsm_Ac_isSaidAlike wi_Rd_isSaidAlike ws_Ac_Ac_isSaidAlike rfl hC.2.2.2.2.1 ⟨by decide, by decide⟩) rfl rfl rfl rfl (Nat.le_of_ble_eq_true rfl) ⟨Nat.zero_le _, Nat.zero_le _⟩ (fun r' w1 hp => ?_)
        obtain ⟨rfl, rfl⟩ := hp
        refine And.intro (fun c15 => ?_) (fun c15 => ?_)
        · skip
          have c15 : alikeL (rs.takeWhile isTk) (mnL kd) = false := bI_eq c15
          refine vx_gon hC hFt hini (vx_ends hC hr hlk) jc_Ac_readTokens 18 2 (by decide) rfl ?_
          refine Vx.subL (lv' := [(0, .ref h), (1, .ref (K (100 + kd))), (2, .int (bI (sameL (rs.takeWhile isTk) [42]))), (3, .int (bI false))]) [2, 3, 1, 0] rfl ?_
          exact hJ20 false (by rw [c10, c15]; rfl)
        · skip
          have c15 : alikeL (rs.takeWhile isTk) (mnL kd) = true := bI_ne c15
          refine vx_gon hC hFt hini (vx_ends hC hr hlk) jc_Ac_readTokens 19 1 (by decide) rfl ?_
          refine Vx.subL (lv' := [(0, .ref h), (1, .ref (K (100 + kd))), (2, .int (bI (sameL (rs.takeWhile isTk) [42]))), (3, .int (bI true))]) [2, 3, 1, 0] rfl ?_
          exact hJ20 true (by rw [c15, Bool.or_true])
    · intro mf hmf
      refine vx_cut (α := Unit) 48 (fun u => ¬ ((rs.takeWhile isTk) ≠ [42] ∧ ss_star (rs.takeWhile isTk) = true)) (fun u => [(0, .ref h), (1, .ref (K (100 + kd))), (2, .int (bI (sameL (rs.takeWhile isTk) [42]))), (3, .int (bI mf))]) (fun u => []) (fun u => (rdW tc 0 h ra sa [.int (qu), .int (mo), .int (fi), .int (to), .int (we)] T (rs.dropWhile isTk) sd1 (rs.takeWhile isTk).length)) (fun hJ25 => ?_) ?_
      · skip
        refine vx_gon hC hFt hini (vx_ends hC hr hlk) jc_Ac_readTokens 20 5 (by decide) rfl ?_
        refine ux_call hC (c_Rd_saysStar l D tys tc hty 0 (by decide) h ra sa [.int (qu), .int (mo), .int (fi), .int (to), .int (we)] T (rs.dropWhile isTk) sd1 (rs.takeWhile isTk).length hT hs1 (rs.takeWhile isTk) hsd1 rfl (tk_lt hT hs).1 (fun i hi => by have := (tk_lt hT hs).2 i hi; omega)) hrd (cw_U wm_Rd_saysStar wl_Ac_57 wsm_Ac_saysStar wi_Rd_saysStar ws_Ac_Ac_saysStar rfl hC.2.2.2.2.1 ⟨by decide, by decide⟩) rfl rfl rfl rfl (Nat.le_of_ble_eq_true rfl) ⟨Nat.zero_le _, Nat.zero_le _⟩ (fun r' w1 hp => ?_)
        obtain ⟨rfl, rfl⟩ := hp
        refine And.intro (fun c22 => ?_) (fun c22 => ?_)
        · skip
          have c22 : ss_star (rs.takeWhile isTk) = false := bI_eq c22
          refine Vx.subL (lv' := [(0, .ref h), (1, .ref (K (100 + kd))), (2, .int (bI (sameL (rs.takeWhile isTk) [42]))), (3, .int (bI mf))]) [0, 1, 2, 3] rfl ?_
          exact hJ25 () (fun z => by rw [c22] at z; cases z.2)
        · skip
          have c22 : ss_star (rs.takeWhile isTk) = true := bI_ne c22
          refine And.intro (fun c24 => ?_) (fun c24 => ?_)
          · skip
            have c24 : sameL (rs.takeWhile isTk) [42] = false := bI_eq c24
            refine vx_go hC hFt hini (vx_ends hC hr hlk) jc_Ac_readTokens 32 (by decide) rfl ?_
            refine And.intro (rfl) (And.intro ?_ (And.intro (Nat.le_refl _) (Nat.le_refl _)))
            rw [show (mrT (mnL kd) (snL kd) rs) = none from if_pos (Or.inr (Or.inr (Or.inr (Or.inl ⟨of_decide_eq_false c24, c22⟩))))]
            exact ⟨rfl, fi, to, (rs.dropWhile isTk), sd1, (rs.takeWhile isTk).length, rfl, dw_sfx hs, (fun u hu => by cases hu)⟩
          · skip
            have c24 : sameL (rs.takeWhile isTk) [42] = true := bI_ne c24
            refine Vx.subL (lv' := [(0, .ref h), (1, .ref (K (100 + kd))), (2, .int (bI (sameL (rs.takeWhile isTk) [42]))), (3, .int (bI mf))]) [0, 1, 2, 3] rfl ?_
            exact hJ25 () (fun z => z.1 (of_decide_eq_true c24))
      · intro u9 hst1
        clear u9
        refine vx_cut (α := (Nat → Int32)) 66 (fun u => sdIs u ((pk 47 (rs.dropWhile isTk)).2.takeWhile isTk) ∧ (pk 47 (rs.dropWhile isTk)).1 = true ∧ ¬ ((pk 47 (rs.dropWhile isTk)).2.takeWhile isTk) = []) (fun u => [(0, .ref h), (1, .ref (K (100 + kd))), (2, .int (bI (sameL (rs.takeWhile isTk) [42]))), (3, .int (bI mf))]) (fun u => []) (fun u => (rdW tc 0 h ra sa [.int (qu), .int (mo), .int (fi), .int (to), .int (we)] T ((pk 47 (rs.dropWhile isTk)).2.dropWhile isTk) u ((pk 47 (rs.dropWhile isTk)).2.takeWhile isTk).length)) (fun hJ34 => ?_) ?_
        · skip
          refine vx_gon hC hFt hini (vx_ends hC hr hlk) jc_Ac_readTokens 25 9 (by decide) rfl ?_
          refine ux_call hC (c_Rd_take l D tys tc hty 0 (by decide) h ra sa [.int (qu), .int (mo), .int (fi), .int (to), .int (we)] T (rs.dropWhile isTk) sd1 (rs.takeWhile isTk).length 47 hT hs1 (by decide)) hrd (cw_U wm_Rd_take wl_Ac_60 wsm_Ac_take wi_Rd_take ws_Ac_Ac_take rfl hC.2.2.2.2.1 ⟨by decide, by decide⟩) rfl rfl rfl rfl (Nat.le_of_ble_eq_true rfl) ⟨Nat.zero_le _, Nat.zero_le _⟩ (fun r' w1 hp => ?_)
          obtain ⟨rfl, rfl⟩ := hp
          refine And.intro (fun c28 => ?_) (fun c28 => ?_)
          · skip
            have c28 : (pk 47 (rs.dropWhile isTk)).1 = false := bI_eq c28
            refine vx_gon hC hFt hini (vx_ends hC hr hlk) jc_Ac_readTokens 32 2 (by decide) rfl ?_
            refine And.intro (rfl) (And.intro ?_ (And.intro (Nat.le_refl _) (Nat.le_refl _)))
            rw [show (mrT (mnL kd) (snL kd) rs) = none from if_pos (Or.inr (Or.inl c28))]
            exact ⟨rfl, fi, to, (pk 47 (rs.dropWhile isTk)).2, sd1, (rs.takeWhile isTk).length, rfl, hs2, (fun u hu => by cases hu)⟩
          · skip
            have c28 : (pk 47 (rs.dropWhile isTk)).1 = true := bI_ne c28
            refine ux_call hC (c_Rd_takeToken l D tys tc hty 0 (by decide) h ra sa [.int (qu), .int (mo), .int (fi), .int (to), .int (we)] T (pk 47 (rs.dropWhile isTk)).2 sd1 (rs.takeWhile isTk).length hT hs2 (K 0)) ⟨hrd, hg.1 0 _ rfl⟩ (cw_U wm_Rd_takeToken wl_Ac_39 wsm_Ac_takeToken wi_Rd_takeToken ws_Ac_Ac_takeToken rfl hC.2.2.2.2.1 ⟨by decide, by decide⟩) rfl rfl rfl rfl (Nat.le_of_ble_eq_true rfl) ⟨Nat.zero_le _, Nat.zero_le _⟩ (fun r' w1 hp => ?_)
            obtain ⟨rfl, sd2, hsd2, rfl⟩ := hp
            refine And.intro (fun c31 => ?_) (fun c31 => ?_)
            · skip
              have c31 : ¬ ((pk 47 (rs.dropWhile isTk)).2.takeWhile isTk) = [] := fun z => c31 (by rw [z]; rfl)
              refine Vx.subL (lv' := [(0, .ref h), (1, .ref (K (100 + kd))), (2, .int (bI (sameL (rs.takeWhile isTk) [42]))), (3, .int (bI mf))]) [0, 1, 2, 3] rfl ?_
              exact hJ34 sd2 ⟨hsd2, c28, c31⟩
            · skip
              have c31 : ((pk 47 (rs.dropWhile isTk)).2.takeWhile isTk) = [] := by
                cases h9 : ((pk 47 (rs.dropWhile isTk)).2.takeWhile isTk) with
                | nil => rfl
                | cons a b => rw [h9] at c31; exact absurd c31 (show ¬ bI true = 0 by decide)
              refine And.intro (rfl) (And.intro ?_ (And.intro (Nat.le_refl _) (Nat.le_refl _)))
              rw [show (mrT (mnL kd) (snL kd) rs) = none from if_pos (Or.inr (Or.inr (Or.inl c31)))]
              exact ⟨rfl, fi, to, ((pk 47 (rs.dropWhile isTk)).2.dropWhile isTk), sd2, ((pk 47 (rs.dropWhile isTk)).2.takeWhile isTk).length, rfl, dw_sfx hs2, (fun u hu => by cases hu)⟩
        · rintro sd2 ⟨hsd2, c28, c31⟩
          refine vx_cut (α := Unit) 92 (fun u => ¬ (((pk 47 (rs.dropWhile isTk)).2.takeWhile isTk) ≠ [42] ∧ ((rs.takeWhile isTk) = [42] ∨ ss_star ((pk 47 (rs.dropWhile isTk)).2.takeWhile isTk) = true))) (fun u => [(0, .ref h), (1, .ref (K (100 + kd))), (2, .int (bI (sameL (rs.takeWhile isTk) [42]))), (3, .int (bI mf)), (4, .int (bI (sameL ((pk 47 (rs.dropWhile isTk)).2.takeWhile isTk) [42])))]) (fun u => []) (fun u => (rdW tc 0 h ra sa [.int (qu), .int (mo), .int (fi), .int (to), .int (we)] T ((pk 47 (rs.dropWhile isTk)).2.dropWhile isTk) sd2 ((pk 47 (rs.dropWhile isTk)).2.takeWhile isTk).length)) (fun hJ47 => ?_) ?_
          · skip
            refine vx_gon hC hFt hini (vx_ends hC hr hlk) jc_Ac_readTokens 34 13 (by decide) rfl ?_
            refine ⟨_, Or.inr (Or.inr ⟨_, _, rfl, (hg.1 2 _ rfl).1⟩), ?_⟩
            refine ux_call hC (c_Rd_isSaid l D tys tc hty 0 (by decide) h ra sa [.int (qu), .int (mo), .int (fi), .int (to), .int (we)] T ((pk 47 (rs.dropWhile isTk)).2.dropWhile isTk) sd2 ((pk 47 (rs.dropWhile isTk)).2.takeWhile isTk).length hT hs3 (K 2) [42] (by exact ⟨by decide, by decide⟩) ((pk 47 (rs.dropWhile isTk)).2.takeWhile isTk) hsd2 rfl (tk_lt hT hs2).1 (tk_lt hT hs2).2) (hg.1 2 _ rfl).2 (cw_U wm_Rd_isSaid wl_Ac_44 wsm_Ac_isSaid wi_Rd_isSaid ws_Ac_Ac_isSaid rfl hC.2.2.2.2.1 ⟨by decide, by decide⟩) rfl rfl rfl rfl (Nat.le_of_ble_eq_true rfl) ⟨Nat.zero_le _, Nat.zero_le _⟩ (fun r' w1 hp => ?_)
            obtain ⟨rfl, rfl⟩ := hp
            refine And.intro (fun c39 => ?_) (fun c39 => ?_)
            · skip
              have c39 : sameL ((pk 47 (rs.dropWhile isTk)).2.takeWhile isTk) [42] = true := bI_ne c39
              refine Vx.subL (lv' := [(0, .ref h), (1, .ref (K (100 + kd))), (2, .int (bI (sameL (rs.takeWhile isTk) [42]))), (3, .int (bI mf)), (4, .int (bI (sameL ((pk 47 (rs.dropWhile isTk)).2.takeWhile isTk) [42])))]) [1, 2, 3, 4, 0] rfl ?_
              exact hJ47 () (fun z => z.1 (of_decide_eq_true c39))
            · skip
              have c39 : sameL ((pk 47 (rs.dropWhile isTk)).2.takeWhile isTk) [42] = false := bI_eq c39
              refine And.intro (fun c41 => ?_) (fun c41 => ?_)
              · skip
                have c41 : sameL (rs.takeWhile isTk) [42] = true := bI_ne c41
                refine vx_gon hC hFt hini (vx_ends hC hr hlk) jc_Ac_readTokens 45 2 (by decide) rfl ?_
                refine And.intro (rfl) (And.intro ?_ (And.intro (Nat.le_refl _) (Nat.le_refl _)))
                rw [show (mrT (mnL kd) (snL kd) rs) = none from if_pos (Or.inr (Or.inr (Or.inr (Or.inr ⟨of_decide_eq_false c39, Or.inl (of_decide_eq_true c41)⟩))))]
                exact ⟨rfl, fi, to, ((pk 47 (rs.dropWhile isTk)).2.dropWhile isTk), sd2, ((pk 47 (rs.dropWhile isTk)).2.takeWhile isTk).length, rfl, hs3, (fun u hu => by cases hu)⟩
              · skip
                have c41 : sameL (rs.takeWhile isTk) [42] = false := bI_eq c41
                refine ux_call hC (c_Rd_saysStar l D tys tc hty 0 (by decide) h ra sa [.int (qu), .int (mo), .int (fi), .int (to), .int (we)] T ((pk 47 (rs.dropWhile isTk)).2.dropWhile isTk) sd2 ((pk 47 (rs.dropWhile isTk)).2.takeWhile isTk).length hT hs3 ((pk 47 (rs.dropWhile isTk)).2.takeWhile isTk) hsd2 rfl (tk_lt hT hs2).1 (fun i hi => by have := (tk_lt hT hs2).2 i hi; omega)) hrd (cw_U wm_Rd_saysStar wl_Ac_57 wsm_Ac_saysStar wi_Rd_saysStar ws_Ac_Ac_saysStar rfl hC.2.2.2.2.1 ⟨by decide, by decide⟩) rfl rfl rfl rfl (Nat.le_of_ble_eq_true rfl) ⟨Nat.zero_le _, Nat.zero_le _⟩ (fun r' w1 hp => ?_)
                obtain ⟨rfl, rfl⟩ := hp
                refine And.intro (fun c44 => ?_) (fun c44 => ?_)
                · skip
                  have c44 : ss_star ((pk 47 (rs.dropWhile isTk)).2.takeWhile isTk) = false := bI_eq c44
                  refine Vx.subL (lv' := [(0, .ref h), (1, .ref (K (100 + kd))), (2, .int (bI (sameL (rs.takeWhile isTk) [42]))), (3, .int (bI mf)), (4, .int (bI (sameL ((pk 47 (rs.dropWhile isTk)).2.takeWhile isTk) [42])))]) [1, 2, 3, 4, 0] rfl ?_
                  exact hJ47 () (fun z => z.2.elim (fun y => (of_decide_eq_false c41) y) (fun y => by rw [c44] at y; cases y))
                · skip
                  have c44 : ss_star ((pk 47 (rs.dropWhile isTk)).2.takeWhile isTk) = true := bI_ne c44
                  refine And.intro (rfl) (And.intro ?_ (And.intro (Nat.le_refl _) (Nat.le_refl _)))
                  rw [show (mrT (mnL kd) (snL kd) rs) = none from if_pos (Or.inr (Or.inr (Or.inr (Or.inr ⟨of_decide_eq_false c39, Or.inr c44⟩))))]
                  exact ⟨rfl, fi, to, ((pk 47 (rs.dropWhile isTk)).2.dropWhile isTk), sd2, ((pk 47 (rs.dropWhile isTk)).2.takeWhile isTk).length, rfl, hs3, (fun u hu => by cases hu)⟩
          · intro u9 hst2
            clear u9
            refine vx_cut (α := Bool) 121 (fun u => (mf && (sameL ((pk 47 (rs.dropWhile isTk)).2.takeWhile isTk) [42] || alikeL ((pk 47 (rs.dropWhile isTk)).2.takeWhile isTk) (snL kd))) = u) (fun u => [(0, .ref h), (1, .ref (K (100 + kd))), (2, .int (bI (sameL (rs.takeWhile isTk) [42]))), (4, .int (bI (sameL ((pk 47 (rs.dropWhile isTk)).2.takeWhile isTk) [42])))]) (fun u => []) (fun u => (rdW tc 0 h ra sa [.int (qu), .int (mo), .int (bI u), .int (to), .int (we)] T ((pk 47 (rs.dropWhile isTk)).2.dropWhile isTk) sd2 ((pk 47 (rs.dropWhile isTk)).2.takeWhile isTk).length)) (fun hJ61 => ?_) ?_
            · skip
              refine vx_gon hC hFt hini (vx_ends hC hr hlk) jc_Ac_readTokens 47 14 (by decide) rfl ?_
              refine And.intro (fun c49 => ?_) (fun c49 => ?_)
              · skip
                have c49 : mf = false := bI_eq c49
                refine vx_gon hC hFt hini (vx_ends hC hr hlk) jc_Ac_readTokens 59 2 (by decide) rfl ?_
                refine And.intro rfl (And.intro (And.intro rfl rfl) ?_)
                refine Vx.subL (lv' := [(0, .ref h), (1, .ref (K (100 + kd))), (2, .int (bI (sameL (rs.takeWhile isTk) [42]))), (4, .int (bI (sameL ((pk 47 (rs.dropWhile isTk)).2.takeWhile isTk) [42])))]) [0, 1, 2, 4] rfl ?_
                exact hJ61 false (by rw [c49]; rfl)
              · skip
                have c49 : mf = true := bI_ne c49
                refine And.intro (fun c51 => ?_) (fun c51 => ?_)
                · skip
                  have c51 : sameL ((pk 47 (rs.dropWhile isTk)).2.takeWhile isTk) [42] = true := bI_ne c51
                  refine vx_gon hC hFt hini (vx_ends hC hr hlk) jc_Ac_readTokens 57 4 (by decide) rfl ?_
                  refine vx_gon hC hFt hini (vx_ends hC hr hlk) jc_Ac_readTokens 60 1 (by decide) rfl ?_
                  refine And.intro rfl (And.intro (And.intro rfl rfl) ?_)
                  refine Vx.subL (lv' := [(0, .ref h), (1, .ref (K (100 + kd))), (2, .int (bI (sameL (rs.takeWhile isTk) [42]))), (4, .int (bI (sameL ((pk 47 (rs.dropWhile isTk)).2.takeWhile isTk) [42])))]) [0, 1, 2, 4] rfl ?_
                  exact hJ61 true (by rw [c49, c51]; rfl)
                · skip
                  have c51 : sameL ((pk 47 (rs.dropWhile isTk)).2.takeWhile isTk) [42] = false := bI_eq c51
                  refine ⟨_, ⟨"OriginDesk$MediaType", "sub", "Ljava/lang/String;", "OriginDesk$MediaType", g2, Or.inl (hC.2.2.2.2.1 _ (List.mem_cons_of_mem _ wf_Ac_64)), fun _ z => z⟩, ?_⟩
                  refine ux_call hC (c_Rd_isSaidAlike l D tys tc hty 0 (by decide) h ra sa [.int (qu), .int (mo), .int (fi), .int (to), .int (we)] T ((pk 47 (rs.dropWhile isTk)).2.dropWhile isTk) sd2 ((pk 47 (rs.dropWhile isTk)).2.takeWhile isTk).length hT hs3 a2 (snL kd) (isW_m kd).2.1 ((pk 47 (rs.dropWhile isTk)).2.takeWhile isTk) hsd2 rfl (tk_lt hT hs2).1 (tk_lt hT hs2).2) k2 (cw_U wm_Rd_isSaidAlike wl_Ac_54 wsm_Ac_isSaidAlike wi_Rd_isSaidAlike ws_Ac_Ac_isSaidAlike rfl hC.2.2.2.2.1 ⟨by decide, by decide⟩) rfl rfl rfl rfl (Nat.le_of_ble_eq_true rfl) ⟨Nat.zero_le _, Nat.zero_le _⟩ (fun r' w1 hp => ?_)
                  obtain ⟨rfl, rfl⟩ := hp
                  refine And.intro (fun c56 => ?_) (fun c56 => ?_)
                  · skip
                    have c56 : alikeL ((pk 47 (rs.dropWhile isTk)).2.takeWhile isTk) (snL kd) = false := bI_eq c56
                    refine vx_gon hC hFt hini (vx_ends hC hr hlk) jc_Ac_readTokens 59 2 (by decide) rfl ?_
                    refine And.intro rfl (And.intro (And.intro rfl rfl) ?_)
                    refine Vx.subL (lv' := [(0, .ref h), (1, .ref (K (100 + kd))), (2, .int (bI (sameL (rs.takeWhile isTk) [42]))), (4, .int (bI (sameL ((pk 47 (rs.dropWhile isTk)).2.takeWhile isTk) [42])))]) [0, 1, 2, 4] rfl ?_
                    exact hJ61 false (by rw [c51, c56, Bool.or_false, Bool.and_false])
                  · skip
                    have c56 : alikeL ((pk 47 (rs.dropWhile isTk)).2.takeWhile isTk) (snL kd) = true := bI_ne c56
                    refine vx_gon hC hFt hini (vx_ends hC hr hlk) jc_Ac_readTokens 60 1 (by decide) rfl ?_
                    refine And.intro rfl (And.intro (And.intro rfl rfl) ?_)
                    refine Vx.subL (lv' := [(0, .ref h), (1, .ref (K (100 + kd))), (2, .int (bI (sameL (rs.takeWhile isTk) [42]))), (4, .int (bI (sameL ((pk 47 (rs.dropWhile isTk)).2.takeWhile isTk) [42])))]) [0, 1, 2, 4] rfl ?_
                    exact hJ61 true (by rw [c49, c56, Bool.or_true]; rfl)
            · intro fv hfv
              refine vx_go hC hFt hini (vx_ends hC hr hlk) jc_Ac_readTokens 61 (by decide) rfl ?_
              refine And.intro (fun c63 => ?_) (fun c63 => ?_)
              · skip
                have c63 : sameL (rs.takeWhile isTk) [42] = false := bI_eq c63
                refine vx_go hC hFt hini (vx_ends hC hr hlk) jc_Ac_readTokens 66 (by decide) rfl ?_
                refine And.intro (fun c68 => ?_) (fun c68 => ?_)
                · skip
                  have c68 : sameL ((pk 47 (rs.dropWhile isTk)).2.takeWhile isTk) [42] = false := bI_eq c68
                  refine vx_go hC hFt hini (vx_ends hC hr hlk) jc_Ac_readTokens 71 (by decide) rfl ?_
                  refine And.intro rfl (And.intro (And.intro rfl rfl) ?_)
                  refine And.intro (rfl) (And.intro ?_ (And.intro (Nat.le_refl _) (Nat.le_refl _)))
                  have hv : (mrT (mnL kd) (snL kd) rs) = some (fv, 1 + 1, ((pk 47 (rs.dropWhile isTk)).2.dropWhile isTk)) := by
                    unfold mrT
                    rw [if_neg (by
                      rintro (z | z | z | z | z)
                      · exact c2 z
                      · rw [c28] at z; cases z
                      · exact c31 z
                      · exact hst1 z
                      · exact hst2 z)]
                    rw [if_neg (of_decide_eq_false c63), if_neg (of_decide_eq_false c68), ← hfv, ← hmf]
                    rfl
                  rw [hv]
                  exact ⟨rfl, bI fv, nI (1 + 1), ((pk 47 (rs.dropWhile isTk)).2.dropWhile isTk), sd2, ((pk 47 (rs.dropWhile isTk)).2.takeWhile isTk).length, rfl, hs3, fun u hu => by obtain rfl := Option.some.inj hu; exact ⟨rfl, rfl, rfl⟩⟩
                · skip
                  have c68 : sameL ((pk 47 (rs.dropWhile isTk)).2.takeWhile isTk) [42] = true := bI_ne c68
                  refine vx_go hC hFt hini (vx_ends hC hr hlk) jc_Ac_readTokens 72 (by decide) rfl ?_
                  refine And.intro rfl (And.intro (And.intro rfl rfl) ?_)
                  refine And.intro (rfl) (And.intro ?_ (And.intro (Nat.le_refl _) (Nat.le_refl _)))
                  have hv : (mrT (mnL kd) (snL kd) rs) = some (fv, 1 + 0, ((pk 47 (rs.dropWhile isTk)).2.dropWhile isTk)) := by
                    unfold mrT
                    rw [if_neg (by
                      rintro (z | z | z | z | z)
                      · exact c2 z
                      · rw [c28] at z; cases z
                      · exact c31 z
                      · exact hst1 z
                      · exact hst2 z)]
                    rw [if_neg (of_decide_eq_false c63), if_pos (of_decide_eq_true c68), ← hfv, ← hmf]
                    rfl
                  rw [hv]
                  exact ⟨rfl, bI fv, nI (1 + 0), ((pk 47 (rs.dropWhile isTk)).2.dropWhile isTk), sd2, ((pk 47 (rs.dropWhile isTk)).2.takeWhile isTk).length, rfl, hs3, fun u hu => by obtain rfl := Option.some.inj hu; exact ⟨rfl, rfl, rfl⟩⟩
              · skip
                have c63 : sameL (rs.takeWhile isTk) [42] = true := bI_ne c63
                refine vx_go hC hFt hini (vx_ends hC hr hlk) jc_Ac_readTokens 67 (by decide) rfl ?_
                refine And.intro (fun c68 => ?_) (fun c68 => ?_)
                · skip
                  have c68 : sameL ((pk 47 (rs.dropWhile isTk)).2.takeWhile isTk) [42] = false := bI_eq c68
                  refine vx_go hC hFt hini (vx_ends hC hr hlk) jc_Ac_readTokens 71 (by decide) rfl ?_
                  refine And.intro rfl (And.intro (And.intro rfl rfl) ?_)
                  refine And.intro (rfl) (And.intro ?_ (And.intro (Nat.le_refl _) (Nat.le_refl _)))
                  have hv : (mrT (mnL kd) (snL kd) rs) = some (fv, 0 + 1, ((pk 47 (rs.dropWhile isTk)).2.dropWhile isTk)) := by
                    unfold mrT
                    rw [if_neg (by
                      rintro (z | z | z | z | z)
                      · exact c2 z
                      · rw [c28] at z; cases z
                      · exact c31 z
                      · exact hst1 z
                      · exact hst2 z)]
                    rw [if_pos (of_decide_eq_true c63), if_neg (of_decide_eq_false c68), ← hfv, ← hmf]
                    rfl
                  rw [hv]
                  exact ⟨rfl, bI fv, nI (0 + 1), ((pk 47 (rs.dropWhile isTk)).2.dropWhile isTk), sd2, ((pk 47 (rs.dropWhile isTk)).2.takeWhile isTk).length, rfl, hs3, fun u hu => by obtain rfl := Option.some.inj hu; exact ⟨rfl, rfl, rfl⟩⟩
                · skip
                  have c68 : sameL ((pk 47 (rs.dropWhile isTk)).2.takeWhile isTk) [42] = true := bI_ne c68
                  refine vx_go hC hFt hini (vx_ends hC hr hlk) jc_Ac_readTokens 72 (by decide) rfl ?_
                  refine And.intro rfl (And.intro (And.intro rfl rfl) ?_)
                  refine And.intro (rfl) (And.intro ?_ (And.intro (Nat.le_refl _) (Nat.le_refl _)))
                  have hv : (mrT (mnL kd) (snL kd) rs) = some (fv, 0 + 0, ((pk 47 (rs.dropWhile isTk)).2.dropWhile isTk)) := by
                    unfold mrT
                    rw [if_neg (by
                      rintro (z | z | z | z | z)
                      · exact c2 z
                      · rw [c28] at z; cases z
                      · exact c31 z
                      · exact hst1 z
                      · exact hst2 z)]
                    rw [if_pos (of_decide_eq_true c63), if_pos (of_decide_eq_true c68), ← hfv, ← hmf]
                    rfl
                  rw [hv]
                  exact ⟨rfl, bI fv, nI (0 + 0), ((pk 47 (rs.dropWhile isTk)).2.dropWhile isTk), sd2, ((pk 47 (rs.dropWhile isTk)).2.takeWhile isTk).length, rfl, hs3, fun u hu => by obtain rfl := Option.some.inj hu; exact ⟨rfl, rfl, rfl⟩⟩
