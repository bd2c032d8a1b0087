/-! THE LAW's start: statics, constants, classes, by program (wip/whole/gen/p92.py) -/
section
variable {args : Array Value} {s : State} {A : Nat → Prop}
theorem nf_at (h : (Jvm.Cond.and given_1 narrow_1).before args s = true) (i : Nat) {w : Cond} (hw : (flatC narrow_1)[i]? = some w) : w.before args s = true :=
  flat_of_before (Jvm.Cond.and given_1 narrow_1) h w (List.mem_append_right (flatC given_1) (List.mem_of_getElem? hw))
theorem tb_at (hts : ∀ w ∈ lw_tbl, w.before args s = true) (i : Nat) {w : Cond} (hw : tables_1[i]? = some w) : w.before args s = true := hts w (List.mem_append_right _ (List.mem_of_getElem? hw))
def strC (own : String) (k : Nat) (W : List Nat) : Nat → Cond
  | 0 => .exactly (.string own k) "java/lang/String"
  | 1 => .eq (.field (.string own k) "java/lang/String" "coder" "B") (.int 0)
  | 2 => .arrayOf (.field (.string own k) "java/lang/String" "value" "[B") .byte
  | 3 => .eq (.length (.field (.string own k) "java/lang/String" "value" "[B")) (.int (Int32.ofNat W.length))
  | j + 4 => .eq (.elem (.field (.string own k) "java/lang/String" "value" "[B") (.int (Int32.ofNat j))) (.int (sb_b (W.getD j 0)))
theorem str_of (h : (Jvm.Cond.and given_1 narrow_1).before args s = true) {own : String} {k : Nat} {W : List Nat} (i : Nat) (hn : W.length < 2 ^ 31) (hw : ∀ j, j < 4 + W.length → (flatC narrow_1)[i + j]? = some (strC own k W j)) (hA : ∀ a : Nat, a < s.heap.size → ¬ A a) : ∃ a : Nat, (Term.string own k).eval args s none [] s = some (.ref a) ∧ strF a W A s s.heap := by
  have g : ∀ j, j < 4 + W.length → (strC own k W j).before args s = true := fun j hj => nf_at h (i + j) (hw j hj)
  obtain ⟨a, c, cA, kA, q1, q2, q3, q4, q5, q6, -⟩ := Cond.exactly_spec (args := args) (first := s) (o := none) (s := s) (idx := []) (t := .string own k) (cls := "java/lang/String") (g 0 (by omega))
  obtain ⟨t, ht, hT⟩ := va_Tof (f := fun j => .int (sb_b (W.getD j 0))) (A := A) hn (g 2 (by omega)) (va_eqt (g 3 (by omega))) (fun j hj => va_eqt (g (j + 4) (by omega))) hA
  exact ⟨a, q1, ⟨cA, q3, q5, by rw [q6]; exact q2, hA a (Array.getElem?_eq_some_iff.mp q3).1⟩, vk_OFof q1 (va_eqt (g 1 (by omega))) hA, t, vk_OFof q1 ht hA, hT⟩
theorem stat_of {C n d : String} (h : (Cond.exactly (.static C n d) C).before args s = true) : ∃ a : Nat, (Term.static C n d).eval args s none [] s = some (.ref a) := by
  obtain ⟨a, c, cA, kA, q1, -⟩ := Cond.exactly_spec (args := args) (first := s) (o := none) (s := s) (idx := []) h
  exact ⟨a, q1⟩
theorem eq_R {t u : Term} {a : Nat} (h : (Cond.eq t u).before args s = true) (hu : u.eval args s none [] s = some (.ref a)) : t.eval args s none [] s = some (.ref a) := by
  cases hv : t.eval args s none [] s with
  | none => simp [Cond.before, Cond.holds, Cond.value, hv] at h
  | some w =>
    simp only [Cond.before, Cond.holds, Cond.value, hv, hu] at h
    cases w <;> simp_all
end
theorem mdN : ∀ j, j < 12 → (flatC narrow_1)[242 + j]? = some (.eq (.elem (.static "OriginDesk$Dates" "MONTH_DAYS" "[I") (.int (Int32.ofNat j))) (.int (nI ([31, 28, 31, 30, 31, 30, 31, 31, 30, 31, 30, 31].getD j 0)))) := by decide +kernel
theorem dgN_DigitOnes : ∀ j, j < 100 → (flatC narrow_1)[32 + j]? = some (.eq (.elem (.static "java/lang/Integer" "DigitOnes" "[B") (.int (Int32.ofNat j))) (.int (sb_b (48 + j % 10)))) := by decide +kernel
theorem dgN_DigitTens : ∀ j, j < 100 → (flatC narrow_1)[135 + j]? = some (.eq (.elem (.static "java/lang/Integer" "DigitTens" "[B") (.int (Int32.ofNat j))) (.int (sb_b (48 + j / 10)))) := by decide +kernel
set_option maxRecDepth 100000 in
set_option maxHeartbeats 4000000 in
theorem law_F {args : Array Value} {s : State} {A : Nat → Prop} (hgv : (Jvm.Cond.and given_1 narrow_1).before args s = true) (hts : ∀ w ∈ lw_tbl, w.before args s = true) (hA : ∀ a : Nat, a < s.heap.size → ¬ A a) : ∃ K : Nat → Nat, gtF K A s s.heap := by
  have cs : csF A s s.heap := ⟨va_Zof (tb_at hts 188 (by decide +kernel)) (tb_at hts 11 (by decide +kernel)) (va_eqi (nf_at hgv 2 (by decide +kernel))) hA, va_Zqof (tb_at hts 396 (by decide +kernel)) (tb_at hts 21 (by decide +kernel)) (nf_at hgv 25 (by decide +kernel)) hA⟩
  obtain ⟨a_Rd_62, e_Rd_62, f_Rd_62⟩ := str_of (A := A) hgv (own := "OriginDesk$Reader") (k := 62) (W := [97, 98, 99, 100, 101, 102, 103, 104, 105, 106, 107, 108, 109, 110, 111, 112, 113, 114, 115, 116, 117, 118, 119, 120, 121, 122, 65, 66, 67, 68, 69, 70, 71, 72, 73, 74, 75, 76, 77, 78, 79, 80, 81, 82, 83, 84, 85, 86, 87, 88, 89, 90, 48, 49, 50, 51, 52, 53, 54, 55, 56, 57, 33, 35, 36, 37, 38, 39, 42, 43, 45, 46, 94, 95, 124, 126, 96]) 376 (by decide) (by decide +kernel) hA
  obtain ⟨a_Ac_42, e_Ac_42, f_Ac_42⟩ := str_of (A := A) hgv (own := "OriginDesk$Accept") (k := 42) (W := [42]) 457 (by decide) (by decide +kernel) hA
  obtain ⟨a_Ac_80, e_Ac_80, f_Ac_80⟩ := str_of (A := A) hgv (own := "OriginDesk$Accept") (k := 80) (W := [113]) 462 (by decide) (by decide +kernel) hA
  obtain ⟨a_La_51, e_La_51, f_La_51⟩ := str_of (A := A) hgv (own := "OriginDesk$Languages") (k := 51) (W := [42]) 467 (by decide) (by decide +kernel) hA
  obtain ⟨a_Tg_52, e_Tg_52, f_Tg_52⟩ := str_of (A := A) hgv (own := "OriginDesk$Tags") (k := 52) (W := [87, 47]) 473 (by decide) (by decide +kernel) hA
  obtain ⟨a_Da_26, e_Da_26, f_Da_26⟩ := str_of (A := A) hgv (own := "OriginDesk$Dates") (k := 26) (W := [83, 117, 110, 77, 111, 110, 84, 117, 101, 87, 101, 100, 84, 104, 117, 70, 114, 105, 83, 97, 116]) 479 (by decide) (by decide +kernel) hA
  obtain ⟨a_Da_104, e_Da_104, f_Da_104⟩ := str_of (A := A) hgv (own := "OriginDesk$Dates") (k := 104) (W := [74, 97, 110, 70, 101, 98, 77, 97, 114, 65, 112, 114, 77, 97, 121, 74, 117, 110, 74, 117, 108, 65, 117, 103, 83, 101, 112, 79, 99, 116, 78, 111, 118, 68, 101, 99]) 504 (by decide) (by decide +kernel) hA
  obtain ⟨a_Da_78, e_Da_78, f_Da_78⟩ := str_of (A := A) hgv (own := "OriginDesk$Dates") (k := 78) (W := [32, 71, 77, 84]) 544 (by decide) (by decide +kernel) hA
  obtain ⟨a_Da_88, e_Da_88, f_Da_88⟩ := str_of (A := A) hgv (own := "OriginDesk$Dates") (k := 88) (W := [115, 100, 97, 121]) 552 (by decide) (by decide +kernel) hA
  obtain ⟨a_Da_90, e_Da_90, f_Da_90⟩ := str_of (A := A) hgv (own := "OriginDesk$Dates") (k := 90) (W := [110, 101, 115, 100, 97, 121]) 560 (by decide) (by decide +kernel) hA
  obtain ⟨a_Da_92, e_Da_92, f_Da_92⟩ := str_of (A := A) hgv (own := "OriginDesk$Dates") (k := 92) (W := [114, 115, 100, 97, 121]) 570 (by decide) (by decide +kernel) hA
  obtain ⟨a_Da_94, e_Da_94, f_Da_94⟩ := str_of (A := A) hgv (own := "OriginDesk$Dates") (k := 94) (W := [117, 114, 100, 97, 121]) 579 (by decide) (by decide +kernel) hA
  obtain ⟨a_Da_96, e_Da_96, f_Da_96⟩ := str_of (A := A) hgv (own := "OriginDesk$Dates") (k := 96) (W := [100, 97, 121]) 588 (by decide) (by decide +kernel) hA
  obtain ⟨a_Da_80, e_Da_80, f_Da_80⟩ := str_of (A := A) hgv (own := "OriginDesk$Dates") (k := 80) (W := [44, 32]) 595 (by decide) (by decide +kernel) hA
  obtain ⟨a_Ra_32, e_Ra_32, f_Ra_32⟩ := str_of (A := A) hgv (own := "OriginDesk$Ranges") (k := 32) (W := [98, 121, 116, 101, 115]) 601 (by decide) (by decide +kernel) hA
  obtain ⟨a_Rs_70, e_Rs_70, f_Rs_70⟩ := str_of (A := A) hgv (own := "OriginDesk$Response") (k := 70) (W := [45, 45, 80, 65, 82, 84, 45, 45, 13, 10]) 610 (by decide) (by decide +kernel) hA
  obtain ⟨a_Rs_93, e_Rs_93, f_Rs_93⟩ := str_of (A := A) hgv (own := "OriginDesk$Response") (k := 93) (W := [45, 45, 80, 65, 82, 84, 13, 10, 82, 97, 110, 103, 101, 58, 32]) 624 (by decide) (by decide +kernel) hA
  obtain ⟨a_Rs_105, e_Rs_105, f_Rs_105⟩ := str_of (A := A) hgv (own := "OriginDesk$Response") (k := 105) (W := [13, 10, 13, 10]) 643 (by decide) (by decide +kernel) hA
  obtain ⟨a_Rs_82, e_Rs_82, f_Rs_82⟩ := str_of (A := A) hgv (own := "OriginDesk$Response") (k := 82) (W := [13, 10]) 651 (by decide) (by decide +kernel) hA
  obtain ⟨a_Dk_173, e_Dk_173, f_Dk_173⟩ := str_of (A := A) hgv (own := "OriginDesk") (k := 173) (W := []) 657 (by decide) (by decide +kernel) hA
  obtain ⟨a_Lg_51, e_Lg_51, f_Lg_51⟩ := str_of (A := A) hgv (own := "OriginDesk$Language") (k := 51) (W := []) 661 (by decide) (by decide +kernel) hA
  obtain ⟨a_Mt_55, e_Mt_55, f_Mt_55⟩ := str_of (A := A) hgv (own := "OriginDesk$MediaType") (k := 55) (W := [116, 101, 120, 116]) 666 (by decide) (by decide +kernel) hA
  obtain ⟨a_Mt_57, e_Mt_57, f_Mt_57⟩ := str_of (A := A) hgv (own := "OriginDesk$MediaType") (k := 57) (W := [104, 116, 109, 108]) 674 (by decide) (by decide +kernel) hA
  obtain ⟨a_Mt_59, e_Mt_59, f_Mt_59⟩ := str_of (A := A) hgv (own := "OriginDesk$MediaType") (k := 59) (W := []) 682 (by decide) (by decide +kernel) hA
  obtain ⟨a_Lg_49, e_Lg_49, f_Lg_49⟩ := str_of (A := A) hgv (own := "OriginDesk$Language") (k := 49) (W := [101, 110]) 688 (by decide) (by decide +kernel) hA
  obtain ⟨a_Mt_65, e_Mt_65, f_Mt_65⟩ := str_of (A := A) hgv (own := "OriginDesk$MediaType") (k := 65) (W := [112, 108, 97, 105, 110]) 694 (by decide) (by decide +kernel) hA
  obtain ⟨a_Mt_68, e_Mt_68, f_Mt_68⟩ := str_of (A := A) hgv (own := "OriginDesk$MediaType") (k := 68) (W := [97, 112, 112, 108, 105, 99, 97, 116, 105, 111, 110]) 703 (by decide) (by decide +kernel) hA
  obtain ⟨a_Mt_70, e_Mt_70, f_Mt_70⟩ := str_of (A := A) hgv (own := "OriginDesk$MediaType") (k := 70) (W := [106, 115, 111, 110]) 718 (by decide) (by decide +kernel) hA
  obtain ⟨a_Mt_73, e_Mt_73, f_Mt_73⟩ := str_of (A := A) hgv (own := "OriginDesk$MediaType") (k := 73) (W := [105, 109, 97, 103, 101]) 726 (by decide) (by decide +kernel) hA
  obtain ⟨a_Mt_75, e_Mt_75, f_Mt_75⟩ := str_of (A := A) hgv (own := "OriginDesk$MediaType") (k := 75) (W := [112, 110, 103]) 735 (by decide) (by decide +kernel) hA
  obtain ⟨a_Mt_78, e_Mt_78, f_Mt_78⟩ := str_of (A := A) hgv (own := "OriginDesk$MediaType") (k := 78) (W := [108, 101, 118, 101, 108]) 742 (by decide) (by decide +kernel) hA
  obtain ⟨a_Mt_80, e_Mt_80, f_Mt_80⟩ := str_of (A := A) hgv (own := "OriginDesk$MediaType") (k := 80) (W := [49]) 751 (by decide) (by decide +kernel) hA
  obtain ⟨a_Mt_83, e_Mt_83, f_Mt_83⟩ := str_of (A := A) hgv (own := "OriginDesk$MediaType") (k := 83) (W := [115, 118, 103, 43, 120, 109, 108]) 756 (by decide) (by decide +kernel) hA
  obtain ⟨a_Lg_57, e_Lg_57, f_Lg_57⟩ := str_of (A := A) hgv (own := "OriginDesk$Language") (k := 57) (W := [101, 110, 45, 117, 115]) 767 (by decide) (by decide +kernel) hA
  obtain ⟨a_Lg_60, e_Lg_60, f_Lg_60⟩ := str_of (A := A) hgv (own := "OriginDesk$Language") (k := 60) (W := [100, 101]) 776 (by decide) (by decide +kernel) hA
  obtain ⟨a_Lg_63, e_Lg_63, f_Lg_63⟩ := str_of (A := A) hgv (own := "OriginDesk$Language") (k := 63) (W := [100, 101, 45, 97, 116]) 782 (by decide) (by decide +kernel) hA
  obtain ⟨a_Lg_66, e_Lg_66, f_Lg_66⟩ := str_of (A := A) hgv (own := "OriginDesk$Language") (k := 66) (W := [102, 114]) 791 (by decide) (by decide +kernel) hA
  obtain ⟨t0, et0⟩ := stat_of (C := "OriginDesk$MediaType") (n := "HTML") (d := "LOriginDesk$MediaType;") (nf_at hgv 254 (by decide +kernel))
  obtain ⟨t1, et1⟩ := stat_of (C := "OriginDesk$MediaType") (n := "PLAIN") (d := "LOriginDesk$MediaType;") (nf_at hgv 267 (by decide +kernel))
  obtain ⟨t2, et2⟩ := stat_of (C := "OriginDesk$MediaType") (n := "JSON") (d := "LOriginDesk$MediaType;") (nf_at hgv 276 (by decide +kernel))
  obtain ⟨t3, et3⟩ := stat_of (C := "OriginDesk$MediaType") (n := "PNG") (d := "LOriginDesk$MediaType;") (nf_at hgv 286 (by decide +kernel))
  obtain ⟨t4, et4⟩ := stat_of (C := "OriginDesk$MediaType") (n := "HTML_LEVEL") (d := "LOriginDesk$MediaType;") (nf_at hgv 297 (by decide +kernel))
  obtain ⟨t5, et5⟩ := stat_of (C := "OriginDesk$MediaType") (n := "SVG") (d := "LOriginDesk$MediaType;") (nf_at hgv 309 (by decide +kernel))
  obtain ⟨g0, eg0⟩ := stat_of (C := "OriginDesk$Language") (n := "EN") (d := "LOriginDesk$Language;") (nf_at hgv 261 (by decide +kernel))
  obtain ⟨g1, eg1⟩ := stat_of (C := "OriginDesk$Language") (n := "EN_US") (d := "LOriginDesk$Language;") (nf_at hgv 322 (by decide +kernel))
  obtain ⟨g2, eg2⟩ := stat_of (C := "OriginDesk$Language") (n := "DE") (d := "LOriginDesk$Language;") (nf_at hgv 334 (by decide +kernel))
  obtain ⟨g3, eg3⟩ := stat_of (C := "OriginDesk$Language") (n := "DE_AT") (d := "LOriginDesk$Language;") (nf_at hgv 347 (by decide +kernel))
  obtain ⟨g4, eg4⟩ := stat_of (C := "OriginDesk$Language") (n := "FR") (d := "LOriginDesk$Language;") (nf_at hgv 361 (by decide +kernel))
  obtain ⟨g5, eg5⟩ := stat_of (C := "OriginDesk$Language") (n := "NONE") (d := "LOriginDesk$Language;") (nf_at hgv 235 (by decide +kernel))
  refine ⟨(fun i => if i < 100 then ([a_Rd_62, a_Dk_173, a_Ac_42, a_Ac_80, a_Da_26, a_Da_78, a_Da_80, a_Da_88, a_Da_90, a_Da_92, a_Da_94, a_Da_96, a_Da_104, a_La_51, a_Ra_32, a_Rs_70, a_Rs_82, a_Rs_93, a_Rs_105, a_Tg_52] : List Nat).getD i 0 else if i < 200 then ([t0, t1, t2, t3, t4, t5] : List Nat).getD (i - 100) 0 else ([g0, g1, g2, g3, g4, g5] : List Nat).getD (i - 200) 0), ⟨?_, ?_, ?_, ?_, ?_⟩, ?_⟩
  · intro i q hq
    have hi : i < 20 := (List.getElem?_eq_some_iff.mp hq).1
    rcases (show i = 0 ∨ i = 1 ∨ i = 2 ∨ i = 3 ∨ i = 4 ∨ i = 5 ∨ i = 6 ∨ i = 7 ∨ i = 8 ∨ i = 9 ∨ i = 10 ∨ i = 11 ∨ i = 12 ∨ i = 13 ∨ i = 14 ∨ i = 15 ∨ i = 16 ∨ i = 17 ∨ i = 18 ∨ i = 19 by omega) with rfl | rfl | rfl | rfl | rfl | rfl | rfl | rfl | rfl | rfl | rfl | rfl | rfl | rfl | rfl | rfl | rfl | rfl | rfl | rfl
    · cases hq; exact ⟨vk_R.of (tb_at hts 618 (by decide +kernel)) e_Rd_62, cs, f_Rd_62⟩
    · cases hq; exact ⟨vk_R.of (tb_at hts 1185 (by decide +kernel)) e_Dk_173, cs, f_Dk_173⟩
    · cases hq; exact ⟨vk_R.of (tb_at hts 680 (by decide +kernel)) e_Ac_42, cs, f_Ac_42⟩
    · cases hq; exact ⟨vk_R.of (tb_at hts 740 (by decide +kernel)) e_Ac_80, cs, f_Ac_80⟩
    · cases hq; exact ⟨vk_R.of (tb_at hts 901 (by decide +kernel)) e_Da_26, cs, f_Da_26⟩
    · cases hq; exact ⟨vk_R.of (tb_at hts 939 (by decide +kernel)) e_Da_78, cs, f_Da_78⟩
    · cases hq; exact ⟨vk_R.of (tb_at hts 963 (by decide +kernel)) e_Da_80, cs, f_Da_80⟩
    · cases hq; exact ⟨vk_R.of (tb_at hts 954 (by decide +kernel)) e_Da_88, cs, f_Da_88⟩
    · cases hq; exact ⟨vk_R.of (tb_at hts 955 (by decide +kernel)) e_Da_90, cs, f_Da_90⟩
    · cases hq; exact ⟨vk_R.of (tb_at hts 956 (by decide +kernel)) e_Da_92, cs, f_Da_92⟩
    · cases hq; exact ⟨vk_R.of (tb_at hts 957 (by decide +kernel)) e_Da_94, cs, f_Da_94⟩
    · cases hq; exact ⟨vk_R.of (tb_at hts 958 (by decide +kernel)) e_Da_96, cs, f_Da_96⟩
    · cases hq; exact ⟨vk_R.of (tb_at hts 930 (by decide +kernel)) e_Da_104, cs, f_Da_104⟩
    · cases hq; exact ⟨vk_R.of (tb_at hts 813 (by decide +kernel)) e_La_51, cs, f_La_51⟩
    · cases hq; exact ⟨vk_R.of (tb_at hts 999 (by decide +kernel)) e_Ra_32, cs, f_Ra_32⟩
    · cases hq; exact ⟨vk_R.of (tb_at hts 1056 (by decide +kernel)) e_Rs_70, cs, f_Rs_70⟩
    · cases hq; exact ⟨vk_R.of (tb_at hts 1117 (by decide +kernel)) e_Rs_82, cs, f_Rs_82⟩
    · cases hq; exact ⟨vk_R.of (tb_at hts 1082 (by decide +kernel)) e_Rs_93, cs, f_Rs_93⟩
    · cases hq; exact ⟨vk_R.of (tb_at hts 1115 (by decide +kernel)) e_Rs_105, cs, f_Rs_105⟩
    · cases hq; exact ⟨vk_R.of (tb_at hts 872 (by decide +kernel)) e_Tg_52, cs, f_Tg_52⟩
  · intro kd hkd
    rcases (show kd = 0 ∨ kd = 1 ∨ kd = 2 ∨ kd = 3 ∨ kd = 4 ∨ kd = 5 by omega) with rfl | rfl | rfl | rfl | rfl | rfl
    · exact ⟨a_Mt_55, a_Mt_57, a_Mt_59, a_Mt_59, ⟨vk_OFof et0 (eq_R (nf_at hgv 256 (by decide +kernel)) e_Mt_55) hA, cs, f_Mt_55⟩, ⟨vk_OFof et0 (eq_R (nf_at hgv 257 (by decide +kernel)) e_Mt_57) hA, cs, f_Mt_57⟩, ⟨vk_OFof et0 (eq_R (nf_at hgv 258 (by decide +kernel)) e_Mt_59) hA, cs, f_Mt_59⟩, ⟨vk_OFof et0 (eq_R (nf_at hgv 259 (by decide +kernel)) e_Mt_59) hA, cs, f_Mt_59⟩⟩
    · exact ⟨a_Mt_55, a_Mt_65, a_Mt_59, a_Mt_59, ⟨vk_OFof et1 (eq_R (nf_at hgv 269 (by decide +kernel)) e_Mt_55) hA, cs, f_Mt_55⟩, ⟨vk_OFof et1 (eq_R (nf_at hgv 270 (by decide +kernel)) e_Mt_65) hA, cs, f_Mt_65⟩, ⟨vk_OFof et1 (eq_R (nf_at hgv 271 (by decide +kernel)) e_Mt_59) hA, cs, f_Mt_59⟩, ⟨vk_OFof et1 (eq_R (nf_at hgv 272 (by decide +kernel)) e_Mt_59) hA, cs, f_Mt_59⟩⟩
    · exact ⟨a_Mt_68, a_Mt_70, a_Mt_59, a_Mt_59, ⟨vk_OFof et2 (eq_R (nf_at hgv 278 (by decide +kernel)) e_Mt_68) hA, cs, f_Mt_68⟩, ⟨vk_OFof et2 (eq_R (nf_at hgv 279 (by decide +kernel)) e_Mt_70) hA, cs, f_Mt_70⟩, ⟨vk_OFof et2 (eq_R (nf_at hgv 280 (by decide +kernel)) e_Mt_59) hA, cs, f_Mt_59⟩, ⟨vk_OFof et2 (eq_R (nf_at hgv 281 (by decide +kernel)) e_Mt_59) hA, cs, f_Mt_59⟩⟩
    · exact ⟨a_Mt_73, a_Mt_75, a_Mt_59, a_Mt_59, ⟨vk_OFof et3 (eq_R (nf_at hgv 288 (by decide +kernel)) e_Mt_73) hA, cs, f_Mt_73⟩, ⟨vk_OFof et3 (eq_R (nf_at hgv 289 (by decide +kernel)) e_Mt_75) hA, cs, f_Mt_75⟩, ⟨vk_OFof et3 (eq_R (nf_at hgv 290 (by decide +kernel)) e_Mt_59) hA, cs, f_Mt_59⟩, ⟨vk_OFof et3 (eq_R (nf_at hgv 291 (by decide +kernel)) e_Mt_59) hA, cs, f_Mt_59⟩⟩
    · exact ⟨a_Mt_55, a_Mt_57, a_Mt_78, a_Mt_80, ⟨vk_OFof et4 (eq_R (nf_at hgv 299 (by decide +kernel)) e_Mt_55) hA, cs, f_Mt_55⟩, ⟨vk_OFof et4 (eq_R (nf_at hgv 300 (by decide +kernel)) e_Mt_57) hA, cs, f_Mt_57⟩, ⟨vk_OFof et4 (eq_R (nf_at hgv 301 (by decide +kernel)) e_Mt_78) hA, cs, f_Mt_78⟩, ⟨vk_OFof et4 (eq_R (nf_at hgv 302 (by decide +kernel)) e_Mt_80) hA, cs, f_Mt_80⟩⟩
    · exact ⟨a_Mt_73, a_Mt_83, a_Mt_59, a_Mt_59, ⟨vk_OFof et5 (eq_R (nf_at hgv 311 (by decide +kernel)) e_Mt_73) hA, cs, f_Mt_73⟩, ⟨vk_OFof et5 (eq_R (nf_at hgv 312 (by decide +kernel)) e_Mt_83) hA, cs, f_Mt_83⟩, ⟨vk_OFof et5 (eq_R (nf_at hgv 313 (by decide +kernel)) e_Mt_59) hA, cs, f_Mt_59⟩, ⟨vk_OFof et5 (eq_R (nf_at hgv 314 (by decide +kernel)) e_Mt_59) hA, cs, f_Mt_59⟩⟩
  · intro wh hwh
    rcases (show wh = 0 ∨ wh = 1 ∨ wh = 2 ∨ wh = 3 ∨ wh = 4 ∨ wh = 5 by omega) with rfl | rfl | rfl | rfl | rfl | rfl
    · exact ⟨a_Lg_49, a_Lg_51, ⟨vk_OFof eg0 (eq_R (nf_at hgv 263 (by decide +kernel)) e_Lg_49) hA, cs, f_Lg_49⟩, ⟨vk_OFof eg0 (eq_R (nf_at hgv 264 (by decide +kernel)) e_Lg_51) hA, cs, f_Lg_51⟩⟩
    · exact ⟨a_Lg_57, a_Lg_49, ⟨vk_OFof eg1 (eq_R (nf_at hgv 324 (by decide +kernel)) e_Lg_57) hA, cs, f_Lg_57⟩, ⟨vk_OFof eg1 (eq_R (nf_at hgv 325 (by decide +kernel)) e_Lg_49) hA, cs, f_Lg_49⟩⟩
    · exact ⟨a_Lg_60, a_Lg_51, ⟨vk_OFof eg2 (eq_R (nf_at hgv 336 (by decide +kernel)) e_Lg_60) hA, cs, f_Lg_60⟩, ⟨vk_OFof eg2 (eq_R (nf_at hgv 337 (by decide +kernel)) e_Lg_51) hA, cs, f_Lg_51⟩⟩
    · exact ⟨a_Lg_63, a_Lg_60, ⟨vk_OFof eg3 (eq_R (nf_at hgv 349 (by decide +kernel)) e_Lg_63) hA, cs, f_Lg_63⟩, ⟨vk_OFof eg3 (eq_R (nf_at hgv 350 (by decide +kernel)) e_Lg_60) hA, cs, f_Lg_60⟩⟩
    · exact ⟨a_Lg_66, a_Lg_51, ⟨vk_OFof eg4 (eq_R (nf_at hgv 363 (by decide +kernel)) e_Lg_66) hA, cs, f_Lg_66⟩, ⟨vk_OFof eg4 (eq_R (nf_at hgv 364 (by decide +kernel)) e_Lg_51) hA, cs, f_Lg_51⟩⟩
    · exact ⟨a_Lg_51, a_Lg_51, ⟨vk_OFof eg5 (eq_R (nf_at hgv 237 (by decide +kernel)) e_Lg_51) hA, cs, f_Lg_51⟩, ⟨vk_OFof eg5 (eq_R (nf_at hgv 238 (by decide +kernel)) e_Lg_51) hA, cs, f_Lg_51⟩⟩
  · obtain ⟨t9, ht, hT⟩ := va_Tof (f := fun j => .int (nI ([31, 28, 31, 30, 31, 30, 31, 31, 30, 31, 30, 31].getD j 0))) (N := 12) (A := A) (tm := .static "OriginDesk$Dates" "MONTH_DAYS" "[I") (ty := .int) (by decide) (nf_at hgv 240 (by decide +kernel)) (va_eqt (nf_at hgv 241 (by decide +kernel))) (fun j hj => va_eqt (nf_at hgv (242 + j) (mdN j hj))) hA
    exact ⟨t9, va_Zref (tb_at hts 979 (by decide +kernel)) (tb_at hts 13 (by decide +kernel)) ht hA, hT⟩
  · refine ⟨va_Zref (tb_at hts 1182 (by decide +kernel)) (tb_at hts 26 (by decide +kernel)) et0 hA, va_Zref (tb_at hts 1184 (by decide +kernel)) (tb_at hts 25 (by decide +kernel)) eg0 hA, va_Zref (tb_at hts 776 (by decide +kernel)) (tb_at hts 25 (by decide +kernel)) eg5 hA, ?_, ?_, ?_⟩
    · obtain ⟨t9, ht, hT⟩ := va_Tof (f := fun j => .ref (([t0, t1, t2, t3, t4, t5] : List Nat).getD j 0)) (N := 6) (A := A) (tm := .static "OriginDesk" "TYPES" "[LOriginDesk$MediaType;") (ty := .object "OriginDesk$MediaType") (by decide) (nf_at hgv 5 (by decide +kernel)) (va_eqt (nf_at hgv 6 (by decide +kernel))) (fun j hj => by
        rcases (show j = 0 ∨ j = 1 ∨ j = 2 ∨ j = 3 ∨ j = 4 ∨ j = 5 by omega) with rfl | rfl | rfl | rfl | rfl | rfl
        · exact eq_R (nf_at hgv 8 (by decide +kernel)) et0
        · exact eq_R (nf_at hgv 9 (by decide +kernel)) et1
        · exact eq_R (nf_at hgv 10 (by decide +kernel)) et2
        · exact eq_R (nf_at hgv 11 (by decide +kernel)) et3
        · exact eq_R (nf_at hgv 12 (by decide +kernel)) et4
        · exact eq_R (nf_at hgv 13 (by decide +kernel)) et5) hA
      exact ⟨t9, va_Zref (tb_at hts 311 (by decide +kernel)) (tb_at hts 1 (by decide +kernel)) ht hA, vT_congr (fun j hj => by
        rcases (show j = 0 ∨ j = 1 ∨ j = 2 ∨ j = 3 ∨ j = 4 ∨ j = 5 by omega) with rfl | rfl | rfl | rfl | rfl | rfl <;> rfl) hT⟩
    · obtain ⟨t9, ht, hT⟩ := va_Tof (f := fun j => .ref (([g0, g1, g2, g3, g4, g5] : List Nat).getD j 0)) (N := 6) (A := A) (tm := .static "OriginDesk" "TONGUES" "[LOriginDesk$Language;") (ty := .object "OriginDesk$Language") (by decide) (nf_at hgv 16 (by decide +kernel)) (va_eqt (nf_at hgv 17 (by decide +kernel))) (fun j hj => by
        rcases (show j = 0 ∨ j = 1 ∨ j = 2 ∨ j = 3 ∨ j = 4 ∨ j = 5 by omega) with rfl | rfl | rfl | rfl | rfl | rfl
        · exact eq_R (nf_at hgv 19 (by decide +kernel)) eg0
        · exact eq_R (nf_at hgv 20 (by decide +kernel)) eg1
        · exact eq_R (nf_at hgv 21 (by decide +kernel)) eg2
        · exact eq_R (nf_at hgv 22 (by decide +kernel)) eg3
        · exact eq_R (nf_at hgv 23 (by decide +kernel)) eg4
        · exact eq_R (nf_at hgv 24 (by decide +kernel)) eg5) hA
      exact ⟨t9, va_Zref (tb_at hts 316 (by decide +kernel)) (tb_at hts 1 (by decide +kernel)) ht hA, vT_congr (fun j hj => by
        rcases (show j = 0 ∨ j = 1 ∨ j = 2 ∨ j = 3 ∨ j = 4 ∨ j = 5 by omega) with rfl | rfl | rfl | rfl | rfl | rfl <;> rfl) hT⟩
    · intro wh hwh
      rcases (show wh = 0 ∨ wh = 1 ∨ wh = 2 ∨ wh = 3 ∨ wh = 4 by omega) with rfl | rfl | rfl | rfl | rfl
      · exact (va_neR (nf_at hgv 265 (by decide +kernel)) eg5 eg0).symm
      · exact (va_neR (nf_at hgv 326 (by decide +kernel)) eg5 eg1).symm
      · exact (va_neR (nf_at hgv 338 (by decide +kernel)) eg5 eg2).symm
      · exact (va_neR (nf_at hgv 351 (by decide +kernel)) eg5 eg3).symm
      · exact (va_neR (nf_at hgv 365 (by decide +kernel)) eg5 eg4).symm
  · obtain ⟨d1, hd1, Td1⟩ := va_Tof (f := fun j => .int (sb_b (48 + j % 10))) (N := 100) (A := A) (tm := .static "java/lang/Integer" "DigitOnes" "[B") (ty := .byte) (by decide) (nf_at hgv 30 (by decide +kernel)) (va_eqt (nf_at hgv 31 (by decide +kernel))) (fun j hj => va_eqt (nf_at hgv (32 + j) (dgN_DigitOnes j hj))) hA
    obtain ⟨d2, hd2, Td2⟩ := va_Tof (f := fun j => .int (sb_b (48 + j / 10))) (N := 100) (A := A) (tm := .static "java/lang/Integer" "DigitTens" "[B") (ty := .byte) (by decide) (nf_at hgv 133 (by decide +kernel)) (va_eqt (nf_at hgv 134 (by decide +kernel))) (fun j hj => va_eqt (nf_at hgv (135 + j) (dgN_DigitTens j hj))) hA
    exact ⟨d1, d2, ⟨va_Zref (tb_at hts 435 (by decide +kernel)) (tb_at hts 22 (by decide +kernel)) hd1 hA, Td1⟩, va_Zref (tb_at hts 437 (by decide +kernel)) (tb_at hts 22 (by decide +kernel)) hd2 hA, Td2⟩
theorem law_nw {args : Array Value} {s : State} (hts : ∀ w ∈ lw_tbl, w.before args s = true) : nwF s := ⟨va_Nw.of rfl (tb_at hts 48 (by decide +kernel)), va_Nw.of rfl (tb_at hts 50 (by decide +kernel))⟩
theorem law_nk {args : Array Value} {s : State} {A : Nat → Prop} (hts : ∀ w ∈ lw_tbl, w.before args s = true) : nkF A s s.heap := by
  intro i q hq
  have hi : i < 11 := (List.getElem?_eq_some_iff.mp hq).1
  rcases (show i = 0 ∨ i = 1 ∨ i = 2 ∨ i = 3 ∨ i = 4 ∨ i = 5 ∨ i = 6 ∨ i = 7 ∨ i = 8 ∨ i = 9 ∨ i = 10 by omega) with rfl | rfl | rfl | rfl | rfl | rfl | rfl | rfl | rfl | rfl | rfl
  · cases hq; exact va_Nw.of rfl (tb_at hts 64 (by decide +kernel))
  · cases hq; exact va_Nw.of rfl (tb_at hts 105 (by decide +kernel))
  · cases hq; exact va_Nw.of rfl (tb_at hts 124 (by decide +kernel))
  · cases hq; exact va_Nw.of rfl (tb_at hts 249 (by decide +kernel))
  · cases hq; exact va_Nw.of rfl (tb_at hts 148 (by decide +kernel))
  · cases hq; exact va_Nw.of rfl (tb_at hts 39 (by decide +kernel))
  · cases hq; exact va_Nw.of rfl (tb_at hts 61 (by decide +kernel))
  · cases hq; exact va_Nw.of rfl (tb_at hts 102 (by decide +kernel))
  · cases hq; exact va_Nw.of rfl (tb_at hts 121 (by decide +kernel))
  · cases hq; exact va_Nw.of rfl (tb_at hts 145 (by decide +kernel))
  · cases hq; exact va_Nw.of rfl (tb_at hts 174 (by decide +kernel))
theorem law_ar {args : Array Value} {s : State} {A : Nat → Prop} (hts : ∀ w ∈ lw_tbl, w.before args s = true) : arF A s s.heap ∧ aoF A s s.heap := ⟨va_AO.of (tb_at hts 36 (by decide +kernel)), (show (Cond.arrayOver (.array .int)).before #[] s = true from (tb_at hts 44 (by decide +kernel) : (Cond.arrayOver (.array .int)).before args s = true))⟩
theorem law_say {args : Array Value} {s : State} (hts : ∀ w ∈ lw_tbl, w.before args s = true) : ∀ w ∈ sayS, w.before args s = true := by
  intro w hw
  obtain ⟨i, hi⟩ := List.mem_iff_getElem?.mp hw
  have hl : i < 9 := (List.getElem?_eq_some_iff.mp hi).1
  rcases (show i = 0 ∨ i = 1 ∨ i = 2 ∨ i = 3 ∨ i = 4 ∨ i = 5 ∨ i = 6 ∨ i = 7 ∨ i = 8 by omega) with rfl | rfl | rfl | rfl | rfl | rfl | rfl | rfl | rfl <;> cases hi
  · exact sel_private (n := 10) (C1 := "OriginDesk$Accept") (x1 := ⟨"OriginDesk$Reader", "skipGap", "()V"⟩) (y1 := ⟨"OriginDesk$Reader", "skipGap", "()V"⟩) ⟨by decide, by decide⟩ (tb_at hts 60 (by decide +kernel)) (tb_at hts 677 (by decide +kernel)) (tb_at hts 678 (by decide +kernel)) (tb_at hts 733 (by decide +kernel)) rfl
  · exact sel_private (n := 7) (C1 := "OriginDesk$Accept") (x1 := ⟨"OriginDesk$Reader", "skipGap", "()V"⟩) (y1 := ⟨"OriginDesk$Reader", "skipGap", "()V"⟩) ⟨by decide, by decide⟩ (tb_at hts 101 (by decide +kernel)) (tb_at hts 677 (by decide +kernel)) (tb_at hts 678 (by decide +kernel)) (tb_at hts 733 (by decide +kernel)) rfl
  · exact sel_private (n := 8) (C1 := "OriginDesk$Accept") (x1 := ⟨"OriginDesk$Reader", "skipGap", "()V"⟩) (y1 := ⟨"OriginDesk$Reader", "skipGap", "()V"⟩) ⟨by decide, by decide⟩ (tb_at hts 120 (by decide +kernel)) (tb_at hts 677 (by decide +kernel)) (tb_at hts 678 (by decide +kernel)) (tb_at hts 733 (by decide +kernel)) rfl
  · exact sel_private (n := 10) (C1 := "OriginDesk$Accept") (x1 := ⟨"OriginDesk$Reader", "skipGap", "()V"⟩) (y1 := ⟨"OriginDesk$Reader", "skipGap", "()V"⟩) ⟨by decide, by decide⟩ (tb_at hts 244 (by decide +kernel)) (tb_at hts 677 (by decide +kernel)) (tb_at hts 678 (by decide +kernel)) (tb_at hts 733 (by decide +kernel)) rfl
  · exact sel_private (n := 9) (C1 := "OriginDesk$Accept") (x1 := ⟨"OriginDesk$Reader", "skipGap", "()V"⟩) (y1 := ⟨"OriginDesk$Reader", "skipGap", "()V"⟩) ⟨by decide, by decide⟩ (tb_at hts 144 (by decide +kernel)) (tb_at hts 677 (by decide +kernel)) (tb_at hts 678 (by decide +kernel)) (tb_at hts 733 (by decide +kernel)) rfl
  · exact sel_private (n := 4) (C1 := "java/lang/StringBuilder") (x1 := ⟨"java/lang/AbstractStringBuilder", "isLatin1", "()Z"⟩) (y1 := ⟨"java/lang/AbstractStringBuilder", "isLatin1", "()Z"⟩) ⟨by decide, by decide⟩ (tb_at hts 179 (by decide +kernel)) (tb_at hts 334 (by decide +kernel)) (tb_at hts 335 (by decide +kernel)) (tb_at hts 371 (by decide +kernel)) rfl
  · exact sel_private (n := 4) (C1 := "java/lang/StringBuilder") (x1 := ⟨"java/lang/AbstractStringBuilder", "isLatin1", "()Z"⟩) (y1 := ⟨"java/lang/AbstractStringBuilder", "isLatin1", "()Z"⟩) ⟨by decide, by decide⟩ (tb_at hts 179 (by decide +kernel)) (tb_at hts 338 (by decide +kernel)) (tb_at hts 339 (by decide +kernel)) (tb_at hts 371 (by decide +kernel)) rfl
  · exact sel_private (n := 4) (C1 := "java/lang/StringBuilder") (x1 := ⟨"java/lang/AbstractStringBuilder", "isLatin1", "()Z"⟩) (y1 := ⟨"java/lang/AbstractStringBuilder", "isLatin1", "()Z"⟩) ⟨by decide, by decide⟩ (tb_at hts 179 (by decide +kernel)) (tb_at hts 1099 (by decide +kernel)) (tb_at hts 1100 (by decide +kernel)) (tb_at hts 371 (by decide +kernel)) rfl
  · exact sel_private (n := 4) (C1 := "java/lang/StringBuilder") (x1 := ⟨"java/lang/AbstractStringBuilder", "isLatin1", "()Z"⟩) (y1 := ⟨"java/lang/AbstractStringBuilder", "isLatin1", "()Z"⟩) ⟨by decide, by decide⟩ (tb_at hts 179 (by decide +kernel)) (tb_at hts 1103 (by decide +kernel)) (tb_at hts 1104 (by decide +kernel)) (tb_at hts 371 (by decide +kernel)) rfl
theorem law_gw {args : Array Value} {s : State} (hts : ∀ w ∈ lw_tbl, w.before args s = true) : ∀ w ∈ gw, w.before args s = true := by
  intro w hw
  rcases List.mem_append.mp (List.mem_filter.mp hw).1 with h | h
  · exact law_say hts w h
  · exact hts w h
theorem arT {s : State} {args : Array Value} {t : FieldType} (hp : t.isReference = false) (h : (Cond.arrayClass t).before args s = true) : ∃ c : ClassId, ArrOfT s c t ∧ s.vm.findClass ("[" ++ t.toString) = some c := by
  obtain ⟨cB, kB, comp, hn, hk, hkind⟩ := Cond.arrayClass_spec h
  exact ⟨cB, fun N z => ⟨(fun k h => by cases h), kB, hk, comp, hkind⟩, hn⟩
theorem arA {s : State} (h : (Cond.arrayOver (.array .int)).before #[] s = true) : ∃ c : ClassId, ArrOfT s c (.array .int) ∧ s.vm.findClass ("[" ++ (FieldType.array .int).toString) = some c := by
  simp only [Cond.before, Cond.holds, Cond.value, beq_iff_eq] at h
  cases hc : s.vm.findClass (FieldType.array .int).toString with
  | none => simp [hc] at h
  | some comp =>
    simp only [hc, Option.bind_some, Option.bind_eq_some_iff, Option.map_eq_some_iff] at h
    obtain ⟨c, hi, k, hk, hb⟩ := h
    cases hkind : k.kind with
    | array component ty =>
      rw [hkind] at hb
      simp at hb
      exact ⟨c, fun N z => ⟨(fun k h => by cases h), k, hk, component, by rw [hkind, hb.1]⟩, hb.2⟩
    | _ => rw [hkind] at hb; simp at hb
theorem law_K {args : Array Value} {s : State} (hts : ∀ w ∈ lw_tbl, w.before args s = true) : ∃ (D : va_G) (tys : List (ClassId × FieldType)) (tc : Nat → ClassId) (tcA tcR : ClassId), va_K D cls tys s ∧ (∀ i : Nat, i < 4 → tys[i]? = some (tc i, vx_ty i)) ∧ tys[5]? = some (tcA, .array .int) ∧ tys[4]? = some (tcR, .object "OriginDesk$Representation") := by
  have hg := law_gw hts
  have hD : ∀ c : Nat, ∃ (x : ClassId × (Nat → Nat)), ∀ q, cls[c]? = some q → u_Kn s q.1 q.2.1 q.2.2 x.1 x.2 := by
    intro c
    cases hq : cls[c]? with
    | none => exact ⟨(0, fun _ => 0), fun q h => by cases h⟩
    | some q =>
      have hin := (cls_ok c q hq).1
      obtain ⟨n, hn⟩ : ∃ n, (Cond.instantiable q.1 n).before args s = true := by
        have hc : c < 12 := (List.getElem?_eq_some_iff.mp hq).1
        rcases (show c = 0 ∨ c = 1 ∨ c = 2 ∨ c = 3 ∨ c = 4 ∨ c = 5 ∨ c = 6 ∨ c = 7 ∨ c = 8 ∨ c = 9 ∨ c = 10 ∨ c = 11 by omega) with rfl | rfl | rfl | rfl | rfl | rfl | rfl | rfl | rfl | rfl | rfl | rfl <;> cases hq
        · exact ⟨10, tb_at hts 60 (by decide +kernel)⟩
        · exact ⟨7, tb_at hts 101 (by decide +kernel)⟩
        · exact ⟨8, tb_at hts 120 (by decide +kernel)⟩
        · exact ⟨10, tb_at hts 244 (by decide +kernel)⟩
        · exact ⟨9, tb_at hts 144 (by decide +kernel)⟩
        · exact ⟨3, tb_at hts 38 (by decide +kernel)⟩
        · exact ⟨8, tb_at hts 173 (by decide +kernel)⟩
        · exact ⟨7, tb_at hts 319 (by decide +kernel)⟩
        · exact ⟨9, tb_at hts 28 (by decide +kernel)⟩
        · exact ⟨31, tb_at hts 1194 (by decide +kernel)⟩
        · exact ⟨4, tb_at hts 460 (by decide +kernel)⟩
        · exact ⟨4, tb_at hts 179 (by decide +kernel)⟩
      obtain ⟨cC, iS, hKn⟩ := u_known (C := q.1) (T := q.2.1) (N := q.2.2) (n := n) hg hin hn
      exact ⟨(cC, iS), fun q2 h => by cases h; exact hKn⟩
  obtain ⟨dd, hdd⟩ := Classical.axiomOfChoice hD
  obtain ⟨c0, p0, n0⟩ := arT (s := s) (args := args) (t := .int) rfl (hg _ wa_int)
  obtain ⟨c1, p1, n1⟩ := arT (s := s) (args := args) (t := .byte) rfl (hg _ wa_byte)
  obtain ⟨c2, p2, n2⟩ := arT (s := s) (args := args) (t := .long) rfl (hg _ wa_long)
  obtain ⟨c3, p3, n3⟩ := arT (s := s) (args := args) (t := .boolean) rfl (hg _ wa_boolean)
  obtain ⟨cR, kR, gR, r1, r2, r3, r4, r5⟩ := Cond.arrayOver_spec (law_ar (A := fun _ => True) hts).1
  obtain ⟨cA, x1, x2⟩ := arA (law_ar (s := s) (A := fun _ => True) hts).2
  refine ⟨(fun c => (dd c).1, fun c => (dd c).2), [(c0, .int), (c1, .byte), (c2, .long), (c3, .boolean), (kR, .object "OriginDesk$Representation"), (cA, .array .int)], fun i => ([c0, c1, c2, c3] : List ClassId).getD i 0, cA, kR, ⟨fun c q hq => hdd c q hq, fun k q hk => ?_⟩, fun i hi => ?_, rfl, rfl⟩
  · have hl : k < 6 := (List.getElem?_eq_some_iff.mp hk).1
    rcases (show k = 0 ∨ k = 1 ∨ k = 2 ∨ k = 3 ∨ k = 4 ∨ k = 5 by omega) with rfl | rfl | rfl | rfl | rfl | rfl <;> cases hk
    · exact ⟨p0, n0⟩
    · exact ⟨p1, n1⟩
    · exact ⟨p2, n2⟩
    · exact ⟨p3, n3⟩
    · exact ⟨fun N z => ⟨(fun k h => by cases h), gR, r3, cR, r4⟩, gR, cR, r3, r4, r1, r5⟩
    · exact ⟨x1, x2⟩
  · rcases (show i = 0 ∨ i = 1 ∨ i = 2 ∨ i = 3 by omega) with rfl | rfl | rfl | rfl <;> rfl
