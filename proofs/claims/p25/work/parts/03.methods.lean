def tbOkR (by_ : ByteArray) (o : Nat) (tb : List (List (Option XE))) (lo n : Nat) : Bool := (List.range n).all fun k => match tbGet tb (lo + k) with
  | some e => chkE by_ o (lo + k) e
  | none => true
theorem tbOk_of {by_ : ByteArray} {o : Nat} {tb : List (List (Option XE))} (J : Nat) (hJ : 16 * tb.length ≤ 96 * J) (h : ∀ j, j < J → tbOkR by_ o tb (96 * j) 96 = true) : tbOk by_ o tb = true := by
  unfold tbOk
  refine List.all_eq_true.mpr fun pc hpc => ?_
  have h1 : pc < 16 * tb.length := List.mem_range.mp hpc
  have h2 := List.all_eq_true.mp (h (pc / 96) (by omega)) (pc % 96) (List.mem_range.mpr (Nat.mod_lt _ (by decide)))
  rw [show 96 * (pc / 96) + pc % 96 = pc by omega] at h2
  exact h2
theorem lt_1 {p : Nat → Prop} (h0 : p 0) : ∀ j, j < 1 → p j := lt_s lt_0 h0
set_option maxRecDepth 100000 in
theorem to0_0 : tbOkR prog_1_method_1_code 0 tb0 0 96 = true := by decide +kernel
theorem to0 : tbOk prog_1_method_1_code 0 tb0 = true := tbOk_of 1 (by decide) (lt_s (lt_0) to0_0)
set_option maxRecDepth 100000 in
theorem to1_0 : tbOkR prog_6_method_1_code 1 tb1 0 96 = true := by decide +kernel
set_option maxRecDepth 100000 in
theorem to1_1 : tbOkR prog_6_method_1_code 1 tb1 96 96 = true := by decide +kernel
set_option maxRecDepth 100000 in
theorem to1_2 : tbOkR prog_6_method_1_code 1 tb1 192 96 = true := by decide +kernel
theorem to1 : tbOk prog_6_method_1_code 1 tb1 = true := tbOk_of 3 (by decide) (lt_s (lt_s (lt_s (lt_0) to1_0) to1_1) to1_2)
set_option maxRecDepth 100000 in
theorem to2_0 : tbOkR prog_11_method_1_code 3 tb2 0 96 = true := by decide +kernel
theorem to2 : tbOk prog_11_method_1_code 3 tb2 = true := tbOk_of 1 (by decide) (lt_s (lt_0) to2_0)
set_option maxRecDepth 100000 in
theorem to3_0 : tbOkR prog_10_method_1_code 4 tb3 0 96 = true := by decide +kernel
theorem to3 : tbOk prog_10_method_1_code 4 tb3 = true := tbOk_of 1 (by decide) (lt_s (lt_0) to3_0)
set_option maxRecDepth 100000 in
theorem to4_0 : tbOkR prog_9_method_1_code 5 tb4 0 96 = true := by decide +kernel
theorem to4 : tbOk prog_9_method_1_code 5 tb4 = true := tbOk_of 1 (by decide) (lt_s (lt_0) to4_0)
set_option maxRecDepth 100000 in
theorem to5_0 : tbOkR prog_2_method_1_code 6 tb5 0 96 = true := by decide +kernel
theorem to5 : tbOk prog_2_method_1_code 6 tb5 = true := tbOk_of 1 (by decide) (lt_s (lt_0) to5_0)
set_option maxRecDepth 100000 in
theorem to6_0 : tbOkR prog_7_method_1_code 2 tb6 0 96 = true := by decide +kernel
theorem to6 : tbOk prog_7_method_1_code 2 tb6 = true := tbOk_of 1 (by decide) (lt_s (lt_0) to6_0)
set_option maxRecDepth 100000 in
theorem to7_0 : tbOkR prog_3_method_1_code 7 tb7 0 96 = true := by decide +kernel
set_option maxRecDepth 100000 in
theorem to7_1 : tbOkR prog_3_method_1_code 7 tb7 96 96 = true := by decide +kernel
theorem to7 : tbOk prog_3_method_1_code 7 tb7 = true := tbOk_of 2 (by decide) (lt_s (lt_s (lt_0) to7_0) to7_1)
set_option maxRecDepth 100000 in
theorem to8_0 : tbOkR prog_12_method_1_code 9 tb8 0 96 = true := by decide +kernel
theorem to8 : tbOk prog_12_method_1_code 9 tb8 = true := tbOk_of 1 (by decide) (lt_s (lt_0) to8_0)
set_option maxRecDepth 100000 in
theorem to9_0 : tbOkR prog_4_method_1_code 8 tb9 0 96 = true := by decide +kernel
theorem to9 : tbOk prog_4_method_1_code 8 tb9 = true := tbOk_of 1 (by decide) (lt_s (lt_0) to9_0)
set_option maxRecDepth 100000 in
theorem to10_0 : tbOkR prog_5_method_1_code 10 tb10 0 96 = true := by decide +kernel
theorem to10 : tbOk prog_5_method_1_code 10 tb10 = true := tbOk_of 1 (by decide) (lt_s (lt_0) to10_0)
set_option maxRecDepth 100000 in
theorem to11_0 : tbOkR prog_1_method_2_code 0 tb11 0 96 = true := by decide +kernel
theorem to11 : tbOk prog_1_method_2_code 0 tb11 = true := tbOk_of 1 (by decide) (lt_s (lt_0) to11_0)
set_option maxRecDepth 100000 in
theorem to12_0 : tbOkR prog_1_method_41_code 0 tb12 0 96 = true := by decide +kernel
theorem to12 : tbOk prog_1_method_41_code 0 tb12 = true := tbOk_of 1 (by decide) (lt_s (lt_0) to12_0)
set_option maxRecDepth 100000 in
theorem to13_0 : tbOkR prog_3_method_2_code 7 tb13 0 96 = true := by decide +kernel
theorem to13 : tbOk prog_3_method_2_code 7 tb13 = true := tbOk_of 1 (by decide) (lt_s (lt_0) to13_0)
set_option maxRecDepth 100000 in
theorem to14_0 : tbOkR prog_4_method_2_code 8 tb14 0 96 = true := by decide +kernel
theorem to14 : tbOk prog_4_method_2_code 8 tb14 = true := tbOk_of 1 (by decide) (lt_s (lt_0) to14_0)
set_option maxRecDepth 100000 in
theorem to15_0 : tbOkR prog_1_method_3_code 0 tb15 0 96 = true := by decide +kernel
theorem to15 : tbOk prog_1_method_3_code 0 tb15 = true := tbOk_of 1 (by decide) (lt_s (lt_0) to15_0)
set_option maxRecDepth 100000 in
theorem to16_0 : tbOkR prog_1_method_43_code 0 tb16 0 96 = true := by decide +kernel
set_option maxRecDepth 100000 in
theorem to16_1 : tbOkR prog_1_method_43_code 0 tb16 96 96 = true := by decide +kernel
theorem to16 : tbOk prog_1_method_43_code 0 tb16 = true := tbOk_of 2 (by decide) (lt_s (lt_s (lt_0) to16_0) to16_1)
set_option maxRecDepth 100000 in
theorem to17_0 : tbOkR prog_1_method_42_code 0 tb17 0 96 = true := by decide +kernel
theorem to17 : tbOk prog_1_method_42_code 0 tb17 = true := tbOk_of 1 (by decide) (lt_s (lt_0) to17_0)
set_option maxRecDepth 100000 in
theorem to18_0 : tbOkR prog_7_method_2_code 2 tb18 0 96 = true := by decide +kernel
theorem to18 : tbOk prog_7_method_2_code 2 tb18 = true := tbOk_of 1 (by decide) (lt_s (lt_0) to18_0)
set_option maxRecDepth 100000 in
theorem to19_0 : tbOkR prog_1_method_4_code 0 tb19 0 96 = true := by decide +kernel
theorem to19 : tbOk prog_1_method_4_code 0 tb19 = true := tbOk_of 1 (by decide) (lt_s (lt_0) to19_0)
set_option maxRecDepth 100000 in
theorem to20_0 : tbOkR prog_1_method_5_code 0 tb20 0 96 = true := by decide +kernel
theorem to20 : tbOk prog_1_method_5_code 0 tb20 = true := tbOk_of 1 (by decide) (lt_s (lt_0) to20_0)
set_option maxRecDepth 100000 in
theorem to21_0 : tbOkR prog_11_method_2_code 3 tb21 0 96 = true := by decide +kernel
theorem to21 : tbOk prog_11_method_2_code 3 tb21 = true := tbOk_of 1 (by decide) (lt_s (lt_0) to21_0)
set_option maxRecDepth 100000 in
theorem to22_0 : tbOkR prog_11_method_3_code 3 tb22 0 96 = true := by decide +kernel
set_option maxRecDepth 100000 in
theorem to22_1 : tbOkR prog_11_method_3_code 3 tb22 96 96 = true := by decide +kernel
theorem to22 : tbOk prog_11_method_3_code 3 tb22 = true := tbOk_of 2 (by decide) (lt_s (lt_s (lt_0) to22_0) to22_1)
set_option maxRecDepth 100000 in
theorem to23_0 : tbOkR prog_1_method_6_code 0 tb23 0 96 = true := by decide +kernel
theorem to23 : tbOk prog_1_method_6_code 0 tb23 = true := tbOk_of 1 (by decide) (lt_s (lt_0) to23_0)
set_option maxRecDepth 100000 in
theorem to24_0 : tbOkR prog_1_method_7_code 0 tb24 0 96 = true := by decide +kernel
theorem to24 : tbOk prog_1_method_7_code 0 tb24 = true := tbOk_of 1 (by decide) (lt_s (lt_0) to24_0)
set_option maxRecDepth 100000 in
theorem to25_0 : tbOkR prog_1_method_8_code 0 tb25 0 96 = true := by decide +kernel
theorem to25 : tbOk prog_1_method_8_code 0 tb25 = true := tbOk_of 1 (by decide) (lt_s (lt_0) to25_0)
set_option maxRecDepth 100000 in
theorem to26_0 : tbOkR prog_1_method_9_code 0 tb26 0 96 = true := by decide +kernel
set_option maxRecDepth 100000 in
theorem to26_1 : tbOkR prog_1_method_9_code 0 tb26 96 96 = true := by decide +kernel
theorem to26 : tbOk prog_1_method_9_code 0 tb26 = true := tbOk_of 2 (by decide) (lt_s (lt_s (lt_0) to26_0) to26_1)
set_option maxRecDepth 100000 in
theorem to27_0 : tbOkR prog_10_method_2_code 4 tb27 0 96 = true := by decide +kernel
theorem to27 : tbOk prog_10_method_2_code 4 tb27 = true := tbOk_of 1 (by decide) (lt_s (lt_0) to27_0)
set_option maxRecDepth 100000 in
theorem to28_0 : tbOkR prog_1_method_10_code 0 tb28 0 96 = true := by decide +kernel
theorem to28 : tbOk prog_1_method_10_code 0 tb28 = true := tbOk_of 1 (by decide) (lt_s (lt_0) to28_0)
set_option maxRecDepth 100000 in
theorem to29_0 : tbOkR prog_1_method_11_code 0 tb29 0 96 = true := by decide +kernel
theorem to29 : tbOk prog_1_method_11_code 0 tb29 = true := tbOk_of 1 (by decide) (lt_s (lt_0) to29_0)
set_option maxRecDepth 100000 in
theorem to30_0 : tbOkR prog_1_method_12_code 0 tb30 0 96 = true := by decide +kernel
theorem to30 : tbOk prog_1_method_12_code 0 tb30 = true := tbOk_of 1 (by decide) (lt_s (lt_0) to30_0)
set_option maxRecDepth 100000 in
theorem to31_0 : tbOkR prog_1_method_13_code 0 tb31 0 96 = true := by decide +kernel
theorem to31 : tbOk prog_1_method_13_code 0 tb31 = true := tbOk_of 1 (by decide) (lt_s (lt_0) to31_0)
set_option maxRecDepth 100000 in
theorem to32_0 : tbOkR prog_9_method_2_code 5 tb32 0 96 = true := by decide +kernel
theorem to32 : tbOk prog_9_method_2_code 5 tb32 = true := tbOk_of 1 (by decide) (lt_s (lt_0) to32_0)
set_option maxRecDepth 100000 in
theorem to33_0 : tbOkR prog_9_method_5_code 5 tb33 0 96 = true := by decide +kernel
theorem to33 : tbOk prog_9_method_5_code 5 tb33 = true := tbOk_of 1 (by decide) (lt_s (lt_0) to33_0)
set_option maxRecDepth 100000 in
theorem to34_0 : tbOkR prog_9_method_9_code 5 tb34 0 96 = true := by decide +kernel
theorem to34 : tbOk prog_9_method_9_code 5 tb34 = true := tbOk_of 1 (by decide) (lt_s (lt_0) to34_0)
set_option maxRecDepth 100000 in
theorem to35_0 : tbOkR prog_9_method_10_code 5 tb35 0 96 = true := by decide +kernel
theorem to35 : tbOk prog_9_method_10_code 5 tb35 = true := tbOk_of 1 (by decide) (lt_s (lt_0) to35_0)
set_option maxRecDepth 100000 in
theorem to36_0 : tbOkR prog_9_method_11_code 5 tb36 0 96 = true := by decide +kernel
theorem to36 : tbOk prog_9_method_11_code 5 tb36 = true := tbOk_of 1 (by decide) (lt_s (lt_0) to36_0)
set_option maxRecDepth 100000 in
theorem to37_0 : tbOkR prog_9_method_12_code 5 tb37 0 96 = true := by decide +kernel
theorem to37 : tbOk prog_9_method_12_code 5 tb37 = true := tbOk_of 1 (by decide) (lt_s (lt_0) to37_0)
set_option maxRecDepth 100000 in
theorem to38_0 : tbOkR prog_9_method_13_code 5 tb38 0 96 = true := by decide +kernel
theorem to38 : tbOk prog_9_method_13_code 5 tb38 = true := tbOk_of 1 (by decide) (lt_s (lt_0) to38_0)
set_option maxRecDepth 100000 in
theorem to39_0 : tbOkR prog_9_method_14_code 5 tb39 0 96 = true := by decide +kernel
set_option maxRecDepth 100000 in
theorem to39_1 : tbOkR prog_9_method_14_code 5 tb39 96 96 = true := by decide +kernel
theorem to39 : tbOk prog_9_method_14_code 5 tb39 = true := tbOk_of 2 (by decide) (lt_s (lt_s (lt_0) to39_0) to39_1)
set_option maxRecDepth 100000 in
theorem to40_0 : tbOkR prog_9_method_7_code 5 tb40 0 96 = true := by decide +kernel
theorem to40 : tbOk prog_9_method_7_code 5 tb40 = true := tbOk_of 1 (by decide) (lt_s (lt_0) to40_0)
set_option maxRecDepth 100000 in
theorem to41_0 : tbOkR prog_9_method_15_code 5 tb41 0 96 = true := by decide +kernel
set_option maxRecDepth 100000 in
theorem to41_1 : tbOkR prog_9_method_15_code 5 tb41 96 96 = true := by decide +kernel
theorem to41 : tbOk prog_9_method_15_code 5 tb41 = true := tbOk_of 2 (by decide) (lt_s (lt_s (lt_0) to41_0) to41_1)
set_option maxRecDepth 100000 in
theorem to42_0 : tbOkR prog_9_method_16_code 5 tb42 0 96 = true := by decide +kernel
set_option maxRecDepth 100000 in
theorem to42_1 : tbOkR prog_9_method_16_code 5 tb42 96 96 = true := by decide +kernel
theorem to42 : tbOk prog_9_method_16_code 5 tb42 = true := tbOk_of 2 (by decide) (lt_s (lt_s (lt_0) to42_0) to42_1)
set_option maxRecDepth 100000 in
theorem to43_0 : tbOkR prog_9_method_6_code 5 tb43 0 96 = true := by decide +kernel
theorem to43 : tbOk prog_9_method_6_code 5 tb43 = true := tbOk_of 1 (by decide) (lt_s (lt_0) to43_0)
set_option maxRecDepth 100000 in
theorem to44_0 : tbOkR prog_9_method_8_code 5 tb44 0 96 = true := by decide +kernel
theorem to44 : tbOk prog_9_method_8_code 5 tb44 = true := tbOk_of 1 (by decide) (lt_s (lt_0) to44_0)
set_option maxRecDepth 100000 in
theorem to45_0 : tbOkR prog_9_method_17_code 5 tb45 0 96 = true := by decide +kernel
theorem to45 : tbOk prog_9_method_17_code 5 tb45 = true := tbOk_of 1 (by decide) (lt_s (lt_0) to45_0)
set_option maxRecDepth 100000 in
theorem to46_0 : tbOkR prog_1_method_14_code 0 tb46 0 96 = true := by decide +kernel
theorem to46 : tbOk prog_1_method_14_code 0 tb46 = true := tbOk_of 1 (by decide) (lt_s (lt_0) to46_0)
set_option maxRecDepth 100000 in
theorem to47_0 : tbOkR prog_9_method_3_code 5 tb47 0 96 = true := by decide +kernel
theorem to47 : tbOk prog_9_method_3_code 5 tb47 = true := tbOk_of 1 (by decide) (lt_s (lt_0) to47_0)
set_option maxRecDepth 100000 in
theorem to48_0 : tbOkR prog_1_method_15_code 0 tb48 0 96 = true := by decide +kernel
theorem to48 : tbOk prog_1_method_15_code 0 tb48 = true := tbOk_of 1 (by decide) (lt_s (lt_0) to48_0)
set_option maxRecDepth 100000 in
theorem to49_0 : tbOkR prog_1_method_16_code 0 tb49 0 96 = true := by decide +kernel
theorem to49 : tbOk prog_1_method_16_code 0 tb49 = true := tbOk_of 1 (by decide) (lt_s (lt_0) to49_0)
set_option maxRecDepth 100000 in
theorem to50_0 : tbOkR prog_5_method_2_code 10 tb50 0 96 = true := by decide +kernel
theorem to50 : tbOk prog_5_method_2_code 10 tb50 = true := tbOk_of 1 (by decide) (lt_s (lt_0) to50_0)
set_option maxRecDepth 100000 in
theorem to51_0 : tbOkR prog_5_method_3_code 10 tb51 0 96 = true := by decide +kernel
theorem to51 : tbOk prog_5_method_3_code 10 tb51 = true := tbOk_of 1 (by decide) (lt_s (lt_0) to51_0)
set_option maxRecDepth 100000 in
theorem to52_0 : tbOkR prog_5_method_4_code 10 tb52 0 96 = true := by decide +kernel
theorem to52 : tbOk prog_5_method_4_code 10 tb52 = true := tbOk_of 1 (by decide) (lt_s (lt_0) to52_0)
set_option maxRecDepth 100000 in
theorem to53_0 : tbOkR prog_5_method_5_code 10 tb53 0 96 = true := by decide +kernel
set_option maxRecDepth 100000 in
theorem to53_1 : tbOkR prog_5_method_5_code 10 tb53 96 96 = true := by decide +kernel
theorem to53 : tbOk prog_5_method_5_code 10 tb53 = true := tbOk_of 2 (by decide) (lt_s (lt_s (lt_0) to53_0) to53_1)
set_option maxRecDepth 100000 in
theorem to54_0 : tbOkR prog_3_method_4_code 7 tb54 0 96 = true := by decide +kernel
theorem to54 : tbOk prog_3_method_4_code 7 tb54 = true := tbOk_of 1 (by decide) (lt_s (lt_0) to54_0)
set_option maxRecDepth 100000 in
theorem to55_0 : tbOkR prog_5_method_6_code 10 tb55 0 96 = true := by decide +kernel
set_option maxRecDepth 100000 in
theorem to55_1 : tbOkR prog_5_method_6_code 10 tb55 96 96 = true := by decide +kernel
theorem to55 : tbOk prog_5_method_6_code 10 tb55 = true := tbOk_of 2 (by decide) (lt_s (lt_s (lt_0) to55_0) to55_1)
set_option maxRecDepth 100000 in
theorem to56_0 : tbOkR prog_10_method_3_code 4 tb56 0 96 = true := by decide +kernel
theorem to56 : tbOk prog_10_method_3_code 4 tb56 = true := tbOk_of 1 (by decide) (lt_s (lt_0) to56_0)
set_option maxRecDepth 100000 in
theorem to57_0 : tbOkR prog_1_method_45_code 0 tb57 0 96 = true := by decide +kernel
set_option maxRecDepth 100000 in
theorem to57_1 : tbOkR prog_1_method_45_code 0 tb57 96 96 = true := by decide +kernel
theorem to57 : tbOk prog_1_method_45_code 0 tb57 = true := tbOk_of 2 (by decide) (lt_s (lt_s (lt_0) to57_0) to57_1)
set_option maxRecDepth 100000 in
theorem to58_0 : tbOkR prog_5_method_7_code 10 tb58 0 96 = true := by decide +kernel
set_option maxRecDepth 100000 in
theorem to58_1 : tbOkR prog_5_method_7_code 10 tb58 96 96 = true := by decide +kernel
theorem to58 : tbOk prog_5_method_7_code 10 tb58 = true := tbOk_of 2 (by decide) (lt_s (lt_s (lt_0) to58_0) to58_1)
set_option maxRecDepth 100000 in
theorem to59_0 : tbOkR prog_12_method_2_code 9 tb59 0 96 = true := by decide +kernel
theorem to59 : tbOk prog_12_method_2_code 9 tb59 = true := tbOk_of 1 (by decide) (lt_s (lt_0) to59_0)
set_option maxRecDepth 100000 in
theorem to60_0 : tbOkR prog_3_method_3_code 7 tb60 0 96 = true := by decide +kernel
theorem to60 : tbOk prog_3_method_3_code 7 tb60 = true := tbOk_of 1 (by decide) (lt_s (lt_0) to60_0)
set_option maxRecDepth 100000 in
theorem to61_0 : tbOkR prog_5_method_8_code 10 tb61 0 96 = true := by decide +kernel
set_option maxRecDepth 100000 in
theorem to61_1 : tbOkR prog_5_method_8_code 10 tb61 96 96 = true := by decide +kernel
theorem to61 : tbOk prog_5_method_8_code 10 tb61 = true := tbOk_of 2 (by decide) (lt_s (lt_s (lt_0) to61_0) to61_1)
set_option maxRecDepth 100000 in
theorem to62_0 : tbOkR prog_16_method_69_code 16 tb62 0 96 = true := by decide +kernel
theorem to62 : tbOk prog_16_method_69_code 16 tb62 = true := tbOk_of 1 (by decide) (lt_s (lt_0) to62_0)
set_option maxRecDepth 100000 in
theorem to63_0 : tbOkR prog_5_method_9_code 10 tb63 0 96 = true := by decide +kernel
set_option maxRecDepth 100000 in
theorem to63_1 : tbOkR prog_5_method_9_code 10 tb63 96 96 = true := by decide +kernel
set_option maxRecDepth 100000 in
theorem to63_2 : tbOkR prog_5_method_9_code 10 tb63 192 96 = true := by decide +kernel
set_option maxRecDepth 100000 in
theorem to63_3 : tbOkR prog_5_method_9_code 10 tb63 288 96 = true := by decide +kernel
theorem to63 : tbOk prog_5_method_9_code 10 tb63 = true := tbOk_of 4 (by decide) (lt_s (lt_s (lt_s (lt_s (lt_0) to63_0) to63_1) to63_2) to63_3)
set_option maxRecDepth 100000 in
theorem to64_0 : tbOkR prog_16_method_65_code 16 tb64 0 96 = true := by decide +kernel
theorem to64 : tbOk prog_16_method_65_code 16 tb64 = true := tbOk_of 1 (by decide) (lt_s (lt_0) to64_0)
set_option maxRecDepth 100000 in
theorem to65_0 : tbOkR prog_12_method_3_code 9 tb65 0 96 = true := by decide +kernel
theorem to65 : tbOk prog_12_method_3_code 9 tb65 = true := tbOk_of 1 (by decide) (lt_s (lt_0) to65_0)
set_option maxRecDepth 100000 in
theorem to66_0 : tbOkR prog_5_method_10_code 10 tb66 0 96 = true := by decide +kernel
set_option maxRecDepth 100000 in
theorem to66_1 : tbOkR prog_5_method_10_code 10 tb66 96 96 = true := by decide +kernel
theorem to66 : tbOk prog_5_method_10_code 10 tb66 = true := tbOk_of 2 (by decide) (lt_s (lt_s (lt_0) to66_0) to66_1)
set_option maxRecDepth 100000 in
theorem to67_0 : tbOkR prog_15_method_49_code 15 tb67 0 96 = true := by decide +kernel
theorem to67 : tbOk prog_15_method_49_code 15 tb67 = true := tbOk_of 1 (by decide) (lt_s (lt_0) to67_0)
set_option maxRecDepth 100000 in
theorem to68_0 : tbOkR prog_5_method_11_code 10 tb68 0 96 = true := by decide +kernel
set_option maxRecDepth 100000 in
theorem to68_1 : tbOkR prog_5_method_11_code 10 tb68 96 96 = true := by decide +kernel
theorem to68 : tbOk prog_5_method_11_code 10 tb68 = true := tbOk_of 2 (by decide) (lt_s (lt_s (lt_0) to68_0) to68_1)
set_option maxRecDepth 100000 in
theorem to69_0 : tbOkR prog_12_method_4_code 9 tb69 0 96 = true := by decide +kernel
theorem to69 : tbOk prog_12_method_4_code 9 tb69 = true := tbOk_of 1 (by decide) (lt_s (lt_0) to69_0)
set_option maxRecDepth 100000 in
theorem to70_0 : tbOkR prog_12_method_5_code 9 tb70 0 96 = true := by decide +kernel
theorem to70 : tbOk prog_12_method_5_code 9 tb70 = true := tbOk_of 1 (by decide) (lt_s (lt_0) to70_0)
set_option maxRecDepth 100000 in
theorem to71_0 : tbOkR prog_12_method_6_code 9 tb71 0 96 = true := by decide +kernel
theorem to71 : tbOk prog_12_method_6_code 9 tb71 = true := tbOk_of 1 (by decide) (lt_s (lt_0) to71_0)
set_option maxRecDepth 100000 in
theorem to72_0 : tbOkR prog_5_method_12_code 10 tb72 0 96 = true := by decide +kernel
theorem to72 : tbOk prog_5_method_12_code 10 tb72 = true := tbOk_of 1 (by decide) (lt_s (lt_0) to72_0)
set_option maxRecDepth 100000 in
theorem to73_0 : tbOkR prog_12_method_7_code 9 tb73 0 96 = true := by decide +kernel
theorem to73 : tbOk prog_12_method_7_code 9 tb73 = true := tbOk_of 1 (by decide) (lt_s (lt_0) to73_0)
set_option maxRecDepth 100000 in
theorem to74_0 : tbOkR prog_5_method_13_code 10 tb74 0 96 = true := by decide +kernel
set_option maxRecDepth 100000 in
theorem to74_1 : tbOkR prog_5_method_13_code 10 tb74 96 96 = true := by decide +kernel
theorem to74 : tbOk prog_5_method_13_code 10 tb74 = true := tbOk_of 2 (by decide) (lt_s (lt_s (lt_0) to74_0) to74_1)
set_option maxRecDepth 100000 in
theorem to75_0 : tbOkR prog_16_method_61_code 16 tb75 0 96 = true := by decide +kernel
theorem to75 : tbOk prog_16_method_61_code 16 tb75 = true := tbOk_of 1 (by decide) (lt_s (lt_0) to75_0)
set_option maxRecDepth 100000 in
theorem to76_0 : tbOkR prog_5_method_14_code 10 tb76 0 96 = true := by decide +kernel
set_option maxRecDepth 100000 in
theorem to76_1 : tbOkR prog_5_method_14_code 10 tb76 96 96 = true := by decide +kernel
theorem to76 : tbOk prog_5_method_14_code 10 tb76 = true := tbOk_of 2 (by decide) (lt_s (lt_s (lt_0) to76_0) to76_1)
set_option maxRecDepth 100000 in
theorem to77_0 : tbOkR prog_5_method_15_code 10 tb77 0 96 = true := by decide +kernel
theorem to77 : tbOk prog_5_method_15_code 10 tb77 = true := tbOk_of 1 (by decide) (lt_s (lt_0) to77_0)
set_option maxRecDepth 100000 in
theorem to78_0 : tbOkR prog_1_method_44_code 0 tb78 0 96 = true := by decide +kernel
theorem to78 : tbOk prog_1_method_44_code 0 tb78 = true := tbOk_of 1 (by decide) (lt_s (lt_0) to78_0)
set_option maxRecDepth 100000 in
theorem to79_0 : tbOkR prog_5_method_16_code 10 tb79 0 96 = true := by decide +kernel
set_option maxRecDepth 100000 in
theorem to79_1 : tbOkR prog_5_method_16_code 10 tb79 96 96 = true := by decide +kernel
theorem to79 : tbOk prog_5_method_16_code 10 tb79 = true := tbOk_of 2 (by decide) (lt_s (lt_s (lt_0) to79_0) to79_1)
set_option maxRecDepth 100000 in
theorem to80_0 : tbOkR prog_5_method_17_code 10 tb80 0 96 = true := by decide +kernel
set_option maxRecDepth 100000 in
theorem to80_1 : tbOkR prog_5_method_17_code 10 tb80 96 96 = true := by decide +kernel
theorem to80 : tbOk prog_5_method_17_code 10 tb80 = true := tbOk_of 2 (by decide) (lt_s (lt_s (lt_0) to80_0) to80_1)
set_option maxRecDepth 100000 in
theorem to81_0 : tbOkR prog_4_method_3_code 8 tb81 0 96 = true := by decide +kernel
theorem to81 : tbOk prog_4_method_3_code 8 tb81 = true := tbOk_of 1 (by decide) (lt_s (lt_0) to81_0)
set_option maxRecDepth 100000 in
theorem to82_0 : tbOkR prog_5_method_18_code 10 tb82 0 96 = true := by decide +kernel
theorem to82 : tbOk prog_5_method_18_code 10 tb82 = true := tbOk_of 1 (by decide) (lt_s (lt_0) to82_0)
set_option maxRecDepth 100000 in
theorem to83_0 : tbOkR prog_9_method_18_code 5 tb83 0 96 = true := by decide +kernel
set_option maxRecDepth 100000 in
theorem to83_1 : tbOkR prog_9_method_18_code 5 tb83 96 96 = true := by decide +kernel
theorem to83 : tbOk prog_9_method_18_code 5 tb83 = true := tbOk_of 2 (by decide) (lt_s (lt_s (lt_0) to83_0) to83_1)
set_option maxRecDepth 100000 in
theorem to84_0 : tbOkR prog_9_method_20_code 5 tb84 0 96 = true := by decide +kernel
theorem to84 : tbOk prog_9_method_20_code 5 tb84 = true := tbOk_of 1 (by decide) (lt_s (lt_0) to84_0)
set_option maxRecDepth 100000 in
theorem to85_0 : tbOkR prog_9_method_19_code 5 tb85 0 96 = true := by decide +kernel
theorem to85 : tbOk prog_9_method_19_code 5 tb85 = true := tbOk_of 1 (by decide) (lt_s (lt_0) to85_0)
set_option maxRecDepth 100000 in
theorem to86_0 : tbOkR prog_9_method_21_code 5 tb86 0 96 = true := by decide +kernel
set_option maxRecDepth 100000 in
theorem to86_1 : tbOkR prog_9_method_21_code 5 tb86 96 96 = true := by decide +kernel
theorem to86 : tbOk prog_9_method_21_code 5 tb86 = true := tbOk_of 2 (by decide) (lt_s (lt_s (lt_0) to86_0) to86_1)
set_option maxRecDepth 100000 in
theorem to87_0 : tbOkR prog_5_method_19_code 10 tb87 0 96 = true := by decide +kernel
theorem to87 : tbOk prog_5_method_19_code 10 tb87 = true := tbOk_of 1 (by decide) (lt_s (lt_0) to87_0)
set_option maxRecDepth 100000 in
theorem to88_0 : tbOkR prog_1_method_17_code 0 tb88 0 96 = true := by decide +kernel
set_option maxRecDepth 100000 in
theorem to88_1 : tbOkR prog_1_method_17_code 0 tb88 96 96 = true := by decide +kernel
theorem to88 : tbOk prog_1_method_17_code 0 tb88 = true := tbOk_of 2 (by decide) (lt_s (lt_s (lt_0) to88_0) to88_1)
set_option maxRecDepth 100000 in
theorem to89_0 : tbOkR prog_1_method_18_code 0 tb89 0 96 = true := by decide +kernel
theorem to89 : tbOk prog_1_method_18_code 0 tb89 = true := tbOk_of 1 (by decide) (lt_s (lt_0) to89_0)
set_option maxRecDepth 100000 in
theorem to90_0 : tbOkR prog_1_method_39_code 0 tb90 0 96 = true := by decide +kernel
theorem to90 : tbOk prog_1_method_39_code 0 tb90 = true := tbOk_of 1 (by decide) (lt_s (lt_0) to90_0)
set_option maxRecDepth 100000 in
theorem to91_0 : tbOkR prog_1_method_19_code 0 tb91 0 96 = true := by decide +kernel
theorem to91 : tbOk prog_1_method_19_code 0 tb91 = true := tbOk_of 1 (by decide) (lt_s (lt_0) to91_0)
set_option maxRecDepth 100000 in
theorem to92_0 : tbOkR prog_1_method_20_code 0 tb92 0 96 = true := by decide +kernel
theorem to92 : tbOk prog_1_method_20_code 0 tb92 = true := tbOk_of 1 (by decide) (lt_s (lt_0) to92_0)
set_option maxRecDepth 100000 in
theorem to93_0 : tbOkR prog_1_method_21_code 0 tb93 0 96 = true := by decide +kernel
theorem to93 : tbOk prog_1_method_21_code 0 tb93 = true := tbOk_of 1 (by decide) (lt_s (lt_0) to93_0)
set_option maxRecDepth 100000 in
theorem to94_0 : tbOkR prog_1_method_22_code 0 tb94 0 96 = true := by decide +kernel
set_option maxRecDepth 100000 in
theorem to94_1 : tbOkR prog_1_method_22_code 0 tb94 96 96 = true := by decide +kernel
theorem to94 : tbOk prog_1_method_22_code 0 tb94 = true := tbOk_of 2 (by decide) (lt_s (lt_s (lt_0) to94_0) to94_1)
set_option maxRecDepth 100000 in
theorem to95_0 : tbOkR prog_2_method_2_code 6 tb95 0 96 = true := by decide +kernel
theorem to95 : tbOk prog_2_method_2_code 6 tb95 = true := tbOk_of 1 (by decide) (lt_s (lt_0) to95_0)
set_option maxRecDepth 100000 in
theorem to96_0 : tbOkR prog_1_method_23_code 0 tb96 0 96 = true := by decide +kernel
theorem to96 : tbOk prog_1_method_23_code 0 tb96 = true := tbOk_of 1 (by decide) (lt_s (lt_0) to96_0)
set_option maxRecDepth 100000 in
theorem to97_0 : tbOkR prog_1_method_24_code 0 tb97 0 96 = true := by decide +kernel
theorem to97 : tbOk prog_1_method_24_code 0 tb97 = true := tbOk_of 1 (by decide) (lt_s (lt_0) to97_0)
set_option maxRecDepth 100000 in
theorem to98_0 : tbOkR prog_1_method_25_code 0 tb98 0 96 = true := by decide +kernel
theorem to98 : tbOk prog_1_method_25_code 0 tb98 = true := tbOk_of 1 (by decide) (lt_s (lt_0) to98_0)
set_option maxRecDepth 100000 in
theorem to99_0 : tbOkR prog_7_method_3_code 2 tb99 0 96 = true := by decide +kernel
theorem to99 : tbOk prog_7_method_3_code 2 tb99 = true := tbOk_of 1 (by decide) (lt_s (lt_0) to99_0)
set_option maxRecDepth 100000 in
theorem to100_0 : tbOkR prog_1_method_26_code 0 tb100 0 96 = true := by decide +kernel
theorem to100 : tbOk prog_1_method_26_code 0 tb100 = true := tbOk_of 1 (by decide) (lt_s (lt_0) to100_0)
set_option maxRecDepth 100000 in
theorem to101_0 : tbOkR prog_1_method_27_code 0 tb101 0 96 = true := by decide +kernel
set_option maxRecDepth 100000 in
theorem to101_1 : tbOkR prog_1_method_27_code 0 tb101 96 96 = true := by decide +kernel
theorem to101 : tbOk prog_1_method_27_code 0 tb101 = true := tbOk_of 2 (by decide) (lt_s (lt_s (lt_0) to101_0) to101_1)
set_option maxRecDepth 100000 in
theorem to102_0 : tbOkR prog_1_method_40_code 0 tb102 0 96 = true := by decide +kernel
theorem to102 : tbOk prog_1_method_40_code 0 tb102 = true := tbOk_of 1 (by decide) (lt_s (lt_0) to102_0)
set_option maxRecDepth 100000 in
theorem to103_0 : tbOkR prog_8_method_1_code 11 tb103 0 96 = true := by decide +kernel
theorem to103 : tbOk prog_8_method_1_code 11 tb103 = true := tbOk_of 1 (by decide) (lt_s (lt_0) to103_0)
set_option maxRecDepth 100000 in
theorem to104_0 : tbOkR prog_8_method_2_code 11 tb104 0 96 = true := by decide +kernel
theorem to104 : tbOk prog_8_method_2_code 11 tb104 = true := tbOk_of 1 (by decide) (lt_s (lt_0) to104_0)
set_option maxRecDepth 100000 in
theorem to105_0 : tbOkR prog_3_method_6_code 7 tb105 0 96 = true := by decide +kernel
set_option maxRecDepth 100000 in
theorem to105_1 : tbOkR prog_3_method_6_code 7 tb105 96 96 = true := by decide +kernel
theorem to105 : tbOk prog_3_method_6_code 7 tb105 = true := tbOk_of 2 (by decide) (lt_s (lt_s (lt_0) to105_0) to105_1)
set_option maxRecDepth 100000 in
theorem to106_0 : tbOkR prog_4_method_4_code 8 tb106 0 96 = true := by decide +kernel
theorem to106 : tbOk prog_4_method_4_code 8 tb106 = true := tbOk_of 1 (by decide) (lt_s (lt_0) to106_0)
set_option maxRecDepth 100000 in
theorem to107_0 : tbOkR prog_12_method_8_code 9 tb107 0 96 = true := by decide +kernel
theorem to107 : tbOk prog_12_method_8_code 9 tb107 = true := tbOk_of 1 (by decide) (lt_s (lt_0) to107_0)
set_option maxRecDepth 100000 in
theorem to108_0 : tbOkR prog_8_method_3_code 11 tb108 0 96 = true := by decide +kernel
set_option maxRecDepth 100000 in
theorem to108_1 : tbOkR prog_8_method_3_code 11 tb108 96 96 = true := by decide +kernel
theorem to108 : tbOk prog_8_method_3_code 11 tb108 = true := tbOk_of 2 (by decide) (lt_s (lt_s (lt_0) to108_0) to108_1)
set_option maxRecDepth 100000 in
theorem to109_0 : tbOkR prog_16_method_59_code 16 tb109 0 96 = true := by decide +kernel
theorem to109 : tbOk prog_16_method_59_code 16 tb109 = true := tbOk_of 1 (by decide) (lt_s (lt_0) to109_0)
set_option maxRecDepth 100000 in
theorem to110_0 : tbOkR prog_8_method_4_code 11 tb110 0 96 = true := by decide +kernel
theorem to110 : tbOk prog_8_method_4_code 11 tb110 = true := tbOk_of 1 (by decide) (lt_s (lt_0) to110_0)
set_option maxRecDepth 100000 in
theorem to111_0 : tbOkR prog_3_method_5_code 7 tb111 0 96 = true := by decide +kernel
theorem to111 : tbOk prog_3_method_5_code 7 tb111 = true := tbOk_of 1 (by decide) (lt_s (lt_0) to111_0)
set_option maxRecDepth 100000 in
theorem to112_0 : tbOkR prog_4_method_5_code 8 tb112 0 96 = true := by decide +kernel
theorem to112 : tbOk prog_4_method_5_code 8 tb112 = true := tbOk_of 1 (by decide) (lt_s (lt_0) to112_0)
set_option maxRecDepth 100000 in
theorem to113_0 : tbOkR prog_1_method_28_code 0 tb113 0 96 = true := by decide +kernel
set_option maxRecDepth 100000 in
theorem to113_1 : tbOkR prog_1_method_28_code 0 tb113 96 96 = true := by decide +kernel
theorem to113 : tbOk prog_1_method_28_code 0 tb113 = true := tbOk_of 2 (by decide) (lt_s (lt_s (lt_0) to113_0) to113_1)
set_option maxRecDepth 100000 in
theorem to114_0 : tbOkR prog_6_method_2_code 1 tb114 0 96 = true := by decide +kernel
theorem to114 : tbOk prog_6_method_2_code 1 tb114 = true := tbOk_of 1 (by decide) (lt_s (lt_0) to114_0)
set_option maxRecDepth 100000 in
theorem to115_0 : tbOkR prog_7_method_4_code 2 tb115 0 96 = true := by decide +kernel
theorem to115 : tbOk prog_7_method_4_code 2 tb115 = true := tbOk_of 1 (by decide) (lt_s (lt_0) to115_0)
set_option maxRecDepth 100000 in
theorem to116_0 : tbOkR prog_1_method_29_code 0 tb116 0 96 = true := by decide +kernel
theorem to116 : tbOk prog_1_method_29_code 0 tb116 = true := tbOk_of 1 (by decide) (lt_s (lt_0) to116_0)
set_option maxRecDepth 100000 in
theorem to117_0 : tbOkR prog_1_method_30_code 0 tb117 0 96 = true := by decide +kernel
theorem to117 : tbOk prog_1_method_30_code 0 tb117 = true := tbOk_of 1 (by decide) (lt_s (lt_0) to117_0)
set_option maxRecDepth 100000 in
theorem to118_0 : tbOkR prog_1_method_31_code 0 tb118 0 96 = true := by decide +kernel
theorem to118 : tbOk prog_1_method_31_code 0 tb118 = true := tbOk_of 1 (by decide) (lt_s (lt_0) to118_0)
set_option maxRecDepth 100000 in
theorem to119_0 : tbOkR prog_8_method_5_code 11 tb119 0 96 = true := by decide +kernel
theorem to119 : tbOk prog_8_method_5_code 11 tb119 = true := tbOk_of 1 (by decide) (lt_s (lt_0) to119_0)
set_option maxRecDepth 100000 in
theorem to120_0 : tbOkR prog_8_method_8_code 11 tb120 0 96 = true := by decide +kernel
theorem to120 : tbOk prog_8_method_8_code 11 tb120 = true := tbOk_of 1 (by decide) (lt_s (lt_0) to120_0)
set_option maxRecDepth 100000 in
theorem to121_0 : tbOkR prog_8_method_7_code 11 tb121 0 96 = true := by decide +kernel
set_option maxRecDepth 100000 in
theorem to121_1 : tbOkR prog_8_method_7_code 11 tb121 96 96 = true := by decide +kernel
theorem to121 : tbOk prog_8_method_7_code 11 tb121 = true := tbOk_of 2 (by decide) (lt_s (lt_s (lt_0) to121_0) to121_1)
set_option maxRecDepth 100000 in
theorem to122_0 : tbOkR prog_8_method_6_code 11 tb122 0 96 = true := by decide +kernel
theorem to122 : tbOk prog_8_method_6_code 11 tb122 = true := tbOk_of 1 (by decide) (lt_s (lt_0) to122_0)
set_option maxRecDepth 100000 in
theorem to123_0 : tbOkR prog_1_method_32_code 0 tb123 0 96 = true := by decide +kernel
set_option maxRecDepth 100000 in
theorem to123_1 : tbOkR prog_1_method_32_code 0 tb123 96 96 = true := by decide +kernel
theorem to123 : tbOk prog_1_method_32_code 0 tb123 = true := tbOk_of 2 (by decide) (lt_s (lt_s (lt_0) to123_0) to123_1)
set_option maxRecDepth 100000 in
theorem to124_0 : tbOkR prog_10_method_4_code 4 tb124 0 96 = true := by decide +kernel
theorem to124 : tbOk prog_10_method_4_code 4 tb124 = true := tbOk_of 1 (by decide) (lt_s (lt_0) to124_0)
set_option maxRecDepth 100000 in
theorem to125_0 : tbOkR prog_10_method_5_code 4 tb125 0 96 = true := by decide +kernel
theorem to125 : tbOk prog_10_method_5_code 4 tb125 = true := tbOk_of 1 (by decide) (lt_s (lt_0) to125_0)
set_option maxRecDepth 100000 in
theorem to126_0 : tbOkR prog_10_method_6_code 4 tb126 0 96 = true := by decide +kernel
theorem to126 : tbOk prog_10_method_6_code 4 tb126 = true := tbOk_of 1 (by decide) (lt_s (lt_0) to126_0)
set_option maxRecDepth 100000 in
theorem to127_0 : tbOkR prog_10_method_7_code 4 tb127 0 96 = true := by decide +kernel
theorem to127 : tbOk prog_10_method_7_code 4 tb127 = true := tbOk_of 1 (by decide) (lt_s (lt_0) to127_0)
set_option maxRecDepth 100000 in
theorem to128_0 : tbOkR prog_1_method_33_code 0 tb128 0 96 = true := by decide +kernel
theorem to128 : tbOk prog_1_method_33_code 0 tb128 = true := tbOk_of 1 (by decide) (lt_s (lt_0) to128_0)
set_option maxRecDepth 100000 in
theorem to129_0 : tbOkR prog_1_method_34_code 0 tb129 0 96 = true := by decide +kernel
theorem to129 : tbOk prog_1_method_34_code 0 tb129 = true := tbOk_of 1 (by decide) (lt_s (lt_0) to129_0)
set_option maxRecDepth 100000 in
theorem to130_0 : tbOkR prog_5_method_20_code 10 tb130 0 96 = true := by decide +kernel
set_option maxRecDepth 100000 in
theorem to130_1 : tbOkR prog_5_method_20_code 10 tb130 96 96 = true := by decide +kernel
set_option maxRecDepth 100000 in
theorem to130_2 : tbOkR prog_5_method_20_code 10 tb130 192 96 = true := by decide +kernel
theorem to130 : tbOk prog_5_method_20_code 10 tb130 = true := tbOk_of 3 (by decide) (lt_s (lt_s (lt_s (lt_0) to130_0) to130_1) to130_2)
set_option maxRecDepth 100000 in
theorem to131_0 : tbOkR prog_16_method_70_code 16 tb131 0 96 = true := by decide +kernel
theorem to131 : tbOk prog_16_method_70_code 16 tb131 = true := tbOk_of 1 (by decide) (lt_s (lt_0) to131_0)
set_option maxRecDepth 100000 in
theorem to132_0 : tbOkR prog_16_method_66_code 16 tb132 0 96 = true := by decide +kernel
theorem to132 : tbOk prog_16_method_66_code 16 tb132 = true := tbOk_of 1 (by decide) (lt_s (lt_0) to132_0)
set_option maxRecDepth 100000 in
theorem to133_0 : tbOkR prog_1_method_35_code 0 tb133 0 96 = true := by decide +kernel
theorem to133 : tbOk prog_1_method_35_code 0 tb133 = true := tbOk_of 1 (by decide) (lt_s (lt_0) to133_0)
set_option maxRecDepth 100000 in
theorem to134_0 : tbOkR prog_6_method_3_code 1 tb134 0 96 = true := by decide +kernel
set_option maxRecDepth 100000 in
theorem to134_1 : tbOkR prog_6_method_3_code 1 tb134 96 96 = true := by decide +kernel
set_option maxRecDepth 100000 in
theorem to134_2 : tbOkR prog_6_method_3_code 1 tb134 192 96 = true := by decide +kernel
theorem to134 : tbOk prog_6_method_3_code 1 tb134 = true := tbOk_of 3 (by decide) (lt_s (lt_s (lt_s (lt_0) to134_0) to134_1) to134_2)
set_option maxRecDepth 100000 in
theorem to135_0 : tbOkR prog_7_method_5_code 2 tb135 0 96 = true := by decide +kernel
theorem to135 : tbOk prog_7_method_5_code 2 tb135 = true := tbOk_of 1 (by decide) (lt_s (lt_0) to135_0)
set_option maxRecDepth 100000 in
theorem to136_0 : tbOkR prog_11_method_4_code 3 tb136 0 96 = true := by decide +kernel
theorem to136 : tbOk prog_11_method_4_code 3 tb136 = true := tbOk_of 1 (by decide) (lt_s (lt_0) to136_0)
set_option maxRecDepth 100000 in
theorem to137_0 : tbOkR prog_10_method_8_code 4 tb137 0 96 = true := by decide +kernel
theorem to137 : tbOk prog_10_method_8_code 4 tb137 = true := tbOk_of 1 (by decide) (lt_s (lt_0) to137_0)
set_option maxRecDepth 100000 in
theorem to138_0 : tbOkR prog_9_method_4_code 5 tb138 0 96 = true := by decide +kernel
theorem to138 : tbOk prog_9_method_4_code 5 tb138 = true := tbOk_of 1 (by decide) (lt_s (lt_0) to138_0)
set_option maxRecDepth 100000 in
theorem to139_0 : tbOkR prog_2_method_3_code 6 tb139 0 96 = true := by decide +kernel
theorem to139 : tbOk prog_2_method_3_code 6 tb139 = true := tbOk_of 1 (by decide) (lt_s (lt_0) to139_0)
set_option maxRecDepth 100000 in
theorem to140_0 : tbOkR prog_1_method_36_code 0 tb140 0 96 = true := by decide +kernel
theorem to140 : tbOk prog_1_method_36_code 0 tb140 = true := tbOk_of 1 (by decide) (lt_s (lt_0) to140_0)
set_option maxRecDepth 100000 in
theorem to141_0 : tbOkR prog_1_method_37_code 0 tb141 0 96 = true := by decide +kernel
set_option maxRecDepth 100000 in
theorem to141_1 : tbOkR prog_1_method_37_code 0 tb141 96 96 = true := by decide +kernel
theorem to141 : tbOk prog_1_method_37_code 0 tb141 = true := tbOk_of 2 (by decide) (lt_s (lt_s (lt_0) to141_0) to141_1)
set_option maxRecDepth 100000 in
theorem to142_0 : tbOkR prog_1_method_38_code 0 tb142 0 96 = true := by decide +kernel
set_option maxRecDepth 100000 in
theorem to142_1 : tbOkR prog_1_method_38_code 0 tb142 96 96 = true := by decide +kernel
set_option maxRecDepth 100000 in
theorem to142_2 : tbOkR prog_1_method_38_code 0 tb142 192 96 = true := by decide +kernel
theorem to142 : tbOk prog_1_method_38_code 0 tb142 = true := tbOk_of 3 (by decide) (lt_s (lt_s (lt_s (lt_0) to142_0) to142_1) to142_2)
set_option maxRecDepth 100000 in
theorem to143_0 : tbOkR prog_14_method_3_code 12 tb143 0 96 = true := by decide +kernel
set_option maxRecDepth 100000 in
theorem to143_1 : tbOkR prog_14_method_3_code 12 tb143 96 96 = true := by decide +kernel
set_option maxRecDepth 100000 in
theorem to143_2 : tbOkR prog_14_method_3_code 12 tb143 192 96 = true := by decide +kernel
theorem to143 : tbOk prog_14_method_3_code 12 tb143 = true := tbOk_of 3 (by decide) (lt_s (lt_s (lt_s (lt_0) to143_0) to143_1) to143_2)
set_option maxRecDepth 100000 in
theorem to144_0 : tbOkR prog_14_method_7_code 12 tb144 0 96 = true := by decide +kernel
theorem to144 : tbOk prog_14_method_7_code 12 tb144 = true := tbOk_of 1 (by decide) (lt_s (lt_0) to144_0)
set_option maxRecDepth 100000 in
theorem to145_0 : tbOkR prog_14_method_2_code 12 tb145 0 96 = true := by decide +kernel
theorem to145 : tbOk prog_14_method_2_code 12 tb145 = true := tbOk_of 1 (by decide) (lt_s (lt_0) to145_0)
set_option maxRecDepth 100000 in
theorem to146_0 : tbOkR prog_14_method_10_code 12 tb146 0 96 = true := by decide +kernel
theorem to146 : tbOk prog_14_method_10_code 12 tb146 = true := tbOk_of 1 (by decide) (lt_s (lt_0) to146_0)
set_option maxRecDepth 100000 in
theorem to147_0 : tbOkR prog_14_method_8_code 12 tb147 0 96 = true := by decide +kernel
set_option maxRecDepth 100000 in
theorem to147_1 : tbOkR prog_14_method_8_code 12 tb147 96 96 = true := by decide +kernel
theorem to147 : tbOk prog_14_method_8_code 12 tb147 = true := tbOk_of 2 (by decide) (lt_s (lt_s (lt_0) to147_0) to147_1)
set_option maxRecDepth 100000 in
theorem to148_0 : tbOkR prog_14_method_9_code 12 tb148 0 96 = true := by decide +kernel
theorem to148 : tbOk prog_14_method_9_code 12 tb148 = true := tbOk_of 1 (by decide) (lt_s (lt_0) to148_0)
set_option maxRecDepth 100000 in
theorem to149_0 : tbOkR prog_14_method_11_code 12 tb149 0 96 = true := by decide +kernel
theorem to149 : tbOk prog_14_method_11_code 12 tb149 = true := tbOk_of 1 (by decide) (lt_s (lt_0) to149_0)
set_option maxRecDepth 100000 in
theorem to150_0 : tbOkR prog_14_method_12_code 12 tb150 0 96 = true := by decide +kernel
set_option maxRecDepth 100000 in
theorem to150_1 : tbOkR prog_14_method_12_code 12 tb150 96 96 = true := by decide +kernel
theorem to150 : tbOk prog_14_method_12_code 12 tb150 = true := tbOk_of 2 (by decide) (lt_s (lt_s (lt_0) to150_0) to150_1)
set_option maxRecDepth 100000 in
theorem to151_0 : tbOkR prog_14_method_13_code 12 tb151 0 96 = true := by decide +kernel
theorem to151 : tbOk prog_14_method_13_code 12 tb151 = true := tbOk_of 1 (by decide) (lt_s (lt_0) to151_0)
set_option maxRecDepth 100000 in
theorem to152_0 : tbOkR prog_14_method_14_code 12 tb152 0 96 = true := by decide +kernel
theorem to152 : tbOk prog_14_method_14_code 12 tb152 = true := tbOk_of 1 (by decide) (lt_s (lt_0) to152_0)
set_option maxRecDepth 100000 in
theorem to153_0 : tbOkR prog_14_method_15_code 12 tb153 0 96 = true := by decide +kernel
theorem to153 : tbOk prog_14_method_15_code 12 tb153 = true := tbOk_of 1 (by decide) (lt_s (lt_0) to153_0)
set_option maxRecDepth 100000 in
theorem to154_0 : tbOkR prog_14_method_16_code 12 tb154 0 96 = true := by decide +kernel
set_option maxRecDepth 100000 in
theorem to154_1 : tbOkR prog_14_method_16_code 12 tb154 96 96 = true := by decide +kernel
theorem to154 : tbOk prog_14_method_16_code 12 tb154 = true := tbOk_of 2 (by decide) (lt_s (lt_s (lt_0) to154_0) to154_1)
set_option maxRecDepth 100000 in
theorem to155_0 : tbOkR prog_14_method_17_code 12 tb155 0 96 = true := by decide +kernel
theorem to155 : tbOk prog_14_method_17_code 12 tb155 = true := tbOk_of 1 (by decide) (lt_s (lt_0) to155_0)
set_option maxRecDepth 100000 in
theorem to156_0 : tbOkR prog_14_method_18_code 12 tb156 0 96 = true := by decide +kernel
theorem to156 : tbOk prog_14_method_18_code 12 tb156 = true := tbOk_of 1 (by decide) (lt_s (lt_0) to156_0)
set_option maxRecDepth 100000 in
theorem to157_0 : tbOkR prog_14_method_19_code 12 tb157 0 96 = true := by decide +kernel
theorem to157 : tbOk prog_14_method_19_code 12 tb157 = true := tbOk_of 1 (by decide) (lt_s (lt_0) to157_0)
set_option maxRecDepth 100000 in
theorem to158_0 : tbOkR prog_14_method_32_code 12 tb158 0 96 = true := by decide +kernel
theorem to158 : tbOk prog_14_method_32_code 12 tb158 = true := tbOk_of 1 (by decide) (lt_s (lt_0) to158_0)
set_option maxRecDepth 100000 in
theorem to159_0 : tbOkR prog_14_method_33_code 12 tb159 0 96 = true := by decide +kernel
theorem to159 : tbOk prog_14_method_33_code 12 tb159 = true := tbOk_of 1 (by decide) (lt_s (lt_0) to159_0)
set_option maxRecDepth 100000 in
theorem to160_0 : tbOkR prog_14_method_34_code 12 tb160 0 96 = true := by decide +kernel
theorem to160 : tbOk prog_14_method_34_code 12 tb160 = true := tbOk_of 1 (by decide) (lt_s (lt_0) to160_0)
set_option maxRecDepth 100000 in
theorem to161_0 : tbOkR prog_14_method_27_code 12 tb161 0 96 = true := by decide +kernel
set_option maxRecDepth 100000 in
theorem to161_1 : tbOkR prog_14_method_27_code 12 tb161 96 96 = true := by decide +kernel
set_option maxRecDepth 100000 in
theorem to161_2 : tbOkR prog_14_method_27_code 12 tb161 192 96 = true := by decide +kernel
set_option maxRecDepth 100000 in
theorem to161_3 : tbOkR prog_14_method_27_code 12 tb161 288 96 = true := by decide +kernel
set_option maxRecDepth 100000 in
theorem to161_4 : tbOkR prog_14_method_27_code 12 tb161 384 96 = true := by decide +kernel
theorem to161 : tbOk prog_14_method_27_code 12 tb161 = true := tbOk_of 5 (by decide) (lt_s (lt_s (lt_s (lt_s (lt_s (lt_0) to161_0) to161_1) to161_2) to161_3) to161_4)
set_option maxRecDepth 100000 in
theorem to162_0 : tbOkR prog_14_method_22_code 12 tb162 0 96 = true := by decide +kernel
theorem to162 : tbOk prog_14_method_22_code 12 tb162 = true := tbOk_of 1 (by decide) (lt_s (lt_0) to162_0)
set_option maxRecDepth 100000 in
theorem to163_0 : tbOkR prog_14_method_21_code 12 tb163 0 96 = true := by decide +kernel
theorem to163 : tbOk prog_14_method_21_code 12 tb163 = true := tbOk_of 1 (by decide) (lt_s (lt_0) to163_0)
set_option maxRecDepth 100000 in
theorem to164_0 : tbOkR prog_14_method_20_code 12 tb164 0 96 = true := by decide +kernel
theorem to164 : tbOk prog_14_method_20_code 12 tb164 = true := tbOk_of 1 (by decide) (lt_s (lt_0) to164_0)
set_option maxRecDepth 100000 in
theorem to165_0 : tbOkR prog_14_method_25_code 12 tb165 0 96 = true := by decide +kernel
set_option maxRecDepth 100000 in
theorem to165_1 : tbOkR prog_14_method_25_code 12 tb165 96 96 = true := by decide +kernel
theorem to165 : tbOk prog_14_method_25_code 12 tb165 = true := tbOk_of 2 (by decide) (lt_s (lt_s (lt_0) to165_0) to165_1)
set_option maxRecDepth 100000 in
theorem to166_0 : tbOkR prog_14_method_26_code 12 tb166 0 96 = true := by decide +kernel
theorem to166 : tbOk prog_14_method_26_code 12 tb166 = true := tbOk_of 1 (by decide) (lt_s (lt_0) to166_0)
set_option maxRecDepth 100000 in
theorem to167_0 : tbOkR prog_14_method_23_code 12 tb167 0 96 = true := by decide +kernel
theorem to167 : tbOk prog_14_method_23_code 12 tb167 = true := tbOk_of 1 (by decide) (lt_s (lt_0) to167_0)
set_option maxRecDepth 100000 in
theorem to168_0 : tbOkR prog_14_method_24_code 12 tb168 0 96 = true := by decide +kernel
set_option maxRecDepth 100000 in
theorem to168_1 : tbOkR prog_14_method_24_code 12 tb168 96 96 = true := by decide +kernel
theorem to168 : tbOk prog_14_method_24_code 12 tb168 = true := tbOk_of 2 (by decide) (lt_s (lt_s (lt_0) to168_0) to168_1)
set_option maxRecDepth 100000 in
theorem to169_0 : tbOkR prog_14_method_54_code 12 tb169 0 96 = true := by decide +kernel
theorem to169 : tbOk prog_14_method_54_code 12 tb169 = true := tbOk_of 1 (by decide) (lt_s (lt_0) to169_0)
set_option maxRecDepth 100000 in
theorem to170_0 : tbOkR prog_14_method_53_code 12 tb170 0 96 = true := by decide +kernel
set_option maxRecDepth 100000 in
theorem to170_1 : tbOkR prog_14_method_53_code 12 tb170 96 96 = true := by decide +kernel
set_option maxRecDepth 100000 in
theorem to170_2 : tbOkR prog_14_method_53_code 12 tb170 192 96 = true := by decide +kernel
theorem to170 : tbOk prog_14_method_53_code 12 tb170 = true := tbOk_of 3 (by decide) (lt_s (lt_s (lt_s (lt_0) to170_0) to170_1) to170_2)
set_option maxRecDepth 100000 in
theorem to171_0 : tbOkR prog_14_method_35_code 12 tb171 0 96 = true := by decide +kernel
set_option maxRecDepth 100000 in
theorem to171_1 : tbOkR prog_14_method_35_code 12 tb171 96 96 = true := by decide +kernel
theorem to171 : tbOk prog_14_method_35_code 12 tb171 = true := tbOk_of 2 (by decide) (lt_s (lt_s (lt_0) to171_0) to171_1)
set_option maxRecDepth 100000 in
theorem to172_0 : tbOkR prog_14_method_37_code 12 tb172 0 96 = true := by decide +kernel
set_option maxRecDepth 100000 in
theorem to172_1 : tbOkR prog_14_method_37_code 12 tb172 96 96 = true := by decide +kernel
set_option maxRecDepth 100000 in
theorem to172_2 : tbOkR prog_14_method_37_code 12 tb172 192 96 = true := by decide +kernel
theorem to172 : tbOk prog_14_method_37_code 12 tb172 = true := tbOk_of 3 (by decide) (lt_s (lt_s (lt_s (lt_0) to172_0) to172_1) to172_2)
set_option maxRecDepth 100000 in
theorem to173_0 : tbOkR prog_14_method_5_code 12 tb173 0 96 = true := by decide +kernel
theorem to173 : tbOk prog_14_method_5_code 12 tb173 = true := tbOk_of 1 (by decide) (lt_s (lt_0) to173_0)
set_option maxRecDepth 100000 in
theorem to174_0 : tbOkR prog_14_method_36_code 12 tb174 0 96 = true := by decide +kernel
theorem to174 : tbOk prog_14_method_36_code 12 tb174 = true := tbOk_of 1 (by decide) (lt_s (lt_0) to174_0)
set_option maxRecDepth 100000 in
theorem to175_0 : tbOkR prog_14_method_6_code 12 tb175 0 96 = true := by decide +kernel
theorem to175 : tbOk prog_14_method_6_code 12 tb175 = true := tbOk_of 1 (by decide) (lt_s (lt_0) to175_0)
set_option maxRecDepth 100000 in
theorem to176_0 : tbOkR prog_14_method_41_code 12 tb176 0 96 = true := by decide +kernel
theorem to176 : tbOk prog_14_method_41_code 12 tb176 = true := tbOk_of 1 (by decide) (lt_s (lt_0) to176_0)
set_option maxRecDepth 100000 in
theorem to177_0 : tbOkR prog_14_method_40_code 12 tb177 0 96 = true := by decide +kernel
theorem to177 : tbOk prog_14_method_40_code 12 tb177 = true := tbOk_of 1 (by decide) (lt_s (lt_0) to177_0)
set_option maxRecDepth 100000 in
theorem to178_0 : tbOkR prog_14_method_38_code 12 tb178 0 96 = true := by decide +kernel
theorem to178 : tbOk prog_14_method_38_code 12 tb178 = true := tbOk_of 1 (by decide) (lt_s (lt_0) to178_0)
set_option maxRecDepth 100000 in
theorem to179_0 : tbOkR prog_14_method_39_code 12 tb179 0 96 = true := by decide +kernel
theorem to179 : tbOk prog_14_method_39_code 12 tb179 = true := tbOk_of 1 (by decide) (lt_s (lt_0) to179_0)
set_option maxRecDepth 100000 in
theorem to180_0 : tbOkR prog_14_method_44_code 12 tb180 0 96 = true := by decide +kernel
set_option maxRecDepth 100000 in
theorem to180_1 : tbOkR prog_14_method_44_code 12 tb180 96 96 = true := by decide +kernel
set_option maxRecDepth 100000 in
theorem to180_2 : tbOkR prog_14_method_44_code 12 tb180 192 96 = true := by decide +kernel
theorem to180 : tbOk prog_14_method_44_code 12 tb180 = true := tbOk_of 3 (by decide) (lt_s (lt_s (lt_s (lt_0) to180_0) to180_1) to180_2)
set_option maxRecDepth 100000 in
theorem to181_0 : tbOkR prog_14_method_43_code 12 tb181 0 96 = true := by decide +kernel
set_option maxRecDepth 100000 in
theorem to181_1 : tbOkR prog_14_method_43_code 12 tb181 96 96 = true := by decide +kernel
theorem to181 : tbOk prog_14_method_43_code 12 tb181 = true := tbOk_of 2 (by decide) (lt_s (lt_s (lt_0) to181_0) to181_1)
set_option maxRecDepth 100000 in
theorem to182_0 : tbOkR prog_14_method_42_code 12 tb182 0 96 = true := by decide +kernel
set_option maxRecDepth 100000 in
theorem to182_1 : tbOkR prog_14_method_42_code 12 tb182 96 96 = true := by decide +kernel
set_option maxRecDepth 100000 in
theorem to182_2 : tbOkR prog_14_method_42_code 12 tb182 192 96 = true := by decide +kernel
set_option maxRecDepth 100000 in
theorem to182_3 : tbOkR prog_14_method_42_code 12 tb182 288 96 = true := by decide +kernel
set_option maxRecDepth 100000 in
theorem to182_4 : tbOkR prog_14_method_42_code 12 tb182 384 96 = true := by decide +kernel
theorem to182 : tbOk prog_14_method_42_code 12 tb182 = true := tbOk_of 5 (by decide) (lt_s (lt_s (lt_s (lt_s (lt_s (lt_0) to182_0) to182_1) to182_2) to182_3) to182_4)
set_option maxRecDepth 100000 in
theorem to183_0 : tbOkR prog_14_method_49_code 12 tb183 0 96 = true := by decide +kernel
set_option maxRecDepth 100000 in
theorem to183_1 : tbOkR prog_14_method_49_code 12 tb183 96 96 = true := by decide +kernel
set_option maxRecDepth 100000 in
theorem to183_2 : tbOkR prog_14_method_49_code 12 tb183 192 96 = true := by decide +kernel
theorem to183 : tbOk prog_14_method_49_code 12 tb183 = true := tbOk_of 3 (by decide) (lt_s (lt_s (lt_s (lt_0) to183_0) to183_1) to183_2)
set_option maxRecDepth 100000 in
theorem to184_0 : tbOkR prog_14_method_47_code 12 tb184 0 96 = true := by decide +kernel
set_option maxRecDepth 100000 in
theorem to184_1 : tbOkR prog_14_method_47_code 12 tb184 96 96 = true := by decide +kernel
set_option maxRecDepth 100000 in
theorem to184_2 : tbOkR prog_14_method_47_code 12 tb184 192 96 = true := by decide +kernel
theorem to184 : tbOk prog_14_method_47_code 12 tb184 = true := tbOk_of 3 (by decide) (lt_s (lt_s (lt_s (lt_0) to184_0) to184_1) to184_2)
set_option maxRecDepth 100000 in
theorem to185_0 : tbOkR prog_14_method_45_code 12 tb185 0 96 = true := by decide +kernel
theorem to185 : tbOk prog_14_method_45_code 12 tb185 = true := tbOk_of 1 (by decide) (lt_s (lt_0) to185_0)
set_option maxRecDepth 100000 in
theorem to186_0 : tbOkR prog_14_method_46_code 12 tb186 0 96 = true := by decide +kernel
theorem to186 : tbOk prog_14_method_46_code 12 tb186 = true := tbOk_of 1 (by decide) (lt_s (lt_0) to186_0)
set_option maxRecDepth 100000 in
theorem to187_0 : tbOkR prog_14_method_48_code 12 tb187 0 96 = true := by decide +kernel
set_option maxRecDepth 100000 in
theorem to187_1 : tbOkR prog_14_method_48_code 12 tb187 96 96 = true := by decide +kernel
theorem to187 : tbOk prog_14_method_48_code 12 tb187 = true := tbOk_of 2 (by decide) (lt_s (lt_s (lt_0) to187_0) to187_1)
set_option maxRecDepth 100000 in
theorem to188_0 : tbOkR prog_14_method_28_code 12 tb188 0 96 = true := by decide +kernel
theorem to188 : tbOk prog_14_method_28_code 12 tb188 = true := tbOk_of 1 (by decide) (lt_s (lt_0) to188_0)
set_option maxRecDepth 100000 in
theorem to189_0 : tbOkR prog_14_method_51_code 12 tb189 0 96 = true := by decide +kernel
set_option maxRecDepth 100000 in
theorem to189_1 : tbOkR prog_14_method_51_code 12 tb189 96 96 = true := by decide +kernel
set_option maxRecDepth 100000 in
theorem to189_2 : tbOkR prog_14_method_51_code 12 tb189 192 96 = true := by decide +kernel
theorem to189 : tbOk prog_14_method_51_code 12 tb189 = true := tbOk_of 3 (by decide) (lt_s (lt_s (lt_s (lt_0) to189_0) to189_1) to189_2)
set_option maxRecDepth 100000 in
theorem to190_0 : tbOkR prog_14_method_50_code 12 tb190 0 96 = true := by decide +kernel
theorem to190 : tbOk prog_14_method_50_code 12 tb190 = true := tbOk_of 1 (by decide) (lt_s (lt_0) to190_0)
set_option maxRecDepth 100000 in
theorem to191_0 : tbOkR prog_14_method_52_code 12 tb191 0 96 = true := by decide +kernel
set_option maxRecDepth 100000 in
theorem to191_1 : tbOkR prog_14_method_52_code 12 tb191 96 96 = true := by decide +kernel
theorem to191 : tbOk prog_14_method_52_code 12 tb191 = true := tbOk_of 2 (by decide) (lt_s (lt_s (lt_0) to191_0) to191_1)
set_option maxRecDepth 100000 in
theorem to192_0 : tbOkR prog_14_method_31_code 12 tb192 0 96 = true := by decide +kernel
set_option maxRecDepth 100000 in
theorem to192_1 : tbOkR prog_14_method_31_code 12 tb192 96 96 = true := by decide +kernel
theorem to192 : tbOk prog_14_method_31_code 12 tb192 = true := tbOk_of 2 (by decide) (lt_s (lt_s (lt_0) to192_0) to192_1)
set_option maxRecDepth 100000 in
theorem to193_0 : tbOkR prog_14_method_29_code 12 tb193 0 96 = true := by decide +kernel
theorem to193 : tbOk prog_14_method_29_code 12 tb193 = true := tbOk_of 1 (by decide) (lt_s (lt_0) to193_0)
set_option maxRecDepth 100000 in
theorem to194_0 : tbOkR prog_14_method_4_code 12 tb194 0 96 = true := by decide +kernel
theorem to194 : tbOk prog_14_method_4_code 12 tb194 = true := tbOk_of 1 (by decide) (lt_s (lt_0) to194_0)
set_option maxRecDepth 100000 in
theorem to195_0 : tbOkR prog_14_method_30_code 12 tb195 0 96 = true := by decide +kernel
set_option maxRecDepth 100000 in
theorem to195_1 : tbOkR prog_14_method_30_code 12 tb195 96 96 = true := by decide +kernel
theorem to195 : tbOk prog_14_method_30_code 12 tb195 = true := tbOk_of 2 (by decide) (lt_s (lt_s (lt_0) to195_0) to195_1)
set_option maxRecDepth 100000 in
theorem to196_0 : tbOkR prog_14_method_56_code 12 tb196 0 96 = true := by decide +kernel
theorem to196 : tbOk prog_14_method_56_code 12 tb196 = true := tbOk_of 1 (by decide) (lt_s (lt_0) to196_0)
set_option maxRecDepth 100000 in
theorem to197_0 : tbOkR prog_14_method_55_code 12 tb197 0 96 = true := by decide +kernel
theorem to197 : tbOk prog_14_method_55_code 12 tb197 = true := tbOk_of 1 (by decide) (lt_s (lt_0) to197_0)
set_option maxRecDepth 100000 in
theorem to198_0 : tbOkR prog_14_method_57_code 12 tb198 0 96 = true := by decide +kernel
theorem to198 : tbOk prog_14_method_57_code 12 tb198 = true := tbOk_of 1 (by decide) (lt_s (lt_0) to198_0)
set_option maxRecDepth 100000 in
theorem to199_0 : tbOkR prog_14_method_58_code 12 tb199 0 96 = true := by decide +kernel
theorem to199 : tbOk prog_14_method_58_code 12 tb199 = true := tbOk_of 1 (by decide) (lt_s (lt_0) to199_0)
set_option maxRecDepth 100000 in
theorem to200_0 : tbOkR prog_14_method_59_code 12 tb200 0 96 = true := by decide +kernel
theorem to200 : tbOk prog_14_method_59_code 12 tb200 = true := tbOk_of 1 (by decide) (lt_s (lt_0) to200_0)
set_option maxRecDepth 100000 in
theorem to201_0 : tbOkR prog_14_method_60_code 12 tb201 0 96 = true := by decide +kernel
theorem to201 : tbOk prog_14_method_60_code 12 tb201 = true := tbOk_of 1 (by decide) (lt_s (lt_0) to201_0)
set_option maxRecDepth 100000 in
theorem to202_0 : tbOkR prog_14_method_61_code 12 tb202 0 96 = true := by decide +kernel
set_option maxRecDepth 100000 in
theorem to202_1 : tbOkR prog_14_method_61_code 12 tb202 96 96 = true := by decide +kernel
set_option maxRecDepth 100000 in
theorem to202_2 : tbOkR prog_14_method_61_code 12 tb202 192 96 = true := by decide +kernel
theorem to202 : tbOk prog_14_method_61_code 12 tb202 = true := tbOk_of 3 (by decide) (lt_s (lt_s (lt_s (lt_0) to202_0) to202_1) to202_2)
set_option maxRecDepth 100000 in
theorem to203_0 : tbOkR prog_14_method_62_code 12 tb203 0 96 = true := by decide +kernel
theorem to203 : tbOk prog_14_method_62_code 12 tb203 = true := tbOk_of 1 (by decide) (lt_s (lt_0) to203_0)
set_option maxRecDepth 100000 in
theorem to204_0 : tbOkR prog_14_method_63_code 12 tb204 0 96 = true := by decide +kernel
theorem to204 : tbOk prog_14_method_63_code 12 tb204 = true := tbOk_of 1 (by decide) (lt_s (lt_0) to204_0)
set_option maxRecDepth 100000 in
theorem to205_0 : tbOkR prog_14_method_65_code 12 tb205 0 96 = true := by decide +kernel
theorem to205 : tbOk prog_14_method_65_code 12 tb205 = true := tbOk_of 1 (by decide) (lt_s (lt_0) to205_0)
set_option maxRecDepth 100000 in
theorem to206_0 : tbOkR prog_14_method_64_code 12 tb206 0 96 = true := by decide +kernel
theorem to206 : tbOk prog_14_method_64_code 12 tb206 = true := tbOk_of 1 (by decide) (lt_s (lt_0) to206_0)
set_option maxRecDepth 100000 in
theorem to207_0 : tbOkR prog_14_method_66_code 12 tb207 0 96 = true := by decide +kernel
theorem to207 : tbOk prog_14_method_66_code 12 tb207 = true := tbOk_of 1 (by decide) (lt_s (lt_0) to207_0)
set_option maxRecDepth 100000 in
theorem to208_0 : tbOkR prog_14_method_72_code 12 tb208 0 96 = true := by decide +kernel
set_option maxRecDepth 100000 in
theorem to208_1 : tbOkR prog_14_method_72_code 12 tb208 96 96 = true := by decide +kernel
theorem to208 : tbOk prog_14_method_72_code 12 tb208 = true := tbOk_of 2 (by decide) (lt_s (lt_s (lt_0) to208_0) to208_1)
set_option maxRecDepth 100000 in
theorem to209_0 : tbOkR prog_14_method_67_code 12 tb209 0 96 = true := by decide +kernel
theorem to209 : tbOk prog_14_method_67_code 12 tb209 = true := tbOk_of 1 (by decide) (lt_s (lt_0) to209_0)
set_option maxRecDepth 100000 in
theorem to210_0 : tbOkR prog_14_method_69_code 12 tb210 0 96 = true := by decide +kernel
theorem to210 : tbOk prog_14_method_69_code 12 tb210 = true := tbOk_of 1 (by decide) (lt_s (lt_0) to210_0)
set_option maxRecDepth 100000 in
theorem to211_0 : tbOkR prog_14_method_68_code 12 tb211 0 96 = true := by decide +kernel
theorem to211 : tbOk prog_14_method_68_code 12 tb211 = true := tbOk_of 1 (by decide) (lt_s (lt_0) to211_0)
set_option maxRecDepth 100000 in
theorem to212_0 : tbOkR prog_14_method_71_code 12 tb212 0 96 = true := by decide +kernel
set_option maxRecDepth 100000 in
theorem to212_1 : tbOkR prog_14_method_71_code 12 tb212 96 96 = true := by decide +kernel
set_option maxRecDepth 100000 in
theorem to212_2 : tbOkR prog_14_method_71_code 12 tb212 192 96 = true := by decide +kernel
theorem to212 : tbOk prog_14_method_71_code 12 tb212 = true := tbOk_of 3 (by decide) (lt_s (lt_s (lt_s (lt_0) to212_0) to212_1) to212_2)
set_option maxRecDepth 100000 in
theorem to213_0 : tbOkR prog_14_method_70_code 12 tb213 0 96 = true := by decide +kernel
theorem to213 : tbOk prog_14_method_70_code 12 tb213 = true := tbOk_of 1 (by decide) (lt_s (lt_0) to213_0)
set_option maxRecDepth 100000 in
theorem to214_0 : tbOkR prog_14_method_73_code 12 tb214 0 96 = true := by decide +kernel
set_option maxRecDepth 100000 in
theorem to214_1 : tbOkR prog_14_method_73_code 12 tb214 96 96 = true := by decide +kernel
theorem to214 : tbOk prog_14_method_73_code 12 tb214 = true := tbOk_of 2 (by decide) (lt_s (lt_s (lt_0) to214_0) to214_1)
set_option maxRecDepth 100000 in
theorem to215_0 : tbOkR prog_14_method_74_code 12 tb215 0 96 = true := by decide +kernel
theorem to215 : tbOk prog_14_method_74_code 12 tb215 = true := tbOk_of 1 (by decide) (lt_s (lt_0) to215_0)
set_option maxRecDepth 100000 in
theorem to216_0 : tbOkR prog_14_method_75_code 12 tb216 0 96 = true := by decide +kernel
theorem to216 : tbOk prog_14_method_75_code 12 tb216 = true := tbOk_of 1 (by decide) (lt_s (lt_0) to216_0)
set_option maxRecDepth 100000 in
theorem to217_0 : tbOkR prog_14_method_77_code 12 tb217 0 96 = true := by decide +kernel
set_option maxRecDepth 100000 in
theorem to217_1 : tbOkR prog_14_method_77_code 12 tb217 96 96 = true := by decide +kernel
set_option maxRecDepth 100000 in
theorem to217_2 : tbOkR prog_14_method_77_code 12 tb217 192 96 = true := by decide +kernel
theorem to217 : tbOk prog_14_method_77_code 12 tb217 = true := tbOk_of 3 (by decide) (lt_s (lt_s (lt_s (lt_0) to217_0) to217_1) to217_2)
set_option maxRecDepth 100000 in
theorem to218_0 : tbOkR prog_14_method_76_code 12 tb218 0 96 = true := by decide +kernel
theorem to218 : tbOk prog_14_method_76_code 12 tb218 = true := tbOk_of 1 (by decide) (lt_s (lt_0) to218_0)
set_option maxRecDepth 100000 in
theorem to219_0 : tbOkR prog_14_method_79_code 12 tb219 0 96 = true := by decide +kernel
set_option maxRecDepth 100000 in
theorem to219_1 : tbOkR prog_14_method_79_code 12 tb219 96 96 = true := by decide +kernel
theorem to219 : tbOk prog_14_method_79_code 12 tb219 = true := tbOk_of 2 (by decide) (lt_s (lt_s (lt_0) to219_0) to219_1)
set_option maxRecDepth 100000 in
theorem to220_0 : tbOkR prog_14_method_78_code 12 tb220 0 96 = true := by decide +kernel
set_option maxRecDepth 100000 in
theorem to220_1 : tbOkR prog_14_method_78_code 12 tb220 96 96 = true := by decide +kernel
set_option maxRecDepth 100000 in
theorem to220_2 : tbOkR prog_14_method_78_code 12 tb220 192 96 = true := by decide +kernel
theorem to220 : tbOk prog_14_method_78_code 12 tb220 = true := tbOk_of 3 (by decide) (lt_s (lt_s (lt_s (lt_0) to220_0) to220_1) to220_2)
set_option maxRecDepth 100000 in
theorem to221_0 : tbOkR prog_14_method_80_code 12 tb221 0 96 = true := by decide +kernel
theorem to221 : tbOk prog_14_method_80_code 12 tb221 = true := tbOk_of 1 (by decide) (lt_s (lt_0) to221_0)
set_option maxRecDepth 100000 in
theorem to222_0 : tbOkR prog_14_method_81_code 12 tb222 0 96 = true := by decide +kernel
set_option maxRecDepth 100000 in
theorem to222_1 : tbOkR prog_14_method_81_code 12 tb222 96 96 = true := by decide +kernel
set_option maxRecDepth 100000 in
theorem to222_2 : tbOkR prog_14_method_81_code 12 tb222 192 96 = true := by decide +kernel
theorem to222 : tbOk prog_14_method_81_code 12 tb222 = true := tbOk_of 3 (by decide) (lt_s (lt_s (lt_s (lt_0) to222_0) to222_1) to222_2)
set_option maxRecDepth 100000 in
theorem to223_0 : tbOkR prog_14_method_82_code 12 tb223 0 96 = true := by decide +kernel
theorem to223 : tbOk prog_14_method_82_code 12 tb223 = true := tbOk_of 1 (by decide) (lt_s (lt_0) to223_0)
set_option maxRecDepth 100000 in
theorem to224_0 : tbOkR prog_14_method_83_code 12 tb224 0 96 = true := by decide +kernel
theorem to224 : tbOk prog_14_method_83_code 12 tb224 = true := tbOk_of 1 (by decide) (lt_s (lt_0) to224_0)
set_option maxRecDepth 100000 in
theorem to225_0 : tbOkR prog_14_method_84_code 12 tb225 0 96 = true := by decide +kernel
theorem to225 : tbOk prog_14_method_84_code 12 tb225 = true := tbOk_of 1 (by decide) (lt_s (lt_0) to225_0)
set_option maxRecDepth 100000 in
theorem to226_0 : tbOkR prog_14_method_85_code 12 tb226 0 96 = true := by decide +kernel
set_option maxRecDepth 100000 in
theorem to226_1 : tbOkR prog_14_method_85_code 12 tb226 96 96 = true := by decide +kernel
set_option maxRecDepth 100000 in
theorem to226_2 : tbOkR prog_14_method_85_code 12 tb226 192 96 = true := by decide +kernel
theorem to226 : tbOk prog_14_method_85_code 12 tb226 = true := tbOk_of 3 (by decide) (lt_s (lt_s (lt_s (lt_0) to226_0) to226_1) to226_2)
set_option maxRecDepth 100000 in
theorem toLaw_0 : tbOkR code 13 tbLaw 0 96 = true := by decide +kernel
set_option maxRecDepth 100000 in
theorem toLaw_1 : tbOkR code 13 tbLaw 96 96 = true := by decide +kernel
set_option maxRecDepth 100000 in
theorem toLaw_2 : tbOkR code 13 tbLaw 192 96 = true := by decide +kernel
set_option maxRecDepth 100000 in
theorem toLaw_3 : tbOkR code 13 tbLaw 288 96 = true := by decide +kernel
set_option maxRecDepth 100000 in
theorem toLaw_4 : tbOkR code 13 tbLaw 384 96 = true := by decide +kernel
set_option maxRecDepth 100000 in
theorem toLaw_5 : tbOkR code 13 tbLaw 480 96 = true := by decide +kernel
set_option maxRecDepth 100000 in
theorem toLaw_6 : tbOkR code 13 tbLaw 576 96 = true := by decide +kernel
set_option maxRecDepth 100000 in
theorem toLaw_7 : tbOkR code 13 tbLaw 672 96 = true := by decide +kernel
set_option maxRecDepth 100000 in
theorem toLaw_8 : tbOkR code 13 tbLaw 768 96 = true := by decide +kernel
set_option maxRecDepth 100000 in
theorem toLaw_9 : tbOkR code 13 tbLaw 864 96 = true := by decide +kernel
set_option maxRecDepth 100000 in
theorem toLaw_10 : tbOkR code 13 tbLaw 960 96 = true := by decide +kernel
set_option maxRecDepth 100000 in
theorem toLaw_11 : tbOkR code 13 tbLaw 1056 96 = true := by decide +kernel
set_option maxRecDepth 100000 in
theorem toLaw_12 : tbOkR code 13 tbLaw 1152 96 = true := by decide +kernel
set_option maxRecDepth 100000 in
theorem toLaw_13 : tbOkR code 13 tbLaw 1248 96 = true := by decide +kernel
set_option maxRecDepth 100000 in
theorem toLaw_14 : tbOkR code 13 tbLaw 1344 96 = true := by decide +kernel
theorem toLaw : tbOk code 13 tbLaw = true := tbOk_of 15 (by decide) (lt_s (lt_s (lt_s (lt_s (lt_s (lt_s (lt_s (lt_s (lt_s (lt_s (lt_s (lt_s (lt_s (lt_s (lt_s (lt_0) toLaw_0) toLaw_1) toLaw_2) toLaw_3) toLaw_4) toLaw_5) toLaw_6) toLaw_7) toLaw_8) toLaw_9) toLaw_10) toLaw_11) toLaw_12) toLaw_13) toLaw_14)
set_option maxRecDepth 100000 in
theorem ms_2 : ∀ q ∈ meths, tbOk (mBy q) (mOw q) (mTb q) = true := by
  show ∀ q ∈ [me0, me1, me2, me3, me4, me5, me6, me7, me8, me9, me10, me11, me12, me13, me14, me15, me16, me17, me18, me19, me20, me21, me22, me23, me24, me25, me26, me27, me28, me29, me30, me31, me32, me33, me34, me35, me36, me37, me38, me39, me40, me41, me42, me43, me44, me45, me46, me47, me48, me49, me50, me51, me52, me53, me54, me55, me56, me57, me58, me59, me60, me61, me62, me63, me64, me65, me66, me67, me68, me69, me70, me71, me72, me73, me74, me75, me76, me77, me78, me79, me80, me81, me82, me83, me84, me85, me86, me87, me88, me89, me90, me91, me92, me93, me94, me95, me96, me97, me98, me99, me100, me101, me102, me103, me104, me105, me106, me107, me108, me109, me110, me111, me112, me113, me114, me115, me116, me117, me118, me119, me120, me121, me122, me123, me124, me125, me126, me127, me128, me129, me130, me131, me132, me133, me134, me135, me136, me137, me138, me139, me140, me141, me142, me143, me144, me145, me146, me147, me148, me149, me150, me151, me152, me153, me154, me155, me156, me157, me158, me159, me160, me161, me162, me163, me164, me165, me166, me167, me168, me169, me170, me171, me172, me173, me174, me175, me176, me177, me178, me179, me180, me181, me182, me183, me184, me185, me186, me187, me188, me189, me190, me191, me192, me193, me194, me195, me196, me197, me198, me199, me200, me201, me202, me203, me204, me205, me206, me207, me208, me209, me210, me211, me212, me213, me214, me215, me216, me217, me218, me219, me220, me221, me222, me223, me224, me225, me226], tbOk (mBy q) (mOw q) (mTb q) = true
  exact List.forall_mem_cons.mpr ⟨to0, List.forall_mem_cons.mpr ⟨to1, List.forall_mem_cons.mpr ⟨to2, List.forall_mem_cons.mpr ⟨to3, List.forall_mem_cons.mpr ⟨to4, List.forall_mem_cons.mpr ⟨to5, List.forall_mem_cons.mpr ⟨to6, List.forall_mem_cons.mpr ⟨to7, List.forall_mem_cons.mpr ⟨to8, List.forall_mem_cons.mpr ⟨to9, List.forall_mem_cons.mpr ⟨to10, List.forall_mem_cons.mpr ⟨to11, List.forall_mem_cons.mpr ⟨to12, List.forall_mem_cons.mpr ⟨to13, List.forall_mem_cons.mpr ⟨to14, List.forall_mem_cons.mpr ⟨to15, List.forall_mem_cons.mpr ⟨to16, List.forall_mem_cons.mpr ⟨to17, List.forall_mem_cons.mpr ⟨to18, List.forall_mem_cons.mpr ⟨to19, List.forall_mem_cons.mpr ⟨to20, List.forall_mem_cons.mpr ⟨to21, List.forall_mem_cons.mpr ⟨to22, List.forall_mem_cons.mpr ⟨to23, List.forall_mem_cons.mpr ⟨to24, List.forall_mem_cons.mpr ⟨to25, List.forall_mem_cons.mpr ⟨to26, List.forall_mem_cons.mpr ⟨to27, List.forall_mem_cons.mpr ⟨to28, List.forall_mem_cons.mpr ⟨to29, List.forall_mem_cons.mpr ⟨to30, List.forall_mem_cons.mpr ⟨to31, List.forall_mem_cons.mpr ⟨to32, List.forall_mem_cons.mpr ⟨to33, List.forall_mem_cons.mpr ⟨to34, List.forall_mem_cons.mpr ⟨to35, List.forall_mem_cons.mpr ⟨to36, List.forall_mem_cons.mpr ⟨to37, List.forall_mem_cons.mpr ⟨to38, List.forall_mem_cons.mpr ⟨to39, List.forall_mem_cons.mpr ⟨to40, List.forall_mem_cons.mpr ⟨to41, List.forall_mem_cons.mpr ⟨to42, List.forall_mem_cons.mpr ⟨to43, List.forall_mem_cons.mpr ⟨to44, List.forall_mem_cons.mpr ⟨to45, List.forall_mem_cons.mpr ⟨to46, List.forall_mem_cons.mpr ⟨to47, List.forall_mem_cons.mpr ⟨to48, List.forall_mem_cons.mpr ⟨to49, List.forall_mem_cons.mpr ⟨to50, List.forall_mem_cons.mpr ⟨to51, List.forall_mem_cons.mpr ⟨to52, List.forall_mem_cons.mpr ⟨to53, List.forall_mem_cons.mpr ⟨to54, List.forall_mem_cons.mpr ⟨to55, List.forall_mem_cons.mpr ⟨to56, List.forall_mem_cons.mpr ⟨to57, List.forall_mem_cons.mpr ⟨to58, List.forall_mem_cons.mpr ⟨to59, List.forall_mem_cons.mpr ⟨to60, List.forall_mem_cons.mpr ⟨to61, List.forall_mem_cons.mpr ⟨to62, List.forall_mem_cons.mpr ⟨to63, List.forall_mem_cons.mpr ⟨to64, List.forall_mem_cons.mpr ⟨to65, List.forall_mem_cons.mpr ⟨to66, List.forall_mem_cons.mpr ⟨to67, List.forall_mem_cons.mpr ⟨to68, List.forall_mem_cons.mpr ⟨to69, List.forall_mem_cons.mpr ⟨to70, List.forall_mem_cons.mpr ⟨to71, List.forall_mem_cons.mpr ⟨to72, List.forall_mem_cons.mpr ⟨to73, List.forall_mem_cons.mpr ⟨to74, List.forall_mem_cons.mpr ⟨to75, List.forall_mem_cons.mpr ⟨to76, List.forall_mem_cons.mpr ⟨to77, List.forall_mem_cons.mpr ⟨to78, List.forall_mem_cons.mpr ⟨to79, List.forall_mem_cons.mpr ⟨to80, List.forall_mem_cons.mpr ⟨to81, List.forall_mem_cons.mpr ⟨to82, List.forall_mem_cons.mpr ⟨to83, List.forall_mem_cons.mpr ⟨to84, List.forall_mem_cons.mpr ⟨to85, List.forall_mem_cons.mpr ⟨to86, List.forall_mem_cons.mpr ⟨to87, List.forall_mem_cons.mpr ⟨to88, List.forall_mem_cons.mpr ⟨to89, List.forall_mem_cons.mpr ⟨to90, List.forall_mem_cons.mpr ⟨to91, List.forall_mem_cons.mpr ⟨to92, List.forall_mem_cons.mpr ⟨to93, List.forall_mem_cons.mpr ⟨to94, List.forall_mem_cons.mpr ⟨to95, List.forall_mem_cons.mpr ⟨to96, List.forall_mem_cons.mpr ⟨to97, List.forall_mem_cons.mpr ⟨to98, List.forall_mem_cons.mpr ⟨to99, List.forall_mem_cons.mpr ⟨to100, List.forall_mem_cons.mpr ⟨to101, List.forall_mem_cons.mpr ⟨to102, List.forall_mem_cons.mpr ⟨to103, List.forall_mem_cons.mpr ⟨to104, List.forall_mem_cons.mpr ⟨to105, List.forall_mem_cons.mpr ⟨to106, List.forall_mem_cons.mpr ⟨to107, List.forall_mem_cons.mpr ⟨to108, List.forall_mem_cons.mpr ⟨to109, List.forall_mem_cons.mpr ⟨to110, List.forall_mem_cons.mpr ⟨to111, List.forall_mem_cons.mpr ⟨to112, List.forall_mem_cons.mpr ⟨to113, List.forall_mem_cons.mpr ⟨to114, List.forall_mem_cons.mpr ⟨to115, List.forall_mem_cons.mpr ⟨to116, List.forall_mem_cons.mpr ⟨to117, List.forall_mem_cons.mpr ⟨to118, List.forall_mem_cons.mpr ⟨to119, List.forall_mem_cons.mpr ⟨to120, List.forall_mem_cons.mpr ⟨to121, List.forall_mem_cons.mpr ⟨to122, List.forall_mem_cons.mpr ⟨to123, List.forall_mem_cons.mpr ⟨to124, List.forall_mem_cons.mpr ⟨to125, List.forall_mem_cons.mpr ⟨to126, List.forall_mem_cons.mpr ⟨to127, List.forall_mem_cons.mpr ⟨to128, List.forall_mem_cons.mpr ⟨to129, List.forall_mem_cons.mpr ⟨to130, List.forall_mem_cons.mpr ⟨to131, List.forall_mem_cons.mpr ⟨to132, List.forall_mem_cons.mpr ⟨to133, List.forall_mem_cons.mpr ⟨to134, List.forall_mem_cons.mpr ⟨to135, List.forall_mem_cons.mpr ⟨to136, List.forall_mem_cons.mpr ⟨to137, List.forall_mem_cons.mpr ⟨to138, List.forall_mem_cons.mpr ⟨to139, List.forall_mem_cons.mpr ⟨to140, List.forall_mem_cons.mpr ⟨to141, List.forall_mem_cons.mpr ⟨to142, List.forall_mem_cons.mpr ⟨to143, List.forall_mem_cons.mpr ⟨to144, List.forall_mem_cons.mpr ⟨to145, List.forall_mem_cons.mpr ⟨to146, List.forall_mem_cons.mpr ⟨to147, List.forall_mem_cons.mpr ⟨to148, List.forall_mem_cons.mpr ⟨to149, List.forall_mem_cons.mpr ⟨to150, List.forall_mem_cons.mpr ⟨to151, List.forall_mem_cons.mpr ⟨to152, List.forall_mem_cons.mpr ⟨to153, List.forall_mem_cons.mpr ⟨to154, List.forall_mem_cons.mpr ⟨to155, List.forall_mem_cons.mpr ⟨to156, List.forall_mem_cons.mpr ⟨to157, List.forall_mem_cons.mpr ⟨to158, List.forall_mem_cons.mpr ⟨to159, List.forall_mem_cons.mpr ⟨to160, List.forall_mem_cons.mpr ⟨to161, List.forall_mem_cons.mpr ⟨to162, List.forall_mem_cons.mpr ⟨to163, List.forall_mem_cons.mpr ⟨to164, List.forall_mem_cons.mpr ⟨to165, List.forall_mem_cons.mpr ⟨to166, List.forall_mem_cons.mpr ⟨to167, List.forall_mem_cons.mpr ⟨to168, List.forall_mem_cons.mpr ⟨to169, List.forall_mem_cons.mpr ⟨to170, List.forall_mem_cons.mpr ⟨to171, List.forall_mem_cons.mpr ⟨to172, List.forall_mem_cons.mpr ⟨to173, List.forall_mem_cons.mpr ⟨to174, List.forall_mem_cons.mpr ⟨to175, List.forall_mem_cons.mpr ⟨to176, List.forall_mem_cons.mpr ⟨to177, List.forall_mem_cons.mpr ⟨to178, List.forall_mem_cons.mpr ⟨to179, List.forall_mem_cons.mpr ⟨to180, List.forall_mem_cons.mpr ⟨to181, List.forall_mem_cons.mpr ⟨to182, List.forall_mem_cons.mpr ⟨to183, List.forall_mem_cons.mpr ⟨to184, List.forall_mem_cons.mpr ⟨to185, List.forall_mem_cons.mpr ⟨to186, List.forall_mem_cons.mpr ⟨to187, List.forall_mem_cons.mpr ⟨to188, List.forall_mem_cons.mpr ⟨to189, List.forall_mem_cons.mpr ⟨to190, List.forall_mem_cons.mpr ⟨to191, List.forall_mem_cons.mpr ⟨to192, List.forall_mem_cons.mpr ⟨to193, List.forall_mem_cons.mpr ⟨to194, List.forall_mem_cons.mpr ⟨to195, List.forall_mem_cons.mpr ⟨to196, List.forall_mem_cons.mpr ⟨to197, List.forall_mem_cons.mpr ⟨to198, List.forall_mem_cons.mpr ⟨to199, List.forall_mem_cons.mpr ⟨to200, List.forall_mem_cons.mpr ⟨to201, List.forall_mem_cons.mpr ⟨to202, List.forall_mem_cons.mpr ⟨to203, List.forall_mem_cons.mpr ⟨to204, List.forall_mem_cons.mpr ⟨to205, List.forall_mem_cons.mpr ⟨to206, List.forall_mem_cons.mpr ⟨to207, List.forall_mem_cons.mpr ⟨to208, List.forall_mem_cons.mpr ⟨to209, List.forall_mem_cons.mpr ⟨to210, List.forall_mem_cons.mpr ⟨to211, List.forall_mem_cons.mpr ⟨to212, List.forall_mem_cons.mpr ⟨to213, List.forall_mem_cons.mpr ⟨to214, List.forall_mem_cons.mpr ⟨to215, List.forall_mem_cons.mpr ⟨to216, List.forall_mem_cons.mpr ⟨to217, List.forall_mem_cons.mpr ⟨to218, List.forall_mem_cons.mpr ⟨to219, List.forall_mem_cons.mpr ⟨to220, List.forall_mem_cons.mpr ⟨to221, List.forall_mem_cons.mpr ⟨to222, List.forall_mem_cons.mpr ⟨to223, List.forall_mem_cons.mpr ⟨to224, List.forall_mem_cons.mpr ⟨to225, List.forall_mem_cons.mpr ⟨to226, fun _ h => absurd h List.not_mem_nil⟩⟩⟩⟩⟩⟩⟩⟩⟩⟩⟩⟩⟩⟩⟩⟩⟩⟩⟩⟩⟩⟩⟩⟩⟩⟩⟩⟩⟩⟩⟩⟩⟩⟩⟩⟩⟩⟩⟩⟩⟩⟩⟩⟩⟩⟩⟩⟩⟩⟩⟩⟩⟩⟩⟩⟩⟩⟩⟩⟩⟩⟩⟩⟩⟩⟩⟩⟩⟩⟩⟩⟩⟩⟩⟩⟩⟩⟩⟩⟩⟩⟩⟩⟩⟩⟩⟩⟩⟩⟩⟩⟩⟩⟩⟩⟩⟩⟩⟩⟩⟩⟩⟩⟩⟩⟩⟩⟩⟩⟩⟩⟩⟩⟩⟩⟩⟩⟩⟩⟩⟩⟩⟩⟩⟩⟩⟩⟩⟩⟩⟩⟩⟩⟩⟩⟩⟩⟩⟩⟩⟩⟩⟩⟩⟩⟩⟩⟩⟩⟩⟩⟩⟩⟩⟩⟩⟩⟩⟩⟩⟩⟩⟩⟩⟩⟩⟩⟩⟩⟩⟩⟩⟩⟩⟩⟩⟩⟩⟩⟩⟩⟩⟩⟩⟩⟩⟩⟩⟩⟩⟩⟩⟩⟩⟩⟩⟩⟩⟩⟩⟩⟩⟩⟩⟩⟩⟩⟩⟩⟩⟩⟩⟩⟩⟩⟩⟩⟩⟩⟩⟩⟩⟩⟩⟩⟩⟩
