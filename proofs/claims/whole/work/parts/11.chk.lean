/-! ===== every instruction of a table is what the bytes say, and linked ===== -/
theorem alLF_0 : ∀ e ∈ ((q_LF[0]?).getD []), q_fok (q_cs 0) e.1 e.2.1 e.2.2.1 e.2.2.2 := List.forall_mem_cons.mpr ⟨rLF_0_9_0_0_1, List.forall_mem_cons.mpr ⟨rLF_0_15_0_1_1, List.forall_mem_cons.mpr ⟨rLF_0_18_0_2_1, List.forall_mem_cons.mpr ⟨rLF_0_21_0_3_1, List.forall_mem_cons.mpr ⟨rLF_0_24_0_4_0, List.forall_mem_cons.mpr ⟨rLF_0_28_0_5_0, fun _ h => absurd h List.not_mem_nil⟩⟩⟩⟩⟩⟩
theorem alLF_1 : ∀ e ∈ ((q_LF[1]?).getD []), q_fok (q_cs 1) e.1 e.2.1 e.2.2.1 e.2.2.2 := fun _ h => absurd h List.not_mem_nil
theorem alLF_2 : ∀ e ∈ ((q_LF[2]?).getD []), q_fok (q_cs 2) e.1 e.2.1 e.2.2.1 e.2.2.2 := List.forall_mem_cons.mpr ⟨rLF_2_9_2_0_1, List.forall_mem_cons.mpr ⟨rLF_2_15_2_1_0, List.forall_mem_cons.mpr ⟨rLF_2_19_2_2_0, List.forall_mem_cons.mpr ⟨rLF_2_22_2_3_0, fun _ h => absurd h List.not_mem_nil⟩⟩⟩⟩
theorem alLF_3 : ∀ e ∈ ((q_LF[3]?).getD []), q_fok (q_cs 3) e.1 e.2.1 e.2.2.1 e.2.2.2 := fun _ h => absurd h List.not_mem_nil
theorem alLF_4 : ∀ e ∈ ((q_LF[4]?).getD []), q_fok (q_cs 4) e.1 e.2.1 e.2.2.1 e.2.2.2 := List.forall_mem_cons.mpr ⟨rLF_4_9_4_1_1, List.forall_mem_cons.mpr ⟨rLF_4_15_4_2_1, List.forall_mem_cons.mpr ⟨rLF_4_18_4_3_1, List.forall_mem_cons.mpr ⟨rLF_4_21_4_4_1, List.forall_mem_cons.mpr ⟨rLF_4_24_4_5_1, List.forall_mem_cons.mpr ⟨rLF_4_27_4_0_1, List.forall_mem_cons.mpr ⟨rLF_4_31_4_6_0, List.forall_mem_cons.mpr ⟨rLF_4_35_4_7_0, List.forall_mem_cons.mpr ⟨rLF_4_38_4_8_0, fun _ h => absurd h List.not_mem_nil⟩⟩⟩⟩⟩⟩⟩⟩⟩
theorem alLF_5 : ∀ e ∈ ((q_LF[5]?).getD []), q_fok (q_cs 5) e.1 e.2.1 e.2.2.1 e.2.2.2 := List.forall_mem_cons.mpr ⟨rLF_5_9_5_0_1, List.forall_mem_cons.mpr ⟨rLF_5_15_5_1_1, List.forall_mem_cons.mpr ⟨rLF_5_18_5_2_1, List.forall_mem_cons.mpr ⟨rLF_5_21_5_3_0, fun _ h => absurd h List.not_mem_nil⟩⟩⟩⟩
theorem alLF_6 : ∀ e ∈ ((q_LF[6]?).getD []), q_fok (q_cs 6) e.1 e.2.1 e.2.2.1 e.2.2.2 := List.forall_mem_cons.mpr ⟨rLF_6_11_6_1_1, List.forall_mem_cons.mpr ⟨rLF_6_15_6_2_1, List.forall_mem_cons.mpr ⟨rLF_6_18_6_3_1, List.forall_mem_cons.mpr ⟨rLF_6_23_6_4_1, List.forall_mem_cons.mpr ⟨rLF_6_26_4_6_0, List.forall_mem_cons.mpr ⟨rLF_6_32_6_0_0, fun _ h => absurd h List.not_mem_nil⟩⟩⟩⟩⟩⟩
theorem alLF_7 : ∀ e ∈ ((q_LF[7]?).getD []), q_fok (q_cs 7) e.1 e.2.1 e.2.2.1 e.2.2.2 := fun _ h => absurd h List.not_mem_nil
theorem alLF_8 : ∀ e ∈ ((q_LF[8]?).getD []), q_fok (q_cs 8) e.1 e.2.1 e.2.2.1 e.2.2.2 := List.forall_mem_cons.mpr ⟨rLF_8_9_8_0_1, List.forall_mem_cons.mpr ⟨rLF_8_15_8_1_0, List.forall_mem_cons.mpr ⟨rLF_8_19_8_2_0, fun _ h => absurd h List.not_mem_nil⟩⟩⟩
theorem alLF_9 : ∀ e ∈ ((q_LF[9]?).getD []), q_fok (q_cs 9) e.1 e.2.1 e.2.2.1 e.2.2.2 := fun _ h => absurd h List.not_mem_nil
theorem alLF_10 : ∀ e ∈ ((q_LF[10]?).getD []), q_fok (q_cs 10) e.1 e.2.1 e.2.2.1 e.2.2.2 := List.forall_mem_cons.mpr ⟨rLF_10_9_10_0_1, List.forall_mem_cons.mpr ⟨rLF_10_15_10_3_1, List.forall_mem_cons.mpr ⟨rLF_10_18_10_1_0, List.forall_mem_cons.mpr ⟨rLF_10_30_10_2_0, fun _ h => absurd h List.not_mem_nil⟩⟩⟩⟩
theorem alLF_11 : ∀ e ∈ ((q_LF[11]?).getD []), q_fok (q_cs 11) e.1 e.2.1 e.2.2.1 e.2.2.2 := List.forall_mem_cons.mpr ⟨rLF_11_17_11_0_1, List.forall_mem_cons.mpr ⟨rLF_11_39_11_2_1, List.forall_mem_cons.mpr ⟨rLF_11_43_11_3_1, List.forall_mem_cons.mpr ⟨rLF_11_46_11_4_1, List.forall_mem_cons.mpr ⟨rLF_11_52_11_6_1, List.forall_mem_cons.mpr ⟨rLF_11_56_11_7_1, List.forall_mem_cons.mpr ⟨rLF_11_62_11_8_1, List.forall_mem_cons.mpr ⟨rLF_11_69_11_9_1, List.forall_mem_cons.mpr ⟨rLF_11_76_11_10_1, List.forall_mem_cons.mpr ⟨rLF_11_82_11_11_1, List.forall_mem_cons.mpr ⟨rLF_11_95_4_6_0, List.forall_mem_cons.mpr ⟨rLF_11_106_4_7_0, List.forall_mem_cons.mpr ⟨rLF_11_109_4_8_0, List.forall_mem_cons.mpr ⟨rLF_11_140_4_1_1, List.forall_mem_cons.mpr ⟨rLF_11_208_4_4_1, List.forall_mem_cons.mpr ⟨rLF_11_211_4_2_1, List.forall_mem_cons.mpr ⟨rLF_11_225_8_2_0, List.forall_mem_cons.mpr ⟨rLF_11_236_8_0_1, List.forall_mem_cons.mpr ⟨rLF_11_244_5_3_0, List.forall_mem_cons.mpr ⟨rLF_11_249_5_0_1, List.forall_mem_cons.mpr ⟨rLF_11_252_5_1_1, List.forall_mem_cons.mpr ⟨rLF_11_255_5_2_1, List.forall_mem_cons.mpr ⟨rLF_11_261_0_4_0, List.forall_mem_cons.mpr ⟨rLF_11_268_0_5_0, List.forall_mem_cons.mpr ⟨rLF_11_274_10_1_0, List.forall_mem_cons.mpr ⟨rLF_11_297_8_1_0, List.forall_mem_cons.mpr ⟨rLF_11_309_11_1_2, List.forall_mem_cons.mpr ⟨rLF_11_325_2_1_0, List.forall_mem_cons.mpr ⟨rLF_11_328_2_0_1, List.forall_mem_cons.mpr ⟨rLF_11_337_11_5_0, List.forall_mem_cons.mpr ⟨rLF_11_361_10_2_0, List.forall_mem_cons.mpr ⟨rLF_11_370_10_3_1, fun _ h => absurd h List.not_mem_nil⟩⟩⟩⟩⟩⟩⟩⟩⟩⟩⟩⟩⟩⟩⟩⟩⟩⟩⟩⟩⟩⟩⟩⟩⟩⟩⟩⟩⟩⟩⟩⟩
theorem alLF_12 : ∀ e ∈ ((q_LF[12]?).getD []), q_fok (q_cs 12) e.1 e.2.1 e.2.2.1 e.2.2.2 := List.forall_mem_cons.mpr ⟨rLF_12_9_12_3_1, List.forall_mem_cons.mpr ⟨rLF_12_15_12_4_1, List.forall_mem_cons.mpr ⟨rLF_12_18_12_5_1, List.forall_mem_cons.mpr ⟨rLF_12_21_12_6_1, List.forall_mem_cons.mpr ⟨rLF_12_24_12_7_1, List.forall_mem_cons.mpr ⟨rLF_12_27_12_8_1, List.forall_mem_cons.mpr ⟨rLF_12_30_12_9_1, List.forall_mem_cons.mpr ⟨rLF_12_33_12_10_1, List.forall_mem_cons.mpr ⟨rLF_12_36_12_11_1, List.forall_mem_cons.mpr ⟨rLF_12_39_12_12_1, List.forall_mem_cons.mpr ⟨rLF_12_42_12_13_1, List.forall_mem_cons.mpr ⟨rLF_12_46_12_14_1, List.forall_mem_cons.mpr ⟨rLF_12_49_12_15_1, List.forall_mem_cons.mpr ⟨rLF_12_52_12_16_1, List.forall_mem_cons.mpr ⟨rLF_12_55_12_17_1, List.forall_mem_cons.mpr ⟨rLF_12_58_12_18_1, List.forall_mem_cons.mpr ⟨rLF_12_61_12_19_1, List.forall_mem_cons.mpr ⟨rLF_12_64_12_22_1, List.forall_mem_cons.mpr ⟨rLF_12_67_12_23_1, List.forall_mem_cons.mpr ⟨rLF_12_70_12_24_1, List.forall_mem_cons.mpr ⟨rLF_12_73_12_25_1, List.forall_mem_cons.mpr ⟨rLF_12_76_12_27_1, List.forall_mem_cons.mpr ⟨rLF_12_79_12_28_1, List.forall_mem_cons.mpr ⟨rLF_12_82_12_29_1, List.forall_mem_cons.mpr ⟨rLF_12_85_12_30_1, List.forall_mem_cons.mpr ⟨rLF_12_88_12_31_1, List.forall_mem_cons.mpr ⟨rLF_12_91_12_32_1, List.forall_mem_cons.mpr ⟨rLF_12_94_12_33_1, List.forall_mem_cons.mpr ⟨rLF_12_97_12_34_1, List.forall_mem_cons.mpr ⟨rLF_12_100_12_38_1, List.forall_mem_cons.mpr ⟨rLF_12_103_12_40_1, List.forall_mem_cons.mpr ⟨rLF_12_106_12_41_1, List.forall_mem_cons.mpr ⟨rLF_12_109_12_42_1, List.forall_mem_cons.mpr ⟨rLF_12_112_12_43_1, List.forall_mem_cons.mpr ⟨rLF_12_115_12_45_0, List.forall_mem_cons.mpr ⟨rLF_12_119_12_0_0, List.forall_mem_cons.mpr ⟨rLF_12_130_12_1_0, List.forall_mem_cons.mpr ⟨rLF_12_137_12_2_0, List.forall_mem_cons.mpr ⟨rLF_12_166_12_20_0, List.forall_mem_cons.mpr ⟨rLF_12_169_12_21_0, List.forall_mem_cons.mpr ⟨rLF_12_247_12_26_0, List.forall_mem_cons.mpr ⟨rLF_12_257_12_35_0, List.forall_mem_cons.mpr ⟨rLF_12_260_12_36_0, List.forall_mem_cons.mpr ⟨rLF_12_269_12_37_0, List.forall_mem_cons.mpr ⟨rLF_12_291_12_39_0, List.forall_mem_cons.mpr ⟨rLF_12_306_12_46_0, List.forall_mem_cons.mpr ⟨rLF_12_310_12_44_0, fun _ h => absurd h List.not_mem_nil⟩⟩⟩⟩⟩⟩⟩⟩⟩⟩⟩⟩⟩⟩⟩⟩⟩⟩⟩⟩⟩⟩⟩⟩⟩⟩⟩⟩⟩⟩⟩⟩⟩⟩⟩⟩⟩⟩⟩⟩⟩⟩⟩⟩⟩⟩⟩
theorem alLF_13 : ∀ e ∈ ((q_LF[13]?).getD []), q_fok (q_cs 13) e.1 e.2.1 e.2.2.1 e.2.2.2 := fun _ h => absurd h List.not_mem_nil
theorem alLF_14 : ∀ e ∈ ((q_LF[14]?).getD []), q_fok (q_cs 14) e.1 e.2.1 e.2.2.1 e.2.2.2 := fun _ h => absurd h List.not_mem_nil
theorem alLF (o : Nat) : ∀ e ∈ ((q_LF[o]?).getD []), q_fok (q_cs o) e.1 e.2.1 e.2.2.1 e.2.2.2 := by
  by_cases ho : o < 15
  · rcases (show o = 0 ∨ o = 1 ∨ o = 2 ∨ o = 3 ∨ o = 4 ∨ o = 5 ∨ o = 6 ∨ o = 7 ∨ o = 8 ∨ o = 9 ∨ o = 10 ∨ o = 11 ∨ o = 12 ∨ o = 13 ∨ o = 14 by omega) with rfl | rfl | rfl | rfl | rfl | rfl | rfl | rfl | rfl | rfl | rfl | rfl | rfl | rfl | rfl
    · exact alLF_0
    · exact alLF_1
    · exact alLF_2
    · exact alLF_3
    · exact alLF_4
    · exact alLF_5
    · exact alLF_6
    · exact alLF_7
    · exact alLF_8
    · exact alLF_9
    · exact alLF_10
    · exact alLF_11
    · exact alLF_12
    · exact alLF_13
    · exact alLF_14
  · rw [List.getElem?_eq_none (by simp [q_LF]; omega)]
    intro e h
    cases h
def q_pty (t : Nat) : FieldType := match t with
  | 0 => .int
  | 4 => .boolean
  | _ => .object "WhirlShafts$Disc"
theorem alLP_0 : ∀ e ∈ ((q_LP[0]?).getD []), q_pok (q_cs 0) e.1 e.2.1 e.2.2.1 (q_pty e.2.2.2) := List.forall_mem_cons.mpr ⟨rLP_0_24_0_4_0, List.forall_mem_cons.mpr ⟨rLP_0_28_0_5_0, fun _ h => absurd h List.not_mem_nil⟩⟩
theorem alLP_1 : ∀ e ∈ ((q_LP[1]?).getD []), q_pok (q_cs 1) e.1 e.2.1 e.2.2.1 (q_pty e.2.2.2) := fun _ h => absurd h List.not_mem_nil
theorem alLP_2 : ∀ e ∈ ((q_LP[2]?).getD []), q_pok (q_cs 2) e.1 e.2.1 e.2.2.1 (q_pty e.2.2.2) := List.forall_mem_cons.mpr ⟨rLP_2_15_2_1_0, List.forall_mem_cons.mpr ⟨rLP_2_19_2_2_0, List.forall_mem_cons.mpr ⟨rLP_2_22_2_3_0, fun _ h => absurd h List.not_mem_nil⟩⟩⟩
theorem alLP_3 : ∀ e ∈ ((q_LP[3]?).getD []), q_pok (q_cs 3) e.1 e.2.1 e.2.2.1 (q_pty e.2.2.2) := fun _ h => absurd h List.not_mem_nil
theorem alLP_4 : ∀ e ∈ ((q_LP[4]?).getD []), q_pok (q_cs 4) e.1 e.2.1 e.2.2.1 (q_pty e.2.2.2) := List.forall_mem_cons.mpr ⟨rLP_4_31_4_6_0, List.forall_mem_cons.mpr ⟨rLP_4_35_4_7_0, List.forall_mem_cons.mpr ⟨rLP_4_38_4_8_0, fun _ h => absurd h List.not_mem_nil⟩⟩⟩
theorem alLP_5 : ∀ e ∈ ((q_LP[5]?).getD []), q_pok (q_cs 5) e.1 e.2.1 e.2.2.1 (q_pty e.2.2.2) := List.forall_mem_cons.mpr ⟨rLP_5_21_5_3_0, fun _ h => absurd h List.not_mem_nil⟩
theorem alLP_6 : ∀ e ∈ ((q_LP[6]?).getD []), q_pok (q_cs 6) e.1 e.2.1 e.2.2.1 (q_pty e.2.2.2) := List.forall_mem_cons.mpr ⟨rLP_6_32_6_0_0, fun _ h => absurd h List.not_mem_nil⟩
theorem alLP_7 : ∀ e ∈ ((q_LP[7]?).getD []), q_pok (q_cs 7) e.1 e.2.1 e.2.2.1 (q_pty e.2.2.2) := fun _ h => absurd h List.not_mem_nil
theorem alLP_8 : ∀ e ∈ ((q_LP[8]?).getD []), q_pok (q_cs 8) e.1 e.2.1 e.2.2.1 (q_pty e.2.2.2) := List.forall_mem_cons.mpr ⟨rLP_8_15_8_1_0, List.forall_mem_cons.mpr ⟨rLP_8_19_8_2_0, fun _ h => absurd h List.not_mem_nil⟩⟩
theorem alLP_9 : ∀ e ∈ ((q_LP[9]?).getD []), q_pok (q_cs 9) e.1 e.2.1 e.2.2.1 (q_pty e.2.2.2) := fun _ h => absurd h List.not_mem_nil
theorem alLP_10 : ∀ e ∈ ((q_LP[10]?).getD []), q_pok (q_cs 10) e.1 e.2.1 e.2.2.1 (q_pty e.2.2.2) := List.forall_mem_cons.mpr ⟨rLP_10_18_10_1_0, List.forall_mem_cons.mpr ⟨rLP_10_30_10_2_0, fun _ h => absurd h List.not_mem_nil⟩⟩
theorem alLP_11 : ∀ e ∈ ((q_LP[11]?).getD []), q_pok (q_cs 11) e.1 e.2.1 e.2.2.1 (q_pty e.2.2.2) := List.forall_mem_cons.mpr ⟨rLP_11_95_4_6_0, List.forall_mem_cons.mpr ⟨rLP_11_106_4_7_0, List.forall_mem_cons.mpr ⟨rLP_11_109_4_8_0, List.forall_mem_cons.mpr ⟨rLP_11_244_5_3_0, List.forall_mem_cons.mpr ⟨rLP_11_274_10_1_0, List.forall_mem_cons.mpr ⟨rLP_11_309_11_1_2, List.forall_mem_cons.mpr ⟨rLP_11_337_11_5_4, List.forall_mem_cons.mpr ⟨rLP_11_361_10_2_0, fun _ h => absurd h List.not_mem_nil⟩⟩⟩⟩⟩⟩⟩⟩
theorem alLP_12 : ∀ e ∈ ((q_LP[12]?).getD []), q_pok (q_cs 12) e.1 e.2.1 e.2.2.1 (q_pty e.2.2.2) := List.forall_mem_cons.mpr ⟨rLP_12_115_12_45_0, List.forall_mem_cons.mpr ⟨rLP_12_119_12_0_0, List.forall_mem_cons.mpr ⟨rLP_12_130_12_1_0, List.forall_mem_cons.mpr ⟨rLP_12_137_12_2_0, List.forall_mem_cons.mpr ⟨rLP_12_166_12_20_0, List.forall_mem_cons.mpr ⟨rLP_12_169_12_21_0, List.forall_mem_cons.mpr ⟨rLP_12_247_12_26_0, List.forall_mem_cons.mpr ⟨rLP_12_257_12_35_0, List.forall_mem_cons.mpr ⟨rLP_12_260_12_36_0, List.forall_mem_cons.mpr ⟨rLP_12_269_12_37_0, List.forall_mem_cons.mpr ⟨rLP_12_291_12_39_0, List.forall_mem_cons.mpr ⟨rLP_12_306_12_46_4, List.forall_mem_cons.mpr ⟨rLP_12_310_12_44_0, fun _ h => absurd h List.not_mem_nil⟩⟩⟩⟩⟩⟩⟩⟩⟩⟩⟩⟩⟩
theorem alLP_13 : ∀ e ∈ ((q_LP[13]?).getD []), q_pok (q_cs 13) e.1 e.2.1 e.2.2.1 (q_pty e.2.2.2) := fun _ h => absurd h List.not_mem_nil
theorem alLP_14 : ∀ e ∈ ((q_LP[14]?).getD []), q_pok (q_cs 14) e.1 e.2.1 e.2.2.1 (q_pty e.2.2.2) := fun _ h => absurd h List.not_mem_nil
theorem alLP (o : Nat) : ∀ e ∈ ((q_LP[o]?).getD []), q_pok (q_cs o) e.1 e.2.1 e.2.2.1 (q_pty e.2.2.2) := by
  by_cases ho : o < 15
  · rcases (show o = 0 ∨ o = 1 ∨ o = 2 ∨ o = 3 ∨ o = 4 ∨ o = 5 ∨ o = 6 ∨ o = 7 ∨ o = 8 ∨ o = 9 ∨ o = 10 ∨ o = 11 ∨ o = 12 ∨ o = 13 ∨ o = 14 by omega) with rfl | rfl | rfl | rfl | rfl | rfl | rfl | rfl | rfl | rfl | rfl | rfl | rfl | rfl | rfl
    · exact alLP_0
    · exact alLP_1
    · exact alLP_2
    · exact alLP_3
    · exact alLP_4
    · exact alLP_5
    · exact alLP_6
    · exact alLP_7
    · exact alLP_8
    · exact alLP_9
    · exact alLP_10
    · exact alLP_11
    · exact alLP_12
    · exact alLP_13
    · exact alLP_14
  · rw [List.getElem?_eq_none (by simp [q_LP]; omega)]
    intro e h
    cases h
theorem alLS_0 : ∀ e ∈ ((q_LS[0]?).getD []), q_okS (q_cs 0) e.1 e.2.1 e.2.2 := fun _ h => absurd h List.not_mem_nil
theorem alLS_1 : ∀ e ∈ ((q_LS[1]?).getD []), q_okS (q_cs 1) e.1 e.2.1 e.2.2 := fun _ h => absurd h List.not_mem_nil
theorem alLS_2 : ∀ e ∈ ((q_LS[2]?).getD []), q_okS (q_cs 2) e.1 e.2.1 e.2.2 := fun _ h => absurd h List.not_mem_nil
theorem alLS_3 : ∀ e ∈ ((q_LS[3]?).getD []), q_okS (q_cs 3) e.1 e.2.1 e.2.2 := fun _ h => absurd h List.not_mem_nil
theorem alLS_4 : ∀ e ∈ ((q_LS[4]?).getD []), q_okS (q_cs 4) e.1 e.2.1 e.2.2 := List.forall_mem_cons.mpr ⟨rLS_4_58_105, fun _ h => absurd h List.not_mem_nil⟩
theorem alLS_5 : ∀ e ∈ ((q_LS[5]?).getD []), q_okS (q_cs 5) e.1 e.2.1 e.2.2 := fun _ h => absurd h List.not_mem_nil
theorem alLS_6 : ∀ e ∈ ((q_LS[6]?).getD []), q_okS (q_cs 6) e.1 e.2.1 e.2.2 := List.forall_mem_cons.mpr ⟨rLS_6_57_209, List.forall_mem_cons.mpr ⟨rLS_6_65_210, fun _ h => absurd h List.not_mem_nil⟩⟩
theorem alLS_7 : ∀ e ∈ ((q_LS[7]?).getD []), q_okS (q_cs 7) e.1 e.2.1 e.2.2 := fun _ h => absurd h List.not_mem_nil
theorem alLS_8 : ∀ e ∈ ((q_LS[8]?).getD []), q_okS (q_cs 8) e.1 e.2.1 e.2.2 := fun _ h => absurd h List.not_mem_nil
theorem alLS_9 : ∀ e ∈ ((q_LS[9]?).getD []), q_okS (q_cs 9) e.1 e.2.1 e.2.2 := List.forall_mem_cons.mpr ⟨rLS_9_11_208, fun _ h => absurd h List.not_mem_nil⟩
theorem alLS_10 : ∀ e ∈ ((q_LS[10]?).getD []), q_okS (q_cs 10) e.1 e.2.1 e.2.2 := List.forall_mem_cons.mpr ⟨rLS_10_22_56, List.forall_mem_cons.mpr ⟨rLS_10_26_57, fun _ h => absurd h List.not_mem_nil⟩⟩
theorem alLS_11 : ∀ e ∈ ((q_LS[11]?).getD []), q_okS (q_cs 11) e.1 e.2.1 e.2.2 := List.forall_mem_cons.mpr ⟨rLS_11_87_104, List.forall_mem_cons.mpr ⟨rLS_11_91_105, List.forall_mem_cons.mpr ⟨rLS_11_158_107, List.forall_mem_cons.mpr ⟨rLS_11_182_106, List.forall_mem_cons.mpr ⟨rLS_11_189_108, List.forall_mem_cons.mpr ⟨rLS_11_218_109, List.forall_mem_cons.mpr ⟨rLS_11_331_110, fun _ h => absurd h List.not_mem_nil⟩⟩⟩⟩⟩⟩⟩
theorem alLS_12 : ∀ e ∈ ((q_LS[12]?).getD []), q_okS (q_cs 12) e.1 e.2.1 e.2.2 := List.forall_mem_cons.mpr ⟨rLS_12_122_120, List.forall_mem_cons.mpr ⟨rLS_12_126_123, List.forall_mem_cons.mpr ⟨rLS_12_147_129, List.forall_mem_cons.mpr ⟨rLS_12_185_141, List.forall_mem_cons.mpr ⟨rLS_12_188_142, List.forall_mem_cons.mpr ⟨rLS_12_209_124, List.forall_mem_cons.mpr ⟨rLS_12_218_158, List.forall_mem_cons.mpr ⟨rLS_12_228_168, List.forall_mem_cons.mpr ⟨rLS_12_231_169, List.forall_mem_cons.mpr ⟨rLS_12_266_187, fun _ h => absurd h List.not_mem_nil⟩⟩⟩⟩⟩⟩⟩⟩⟩⟩
theorem alLS_13 : ∀ e ∈ ((q_LS[13]?).getD []), q_okS (q_cs 13) e.1 e.2.1 e.2.2 := fun _ h => absurd h List.not_mem_nil
theorem alLS_14 : ∀ e ∈ ((q_LS[14]?).getD []), q_okS (q_cs 14) e.1 e.2.1 e.2.2 := fun _ h => absurd h List.not_mem_nil
theorem alLS (o : Nat) : ∀ e ∈ ((q_LS[o]?).getD []), q_okS (q_cs o) e.1 e.2.1 e.2.2 := by
  by_cases ho : o < 15
  · rcases (show o = 0 ∨ o = 1 ∨ o = 2 ∨ o = 3 ∨ o = 4 ∨ o = 5 ∨ o = 6 ∨ o = 7 ∨ o = 8 ∨ o = 9 ∨ o = 10 ∨ o = 11 ∨ o = 12 ∨ o = 13 ∨ o = 14 by omega) with rfl | rfl | rfl | rfl | rfl | rfl | rfl | rfl | rfl | rfl | rfl | rfl | rfl | rfl | rfl
    · exact alLS_0
    · exact alLS_1
    · exact alLS_2
    · exact alLS_3
    · exact alLS_4
    · exact alLS_5
    · exact alLS_6
    · exact alLS_7
    · exact alLS_8
    · exact alLS_9
    · exact alLS_10
    · exact alLS_11
    · exact alLS_12
    · exact alLS_13
    · exact alLS_14
  · rw [List.getElem?_eq_none (by simp [q_LS]; omega)]
    intro e h
    cases h
theorem alLV_0 : ∀ e ∈ ((q_LV[0]?).getD []), q_okV (q_cs 0) e.1 (q_cs e.2.1) e.2.2.1 e.2.2.2 := List.forall_mem_cons.mpr ⟨rLV_0_31_0_2, List.forall_mem_cons.mpr ⟨rLV_0_40_4_24, fun _ h => absurd h List.not_mem_nil⟩⟩
theorem alLV_1 : ∀ e ∈ ((q_LV[1]?).getD []), q_okV (q_cs 1) e.1 (q_cs e.2.1) e.2.2.1 e.2.2.2 := List.forall_mem_cons.mpr ⟨rLV_1_11_1_9, fun _ h => absurd h List.not_mem_nil⟩
theorem alLV_2 : ∀ e ∈ ((q_LV[2]?).getD []), q_okV (q_cs 2) e.1 (q_cs e.2.1) e.2.2.1 e.2.2.2 := List.forall_mem_cons.mpr ⟨rLV_2_25_1_9, List.forall_mem_cons.mpr ⟨rLV_2_25_2_9, List.forall_mem_cons.mpr ⟨rLV_2_25_3_9, List.forall_mem_cons.mpr ⟨rLV_2_25_7_9, List.forall_mem_cons.mpr ⟨rLV_2_25_9_9, List.forall_mem_cons.mpr ⟨rLV_2_29_1_7, List.forall_mem_cons.mpr ⟨rLV_2_29_2_11, List.forall_mem_cons.mpr ⟨rLV_2_29_3_15, List.forall_mem_cons.mpr ⟨rLV_2_29_7_11, List.forall_mem_cons.mpr ⟨rLV_2_29_9_15, List.forall_mem_cons.mpr ⟨rLV_2_33_1_47, List.forall_mem_cons.mpr ⟨rLV_2_33_2_12, List.forall_mem_cons.mpr ⟨rLV_2_33_3_12, List.forall_mem_cons.mpr ⟨rLV_2_33_7_47, List.forall_mem_cons.mpr ⟨rLV_2_33_9_54, fun _ h => absurd h List.not_mem_nil⟩⟩⟩⟩⟩⟩⟩⟩⟩⟩⟩⟩⟩⟩⟩
theorem alLV_3 : ∀ e ∈ ((q_LV[3]?).getD []), q_okV (q_cs 3) e.1 (q_cs e.2.1) e.2.2.1 e.2.2.2 := List.forall_mem_cons.mpr ⟨rLV_3_7_3_9, List.forall_mem_cons.mpr ⟨rLV_3_7_9_9, fun _ h => absurd h List.not_mem_nil⟩⟩
theorem alLV_4 : ∀ e ∈ ((q_LV[4]?).getD []), q_okV (q_cs 4) e.1 (q_cs e.2.1) e.2.2.1 e.2.2.2 := List.forall_mem_cons.mpr ⟨rLV_4_47_4_19, List.forall_mem_cons.mpr ⟨rLV_4_51_4_20, List.forall_mem_cons.mpr ⟨rLV_4_54_4_21, List.forall_mem_cons.mpr ⟨rLV_4_61_4_26, List.forall_mem_cons.mpr ⟨rLV_4_65_4_25, List.forall_mem_cons.mpr ⟨rLV_4_68_1_5, List.forall_mem_cons.mpr ⟨rLV_4_68_2_10, List.forall_mem_cons.mpr ⟨rLV_4_68_3_14, List.forall_mem_cons.mpr ⟨rLV_4_68_7_46, List.forall_mem_cons.mpr ⟨rLV_4_68_9_53, List.forall_mem_cons.mpr ⟨rLV_4_74_4_28, List.forall_mem_cons.mpr ⟨rLV_4_77_4_27, List.forall_mem_cons.mpr ⟨rLV_4_80_4_30, List.forall_mem_cons.mpr ⟨rLV_4_83_4_31, List.forall_mem_cons.mpr ⟨rLV_4_86_4_29, fun _ h => absurd h List.not_mem_nil⟩⟩⟩⟩⟩⟩⟩⟩⟩⟩⟩⟩⟩⟩⟩
theorem alLV_5 : ∀ e ∈ ((q_LV[5]?).getD []), q_okV (q_cs 5) e.1 (q_cs e.2.1) e.2.2.1 e.2.2.2 := fun _ h => absurd h List.not_mem_nil
theorem alLV_6 : ∀ e ∈ ((q_LV[6]?).getD []), q_okV (q_cs 6) e.1 (q_cs e.2.1) e.2.2.1 e.2.2.2 := List.forall_mem_cons.mpr ⟨rLV_6_33_4_29, List.forall_mem_cons.mpr ⟨rLV_6_37_4_32, List.forall_mem_cons.mpr ⟨rLV_6_39_4_31, List.forall_mem_cons.mpr ⟨rLV_6_42_6_38, List.forall_mem_cons.mpr ⟨rLV_6_46_6_39, List.forall_mem_cons.mpr ⟨rLV_6_50_6_40, List.forall_mem_cons.mpr ⟨rLV_6_68_6_42, List.forall_mem_cons.mpr ⟨rLV_6_72_6_37, fun _ h => absurd h List.not_mem_nil⟩⟩⟩⟩⟩⟩⟩⟩
theorem alLV_7 : ∀ e ∈ ((q_LV[7]?).getD []), q_okV (q_cs 7) e.1 (q_cs e.2.1) e.2.2.1 e.2.2.2 := List.forall_mem_cons.mpr ⟨rLV_7_7_1_9, List.forall_mem_cons.mpr ⟨rLV_7_7_7_9, fun _ h => absurd h List.not_mem_nil⟩⟩
theorem alLV_8 : ∀ e ∈ ((q_LV[8]?).getD []), q_okV (q_cs 8) e.1 (q_cs e.2.1) e.2.2.1 e.2.2.2 := fun _ h => absurd h List.not_mem_nil
theorem alLV_9 : ∀ e ∈ ((q_LV[9]?).getD []), q_okV (q_cs 9) e.1 (q_cs e.2.1) e.2.2.1 e.2.2.2 := List.forall_mem_cons.mpr ⟨rLV_9_16_9_9, List.forall_mem_cons.mpr ⟨rLV_9_26_9_15, fun _ h => absurd h List.not_mem_nil⟩⟩
theorem alLV_10 : ∀ e ∈ ((q_LV[10]?).getD []), q_okV (q_cs 10) e.1 (q_cs e.2.1) e.2.2.1 e.2.2.2 := List.forall_mem_cons.mpr ⟨rLV_10_33_10_60, fun _ h => absurd h List.not_mem_nil⟩
theorem alLV_11 : ∀ e ∈ ((q_LV[11]?).getD []), q_okV (q_cs 11) e.1 (q_cs e.2.1) e.2.2.1 e.2.2.2 := List.forall_mem_cons.mpr ⟨rLV_11_99_0_0, List.forall_mem_cons.mpr ⟨rLV_11_102_4_17, List.forall_mem_cons.mpr ⟨rLV_11_112_4_22, List.forall_mem_cons.mpr ⟨rLV_11_115_4_23, List.forall_mem_cons.mpr ⟨rLV_11_119_4_24, List.forall_mem_cons.mpr ⟨rLV_11_123_0_1, List.forall_mem_cons.mpr ⟨rLV_11_127_4_21, List.forall_mem_cons.mpr ⟨rLV_11_130_4_20, List.forall_mem_cons.mpr ⟨rLV_11_133_4_31, List.forall_mem_cons.mpr ⟨rLV_11_137_4_19, List.forall_mem_cons.mpr ⟨rLV_11_143_4_28, List.forall_mem_cons.mpr ⟨rLV_11_146_4_29, List.forall_mem_cons.mpr ⟨rLV_11_149_4_30, List.forall_mem_cons.mpr ⟨rLV_11_152_4_27, List.forall_mem_cons.mpr ⟨rLV_11_155_4_32, List.forall_mem_cons.mpr ⟨rLV_11_161_6_36, List.forall_mem_cons.mpr ⟨rLV_11_165_6_37, List.forall_mem_cons.mpr ⟨rLV_11_168_6_40, List.forall_mem_cons.mpr ⟨rLV_11_171_6_38, List.forall_mem_cons.mpr ⟨rLV_11_175_6_41, List.forall_mem_cons.mpr ⟨rLV_11_178_6_42, List.forall_mem_cons.mpr ⟨rLV_11_185_11_112, List.forall_mem_cons.mpr ⟨rLV_11_193_6_45, List.forall_mem_cons.mpr ⟨rLV_11_196_6_43, List.forall_mem_cons.mpr ⟨rLV_11_199_4_16, List.forall_mem_cons.mpr ⟨rLV_11_202_11_114, List.forall_mem_cons.mpr ⟨rLV_11_205_11_113, List.forall_mem_cons.mpr ⟨rLV_11_214_4_18, List.forall_mem_cons.mpr ⟨rLV_11_221_8_48, List.forall_mem_cons.mpr ⟨rLV_11_228_11_117, List.forall_mem_cons.mpr ⟨rLV_11_232_11_116, List.forall_mem_cons.mpr ⟨rLV_11_240_6_44, List.forall_mem_cons.mpr ⟨rLV_11_247_5_34, List.forall_mem_cons.mpr ⟨rLV_11_258_11_64, List.forall_mem_cons.mpr ⟨rLV_11_264_0_3, List.forall_mem_cons.mpr ⟨rLV_11_271_0_4, List.forall_mem_cons.mpr ⟨rLV_11_277_10_55, List.forall_mem_cons.mpr ⟨rLV_11_279_10_58, List.forall_mem_cons.mpr ⟨rLV_11_282_11_118, List.forall_mem_cons.mpr ⟨rLV_11_285_8_49, List.forall_mem_cons.mpr ⟨rLV_11_289_8_50, List.forall_mem_cons.mpr ⟨rLV_11_291_8_52, List.forall_mem_cons.mpr ⟨rLV_11_300_8_51, List.forall_mem_cons.mpr ⟨rLV_11_313_1_8, List.forall_mem_cons.mpr ⟨rLV_11_313_2_8, List.forall_mem_cons.mpr ⟨rLV_11_313_3_8, List.forall_mem_cons.mpr ⟨rLV_11_313_7_8, List.forall_mem_cons.mpr ⟨rLV_11_313_9_8, List.forall_mem_cons.mpr ⟨rLV_11_316_1_7, List.forall_mem_cons.mpr ⟨rLV_11_316_2_11, List.forall_mem_cons.mpr ⟨rLV_11_316_3_15, List.forall_mem_cons.mpr ⟨rLV_11_316_7_11, List.forall_mem_cons.mpr ⟨rLV_11_316_9_15, List.forall_mem_cons.mpr ⟨rLV_11_319_1_47, List.forall_mem_cons.mpr ⟨rLV_11_319_2_12, List.forall_mem_cons.mpr ⟨rLV_11_319_3_12, List.forall_mem_cons.mpr ⟨rLV_11_319_7_47, List.forall_mem_cons.mpr ⟨rLV_11_319_9_54, List.forall_mem_cons.mpr ⟨rLV_11_322_1_6, List.forall_mem_cons.mpr ⟨rLV_11_322_2_13, List.forall_mem_cons.mpr ⟨rLV_11_322_3_13, List.forall_mem_cons.mpr ⟨rLV_11_322_7_13, List.forall_mem_cons.mpr ⟨rLV_11_322_9_13, List.forall_mem_cons.mpr ⟨rLV_11_334_5_35, List.forall_mem_cons.mpr ⟨rLV_11_341_4_33, List.forall_mem_cons.mpr ⟨rLV_11_345_4_25, List.forall_mem_cons.mpr ⟨rLV_11_348_11_111, List.forall_mem_cons.mpr ⟨rLV_11_357_11_115, List.forall_mem_cons.mpr ⟨rLV_11_364_10_59, List.forall_mem_cons.mpr ⟨rLV_11_367_11_119, List.forall_mem_cons.mpr ⟨rLV_11_373_11_61, List.forall_mem_cons.mpr ⟨rLV_11_376_11_62, fun _ h => absurd h List.not_mem_nil⟩⟩⟩⟩⟩⟩⟩⟩⟩⟩⟩⟩⟩⟩⟩⟩⟩⟩⟩⟩⟩⟩⟩⟩⟩⟩⟩⟩⟩⟩⟩⟩⟩⟩⟩⟩⟩⟩⟩⟩⟩⟩⟩⟩⟩⟩⟩⟩⟩⟩⟩⟩⟩⟩⟩⟩⟩⟩⟩⟩⟩⟩⟩⟩⟩⟩⟩⟩⟩⟩⟩⟩
theorem alLV_12 : ∀ e ∈ ((q_LV[12]?).getD []), q_okV (q_cs 12) e.1 (q_cs e.2.1) e.2.2.1 e.2.2.2 := List.forall_mem_cons.mpr ⟨rLV_12_133_12_125, List.forall_mem_cons.mpr ⟨rLV_12_144_12_128, List.forall_mem_cons.mpr ⟨rLV_12_151_12_130, List.forall_mem_cons.mpr ⟨rLV_12_155_12_126, List.forall_mem_cons.mpr ⟨rLV_12_158_12_132, List.forall_mem_cons.mpr ⟨rLV_12_162_12_131, List.forall_mem_cons.mpr ⟨rLV_12_172_12_134, List.forall_mem_cons.mpr ⟨rLV_12_175_12_121, List.forall_mem_cons.mpr ⟨rLV_12_178_12_122, List.forall_mem_cons.mpr ⟨rLV_12_181_12_140, List.forall_mem_cons.mpr ⟨rLV_12_191_12_127, List.forall_mem_cons.mpr ⟨rLV_12_194_12_143, List.forall_mem_cons.mpr ⟨rLV_12_198_12_138, List.forall_mem_cons.mpr ⟨rLV_12_201_12_144, List.forall_mem_cons.mpr ⟨rLV_12_205_12_139, List.forall_mem_cons.mpr ⟨rLV_12_212_12_155, List.forall_mem_cons.mpr ⟨rLV_12_215_12_133, List.forall_mem_cons.mpr ⟨rLV_12_221_12_159, List.forall_mem_cons.mpr ⟨rLV_12_224_12_165, List.forall_mem_cons.mpr ⟨rLV_12_237_12_177, List.forall_mem_cons.mpr ⟨rLV_12_240_12_178, List.forall_mem_cons.mpr ⟨rLV_12_244_12_175, List.forall_mem_cons.mpr ⟨rLV_12_250_12_202, List.forall_mem_cons.mpr ⟨rLV_12_254_12_145, List.forall_mem_cons.mpr ⟨rLV_12_263_12_186, List.forall_mem_cons.mpr ⟨rLV_12_272_12_188, List.forall_mem_cons.mpr ⟨rLV_12_275_12_189, List.forall_mem_cons.mpr ⟨rLV_12_279_12_135, List.forall_mem_cons.mpr ⟨rLV_12_282_12_136, List.forall_mem_cons.mpr ⟨rLV_12_285_12_190, List.forall_mem_cons.mpr ⟨rLV_12_288_12_191, List.forall_mem_cons.mpr ⟨rLV_12_294_12_193, List.forall_mem_cons.mpr ⟨rLV_12_297_12_194, List.forall_mem_cons.mpr ⟨rLV_12_300_12_195, List.forall_mem_cons.mpr ⟨rLV_12_303_12_196, List.forall_mem_cons.mpr ⟨rLV_12_313_12_200, List.forall_mem_cons.mpr ⟨rLV_12_316_12_201, List.forall_mem_cons.mpr ⟨rLV_12_320_12_206, fun _ h => absurd h List.not_mem_nil⟩⟩⟩⟩⟩⟩⟩⟩⟩⟩⟩⟩⟩⟩⟩⟩⟩⟩⟩⟩⟩⟩⟩⟩⟩⟩⟩⟩⟩⟩⟩⟩⟩⟩⟩⟩⟩⟩
theorem alLV_13 : ∀ e ∈ ((q_LV[13]?).getD []), q_okV (q_cs 13) e.1 (q_cs e.2.1) e.2.2.1 e.2.2.2 := fun _ h => absurd h List.not_mem_nil
theorem alLV_14 : ∀ e ∈ ((q_LV[14]?).getD []), q_okV (q_cs 14) e.1 (q_cs e.2.1) e.2.2.1 e.2.2.2 := List.forall_mem_cons.mpr ⟨rLV_14_13_11_61, List.forall_mem_cons.mpr ⟨rLV_14_17_12_135, List.forall_mem_cons.mpr ⟨rLV_14_18_11_62, List.forall_mem_cons.mpr ⟨rLV_14_22_12_136, List.forall_mem_cons.mpr ⟨rLV_14_23_11_63, List.forall_mem_cons.mpr ⟨rLV_14_26_12_137, List.forall_mem_cons.mpr ⟨rLV_14_27_11_64, List.forall_mem_cons.mpr ⟨rLV_14_30_12_145, List.forall_mem_cons.mpr ⟨rLV_14_31_11_65, List.forall_mem_cons.mpr ⟨rLV_14_35_12_148, List.forall_mem_cons.mpr ⟨rLV_14_36_11_66, List.forall_mem_cons.mpr ⟨rLV_14_39_12_149, List.forall_mem_cons.mpr ⟨rLV_14_40_11_67, List.forall_mem_cons.mpr ⟨rLV_14_43_12_150, List.forall_mem_cons.mpr ⟨rLV_14_44_11_68, List.forall_mem_cons.mpr ⟨rLV_14_47_12_151, List.forall_mem_cons.mpr ⟨rLV_14_48_11_69, List.forall_mem_cons.mpr ⟨rLV_14_51_12_152, List.forall_mem_cons.mpr ⟨rLV_14_52_11_70, List.forall_mem_cons.mpr ⟨rLV_14_55_12_153, List.forall_mem_cons.mpr ⟨rLV_14_56_11_71, List.forall_mem_cons.mpr ⟨rLV_14_59_12_154, List.forall_mem_cons.mpr ⟨rLV_14_60_11_72, List.forall_mem_cons.mpr ⟨rLV_14_63_12_156, List.forall_mem_cons.mpr ⟨rLV_14_64_11_73, List.forall_mem_cons.mpr ⟨rLV_14_67_12_157, List.forall_mem_cons.mpr ⟨rLV_14_68_11_74, List.forall_mem_cons.mpr ⟨rLV_14_71_12_160, List.forall_mem_cons.mpr ⟨rLV_14_72_11_75, List.forall_mem_cons.mpr ⟨rLV_14_75_12_161, List.forall_mem_cons.mpr ⟨rLV_14_76_11_76, List.forall_mem_cons.mpr ⟨rLV_14_80_12_162, List.forall_mem_cons.mpr ⟨rLV_14_81_11_77, List.forall_mem_cons.mpr ⟨rLV_14_85_12_163, List.forall_mem_cons.mpr ⟨rLV_14_86_11_78, List.forall_mem_cons.mpr ⟨rLV_14_89_12_164, List.forall_mem_cons.mpr ⟨rLV_14_90_11_79, List.forall_mem_cons.mpr ⟨rLV_14_93_12_166, List.forall_mem_cons.mpr ⟨rLV_14_94_11_80, List.forall_mem_cons.mpr ⟨rLV_14_98_12_167, List.forall_mem_cons.mpr ⟨rLV_14_99_11_81, List.forall_mem_cons.mpr ⟨rLV_14_102_12_176, List.forall_mem_cons.mpr ⟨rLV_14_103_11_82, List.forall_mem_cons.mpr ⟨rLV_14_106_12_179, List.forall_mem_cons.mpr ⟨rLV_14_107_11_83, List.forall_mem_cons.mpr ⟨rLV_14_110_12_180, List.forall_mem_cons.mpr ⟨rLV_14_111_11_84, List.forall_mem_cons.mpr ⟨rLV_14_114_12_181, List.forall_mem_cons.mpr ⟨rLV_14_115_11_85, List.forall_mem_cons.mpr ⟨rLV_14_118_12_182, List.forall_mem_cons.mpr ⟨rLV_14_119_11_86, List.forall_mem_cons.mpr ⟨rLV_14_122_12_183, List.forall_mem_cons.mpr ⟨rLV_14_123_11_87, List.forall_mem_cons.mpr ⟨rLV_14_126_12_146, List.forall_mem_cons.mpr ⟨rLV_14_127_11_88, List.forall_mem_cons.mpr ⟨rLV_14_130_12_147, List.forall_mem_cons.mpr ⟨rLV_14_131_11_89, List.forall_mem_cons.mpr ⟨rLV_14_134_12_184, List.forall_mem_cons.mpr ⟨rLV_14_135_11_90, List.forall_mem_cons.mpr ⟨rLV_14_138_12_185, List.forall_mem_cons.mpr ⟨rLV_14_139_11_91, List.forall_mem_cons.mpr ⟨rLV_14_142_12_192, List.forall_mem_cons.mpr ⟨rLV_14_143_11_92, List.forall_mem_cons.mpr ⟨rLV_14_146_12_170, List.forall_mem_cons.mpr ⟨rLV_14_149_11_93, List.forall_mem_cons.mpr ⟨rLV_14_153_12_171, List.forall_mem_cons.mpr ⟨rLV_14_154_11_94, List.forall_mem_cons.mpr ⟨rLV_14_158_12_172, List.forall_mem_cons.mpr ⟨rLV_14_159_11_95, List.forall_mem_cons.mpr ⟨rLV_14_162_12_173, List.forall_mem_cons.mpr ⟨rLV_14_163_11_96, List.forall_mem_cons.mpr ⟨rLV_14_166_12_174, List.forall_mem_cons.mpr ⟨rLV_14_167_11_97, List.forall_mem_cons.mpr ⟨rLV_14_170_12_197, List.forall_mem_cons.mpr ⟨rLV_14_171_11_98, List.forall_mem_cons.mpr ⟨rLV_14_174_12_198, List.forall_mem_cons.mpr ⟨rLV_14_175_11_99, List.forall_mem_cons.mpr ⟨rLV_14_178_12_199, List.forall_mem_cons.mpr ⟨rLV_14_179_11_100, List.forall_mem_cons.mpr ⟨rLV_14_182_12_203, List.forall_mem_cons.mpr ⟨rLV_14_183_11_101, List.forall_mem_cons.mpr ⟨rLV_14_186_12_204, List.forall_mem_cons.mpr ⟨rLV_14_187_11_102, List.forall_mem_cons.mpr ⟨rLV_14_190_12_205, List.forall_mem_cons.mpr ⟨rLV_14_191_11_103, List.forall_mem_cons.mpr ⟨rLV_14_194_12_207, fun _ h => absurd h List.not_mem_nil⟩⟩⟩⟩⟩⟩⟩⟩⟩⟩⟩⟩⟩⟩⟩⟩⟩⟩⟩⟩⟩⟩⟩⟩⟩⟩⟩⟩⟩⟩⟩⟩⟩⟩⟩⟩⟩⟩⟩⟩⟩⟩⟩⟩⟩⟩⟩⟩⟩⟩⟩⟩⟩⟩⟩⟩⟩⟩⟩⟩⟩⟩⟩⟩⟩⟩⟩⟩⟩⟩⟩⟩⟩⟩⟩⟩⟩⟩⟩⟩⟩⟩⟩⟩⟩⟩
theorem alLV (o : Nat) : ∀ e ∈ ((q_LV[o]?).getD []), q_okV (q_cs o) e.1 (q_cs e.2.1) e.2.2.1 e.2.2.2 := by
  by_cases ho : o < 15
  · rcases (show o = 0 ∨ o = 1 ∨ o = 2 ∨ o = 3 ∨ o = 4 ∨ o = 5 ∨ o = 6 ∨ o = 7 ∨ o = 8 ∨ o = 9 ∨ o = 10 ∨ o = 11 ∨ o = 12 ∨ o = 13 ∨ o = 14 by omega) with rfl | rfl | rfl | rfl | rfl | rfl | rfl | rfl | rfl | rfl | rfl | rfl | rfl | rfl | rfl
    · exact alLV_0
    · exact alLV_1
    · exact alLV_2
    · exact alLV_3
    · exact alLV_4
    · exact alLV_5
    · exact alLV_6
    · exact alLV_7
    · exact alLV_8
    · exact alLV_9
    · exact alLV_10
    · exact alLV_11
    · exact alLV_12
    · exact alLV_13
    · exact alLV_14
  · rw [List.getElem?_eq_none (by simp [q_LV]; omega)]
    intro e h
    cases h
theorem alLI_0 : ∀ e ∈ ((q_LI[0]?).getD []), q_okP (q_cs 0) e.1 e.2.1 e.2.2 := fun _ h => absurd h List.not_mem_nil
theorem alLI_1 : ∀ e ∈ ((q_LI[1]?).getD []), q_okP (q_cs 1) e.1 e.2.1 e.2.2 := List.forall_mem_cons.mpr ⟨rLI_1_7_46, List.forall_mem_cons.mpr ⟨rLI_1_17_13, List.forall_mem_cons.mpr ⟨rLI_1_21_11, fun _ h => absurd h List.not_mem_nil⟩⟩⟩
theorem alLI_2 : ∀ e ∈ ((q_LI[2]?).getD []), q_okP (q_cs 2) e.1 e.2.1 e.2.2 := fun _ h => absurd h List.not_mem_nil
theorem alLI_3 : ∀ e ∈ ((q_LI[3]?).getD []), q_okP (q_cs 3) e.1 e.2.1 e.2.2 := List.forall_mem_cons.mpr ⟨rLI_3_13_11, fun _ h => absurd h List.not_mem_nil⟩
theorem alLI_4 : ∀ e ∈ ((q_LI[4]?).getD []), q_okP (q_cs 4) e.1 e.2.1 e.2.2 := fun _ h => absurd h List.not_mem_nil
theorem alLI_5 : ∀ e ∈ ((q_LI[5]?).getD []), q_okP (q_cs 5) e.1 e.2.1 e.2.2 := fun _ h => absurd h List.not_mem_nil
theorem alLI_6 : ∀ e ∈ ((q_LI[6]?).getD []), q_okP (q_cs 6) e.1 e.2.1 e.2.2 := fun _ h => absurd h List.not_mem_nil
theorem alLI_7 : ∀ e ∈ ((q_LI[7]?).getD []), q_okP (q_cs 7) e.1 e.2.1 e.2.2 := List.forall_mem_cons.mpr ⟨rLI_7_13_12, fun _ h => absurd h List.not_mem_nil⟩
theorem alLI_8 : ∀ e ∈ ((q_LI[8]?).getD []), q_okP (q_cs 8) e.1 e.2.1 e.2.2 := fun _ h => absurd h List.not_mem_nil
theorem alLI_9 : ∀ e ∈ ((q_LI[9]?).getD []), q_okP (q_cs 9) e.1 e.2.1 e.2.2 := List.forall_mem_cons.mpr ⟨rLI_9_7_14, List.forall_mem_cons.mpr ⟨rLI_9_22_12, fun _ h => absurd h List.not_mem_nil⟩⟩
theorem alLI_10 : ∀ e ∈ ((q_LI[10]?).getD []), q_okP (q_cs 10) e.1 e.2.1 e.2.2 := fun _ h => absurd h List.not_mem_nil
theorem alLI_11 : ∀ e ∈ ((q_LI[11]?).getD []), q_okP (q_cs 11) e.1 e.2.1 e.2.2 := fun _ h => absurd h List.not_mem_nil
theorem alLI_12 : ∀ e ∈ ((q_LI[12]?).getD []), q_okP (q_cs 12) e.1 e.2.1 e.2.2 := fun _ h => absurd h List.not_mem_nil
theorem alLI_13 : ∀ e ∈ ((q_LI[13]?).getD []), q_okP (q_cs 13) e.1 e.2.1 e.2.2 := fun _ h => absurd h List.not_mem_nil
theorem alLI_14 : ∀ e ∈ ((q_LI[14]?).getD []), q_okP (q_cs 14) e.1 e.2.1 e.2.2 := fun _ h => absurd h List.not_mem_nil
theorem alLI (o : Nat) : ∀ e ∈ ((q_LI[o]?).getD []), q_okP (q_cs o) e.1 e.2.1 e.2.2 := by
  by_cases ho : o < 15
  · rcases (show o = 0 ∨ o = 1 ∨ o = 2 ∨ o = 3 ∨ o = 4 ∨ o = 5 ∨ o = 6 ∨ o = 7 ∨ o = 8 ∨ o = 9 ∨ o = 10 ∨ o = 11 ∨ o = 12 ∨ o = 13 ∨ o = 14 by omega) with rfl | rfl | rfl | rfl | rfl | rfl | rfl | rfl | rfl | rfl | rfl | rfl | rfl | rfl | rfl
    · exact alLI_0
    · exact alLI_1
    · exact alLI_2
    · exact alLI_3
    · exact alLI_4
    · exact alLI_5
    · exact alLI_6
    · exact alLI_7
    · exact alLI_8
    · exact alLI_9
    · exact alLI_10
    · exact alLI_11
    · exact alLI_12
    · exact alLI_13
    · exact alLI_14
  · rw [List.getElem?_eq_none (by simp [q_LI]; omega)]
    intro e h
    cases h
theorem alLC_0 : ∀ e ∈ ((q_LC[0]?).getD []), Cond.constantLong (q_cs 0) e.1 (Int64.ofNat e.2) ∈ q_TW := fun _ h => absurd h List.not_mem_nil
theorem alLC_1 : ∀ e ∈ ((q_LC[1]?).getD []), Cond.constantLong (q_cs 1) e.1 (Int64.ofNat e.2) ∈ q_TW := fun _ h => absurd h List.not_mem_nil
theorem alLC_2 : ∀ e ∈ ((q_LC[2]?).getD []), Cond.constantLong (q_cs 2) e.1 (Int64.ofNat e.2) ∈ q_TW := fun _ h => absurd h List.not_mem_nil
theorem alLC_3 : ∀ e ∈ ((q_LC[3]?).getD []), Cond.constantLong (q_cs 3) e.1 (Int64.ofNat e.2) ∈ q_TW := fun _ h => absurd h List.not_mem_nil
theorem alLC_4 : ∀ e ∈ ((q_LC[4]?).getD []), Cond.constantLong (q_cs 4) e.1 (Int64.ofNat e.2) ∈ q_TW := fun _ h => absurd h List.not_mem_nil
theorem alLC_5 : ∀ e ∈ ((q_LC[5]?).getD []), Cond.constantLong (q_cs 5) e.1 (Int64.ofNat e.2) ∈ q_TW := fun _ h => absurd h List.not_mem_nil
theorem alLC_6 : ∀ e ∈ ((q_LC[6]?).getD []), Cond.constantLong (q_cs 6) e.1 (Int64.ofNat e.2) ∈ q_TW := List.forall_mem_cons.mpr ⟨rLC_6_53, List.forall_mem_cons.mpr ⟨rLC_6_55, List.forall_mem_cons.mpr ⟨rLC_6_63, List.forall_mem_cons.mpr ⟨rLC_6_76, fun _ h => absurd h List.not_mem_nil⟩⟩⟩⟩
theorem alLC_7 : ∀ e ∈ ((q_LC[7]?).getD []), Cond.constantLong (q_cs 7) e.1 (Int64.ofNat e.2) ∈ q_TW := fun _ h => absurd h List.not_mem_nil
theorem alLC_8 : ∀ e ∈ ((q_LC[8]?).getD []), Cond.constantLong (q_cs 8) e.1 (Int64.ofNat e.2) ∈ q_TW := fun _ h => absurd h List.not_mem_nil
theorem alLC_9 : ∀ e ∈ ((q_LC[9]?).getD []), Cond.constantLong (q_cs 9) e.1 (Int64.ofNat e.2) ∈ q_TW := fun _ h => absurd h List.not_mem_nil
theorem alLC_10 : ∀ e ∈ ((q_LC[10]?).getD []), Cond.constantLong (q_cs 10) e.1 (Int64.ofNat e.2) ∈ q_TW := fun _ h => absurd h List.not_mem_nil
theorem alLC_11 : ∀ e ∈ ((q_LC[11]?).getD []), Cond.constantLong (q_cs 11) e.1 (Int64.ofNat e.2) ∈ q_TW := List.forall_mem_cons.mpr ⟨rLC_11_295, fun _ h => absurd h List.not_mem_nil⟩
theorem alLC_12 : ∀ e ∈ ((q_LC[12]?).getD []), Cond.constantLong (q_cs 12) e.1 (Int64.ofNat e.2) ∈ q_TW := List.forall_mem_cons.mpr ⟨rLC_12_140, List.forall_mem_cons.mpr ⟨rLC_12_142, List.forall_mem_cons.mpr ⟨rLC_12_235, fun _ h => absurd h List.not_mem_nil⟩⟩⟩
theorem alLC_13 : ∀ e ∈ ((q_LC[13]?).getD []), Cond.constantLong (q_cs 13) e.1 (Int64.ofNat e.2) ∈ q_TW := fun _ h => absurd h List.not_mem_nil
theorem alLC_14 : ∀ e ∈ ((q_LC[14]?).getD []), Cond.constantLong (q_cs 14) e.1 (Int64.ofNat e.2) ∈ q_TW := List.forall_mem_cons.mpr ⟨rLC_14_147, fun _ h => absurd h List.not_mem_nil⟩
theorem alLC (o : Nat) : ∀ e ∈ ((q_LC[o]?).getD []), Cond.constantLong (q_cs o) e.1 (Int64.ofNat e.2) ∈ q_TW := by
  by_cases ho : o < 15
  · rcases (show o = 0 ∨ o = 1 ∨ o = 2 ∨ o = 3 ∨ o = 4 ∨ o = 5 ∨ o = 6 ∨ o = 7 ∨ o = 8 ∨ o = 9 ∨ o = 10 ∨ o = 11 ∨ o = 12 ∨ o = 13 ∨ o = 14 by omega) with rfl | rfl | rfl | rfl | rfl | rfl | rfl | rfl | rfl | rfl | rfl | rfl | rfl | rfl | rfl
    · exact alLC_0
    · exact alLC_1
    · exact alLC_2
    · exact alLC_3
    · exact alLC_4
    · exact alLC_5
    · exact alLC_6
    · exact alLC_7
    · exact alLC_8
    · exact alLC_9
    · exact alLC_10
    · exact alLC_11
    · exact alLC_12
    · exact alLC_13
    · exact alLC_14
  · rw [List.getElem?_eq_none (by simp [q_LC]; omega)]
    intro e h
    cases h
def q_sn (a : Nat) : String := match a with
  | 102 => "ABOVE"
  | 103 => "LEAST"
  | _ => "MOST"
theorem alLG_0 : ∀ e ∈ ((q_LG[0]?).getD []), (Cond.fieldLink (q_cs 0) e.1 "WhirlShafts" (q_sn e.2) "[I" ∈ q_TW ∧ (e.2 = 102 ∨ e.2 = 103 ∨ e.2 = 104)) := fun _ h => absurd h List.not_mem_nil
theorem alLG_1 : ∀ e ∈ ((q_LG[1]?).getD []), (Cond.fieldLink (q_cs 1) e.1 "WhirlShafts" (q_sn e.2) "[I" ∈ q_TW ∧ (e.2 = 102 ∨ e.2 = 103 ∨ e.2 = 104)) := fun _ h => absurd h List.not_mem_nil
theorem alLG_2 : ∀ e ∈ ((q_LG[2]?).getD []), (Cond.fieldLink (q_cs 2) e.1 "WhirlShafts" (q_sn e.2) "[I" ∈ q_TW ∧ (e.2 = 102 ∨ e.2 = 103 ∨ e.2 = 104)) := fun _ h => absurd h List.not_mem_nil
theorem alLG_3 : ∀ e ∈ ((q_LG[3]?).getD []), (Cond.fieldLink (q_cs 3) e.1 "WhirlShafts" (q_sn e.2) "[I" ∈ q_TW ∧ (e.2 = 102 ∨ e.2 = 103 ∨ e.2 = 104)) := fun _ h => absurd h List.not_mem_nil
theorem alLG_4 : ∀ e ∈ ((q_LG[4]?).getD []), (Cond.fieldLink (q_cs 4) e.1 "WhirlShafts" (q_sn e.2) "[I" ∈ q_TW ∧ (e.2 = 102 ∨ e.2 = 103 ∨ e.2 = 104)) := fun _ h => absurd h List.not_mem_nil
theorem alLG_5 : ∀ e ∈ ((q_LG[5]?).getD []), (Cond.fieldLink (q_cs 5) e.1 "WhirlShafts" (q_sn e.2) "[I" ∈ q_TW ∧ (e.2 = 102 ∨ e.2 = 103 ∨ e.2 = 104)) := fun _ h => absurd h List.not_mem_nil
theorem alLG_6 : ∀ e ∈ ((q_LG[6]?).getD []), (Cond.fieldLink (q_cs 6) e.1 "WhirlShafts" (q_sn e.2) "[I" ∈ q_TW ∧ (e.2 = 102 ∨ e.2 = 103 ∨ e.2 = 104)) := fun _ h => absurd h List.not_mem_nil
theorem alLG_7 : ∀ e ∈ ((q_LG[7]?).getD []), (Cond.fieldLink (q_cs 7) e.1 "WhirlShafts" (q_sn e.2) "[I" ∈ q_TW ∧ (e.2 = 102 ∨ e.2 = 103 ∨ e.2 = 104)) := fun _ h => absurd h List.not_mem_nil
theorem alLG_8 : ∀ e ∈ ((q_LG[8]?).getD []), (Cond.fieldLink (q_cs 8) e.1 "WhirlShafts" (q_sn e.2) "[I" ∈ q_TW ∧ (e.2 = 102 ∨ e.2 = 103 ∨ e.2 = 104)) := fun _ h => absurd h List.not_mem_nil
theorem alLG_9 : ∀ e ∈ ((q_LG[9]?).getD []), (Cond.fieldLink (q_cs 9) e.1 "WhirlShafts" (q_sn e.2) "[I" ∈ q_TW ∧ (e.2 = 102 ∨ e.2 = 103 ∨ e.2 = 104)) := fun _ h => absurd h List.not_mem_nil
theorem alLG_10 : ∀ e ∈ ((q_LG[10]?).getD []), (Cond.fieldLink (q_cs 10) e.1 "WhirlShafts" (q_sn e.2) "[I" ∈ q_TW ∧ (e.2 = 102 ∨ e.2 = 103 ∨ e.2 = 104)) := fun _ h => absurd h List.not_mem_nil
theorem alLG_11 : ∀ e ∈ ((q_LG[11]?).getD []), (Cond.fieldLink (q_cs 11) e.1 "WhirlShafts" (q_sn e.2) "[I" ∈ q_TW ∧ (e.2 = 102 ∨ e.2 = 103 ∨ e.2 = 104)) := List.forall_mem_cons.mpr ⟨⟨rLG_11_9, (by decide)⟩, List.forall_mem_cons.mpr ⟨⟨rLG_11_351, (by decide)⟩, List.forall_mem_cons.mpr ⟨⟨rLG_11_354, (by decide)⟩, fun _ h => absurd h List.not_mem_nil⟩⟩⟩
theorem alLG_12 : ∀ e ∈ ((q_LG[12]?).getD []), (Cond.fieldLink (q_cs 12) e.1 "WhirlShafts" (q_sn e.2) "[I" ∈ q_TW ∧ (e.2 = 102 ∨ e.2 = 103 ∨ e.2 = 104)) := fun _ h => absurd h List.not_mem_nil
theorem alLG_13 : ∀ e ∈ ((q_LG[13]?).getD []), (Cond.fieldLink (q_cs 13) e.1 "WhirlShafts" (q_sn e.2) "[I" ∈ q_TW ∧ (e.2 = 102 ∨ e.2 = 103 ∨ e.2 = 104)) := fun _ h => absurd h List.not_mem_nil
theorem alLG_14 : ∀ e ∈ ((q_LG[14]?).getD []), (Cond.fieldLink (q_cs 14) e.1 "WhirlShafts" (q_sn e.2) "[I" ∈ q_TW ∧ (e.2 = 102 ∨ e.2 = 103 ∨ e.2 = 104)) := fun _ h => absurd h List.not_mem_nil
theorem alLG (o : Nat) : ∀ e ∈ ((q_LG[o]?).getD []), (Cond.fieldLink (q_cs o) e.1 "WhirlShafts" (q_sn e.2) "[I" ∈ q_TW ∧ (e.2 = 102 ∨ e.2 = 103 ∨ e.2 = 104)) := by
  by_cases ho : o < 15
  · rcases (show o = 0 ∨ o = 1 ∨ o = 2 ∨ o = 3 ∨ o = 4 ∨ o = 5 ∨ o = 6 ∨ o = 7 ∨ o = 8 ∨ o = 9 ∨ o = 10 ∨ o = 11 ∨ o = 12 ∨ o = 13 ∨ o = 14 by omega) with rfl | rfl | rfl | rfl | rfl | rfl | rfl | rfl | rfl | rfl | rfl | rfl | rfl | rfl | rfl
    · exact alLG_0
    · exact alLG_1
    · exact alLG_2
    · exact alLG_3
    · exact alLG_4
    · exact alLG_5
    · exact alLG_6
    · exact alLG_7
    · exact alLG_8
    · exact alLG_9
    · exact alLG_10
    · exact alLG_11
    · exact alLG_12
    · exact alLG_13
    · exact alLG_14
  · rw [List.getElem?_eq_none (by simp [q_LG]; omega)]
    intro e h
    cases h
theorem alLA_0 : ∀ e ∈ ((q_LA[0]?).getD []), Cond.methodLink (q_cs 0) e arraycopyName ∈ q_TW := List.forall_mem_cons.mpr ⟨rLA_0_34, fun _ h => absurd h List.not_mem_nil⟩
theorem alLA_1 : ∀ e ∈ ((q_LA[1]?).getD []), Cond.methodLink (q_cs 1) e arraycopyName ∈ q_TW := fun _ h => absurd h List.not_mem_nil
theorem alLA_2 : ∀ e ∈ ((q_LA[2]?).getD []), Cond.methodLink (q_cs 2) e arraycopyName ∈ q_TW := fun _ h => absurd h List.not_mem_nil
theorem alLA_3 : ∀ e ∈ ((q_LA[3]?).getD []), Cond.methodLink (q_cs 3) e arraycopyName ∈ q_TW := fun _ h => absurd h List.not_mem_nil
theorem alLA_4 : ∀ e ∈ ((q_LA[4]?).getD []), Cond.methodLink (q_cs 4) e arraycopyName ∈ q_TW := List.forall_mem_cons.mpr ⟨rLA_4_41, fun _ h => absurd h List.not_mem_nil⟩
theorem alLA_5 : ∀ e ∈ ((q_LA[5]?).getD []), Cond.methodLink (q_cs 5) e arraycopyName ∈ q_TW := List.forall_mem_cons.mpr ⟨rLA_5_25, fun _ h => absurd h List.not_mem_nil⟩
theorem alLA_6 : ∀ e ∈ ((q_LA[6]?).getD []), Cond.methodLink (q_cs 6) e arraycopyName ∈ q_TW := fun _ h => absurd h List.not_mem_nil
theorem alLA_7 : ∀ e ∈ ((q_LA[7]?).getD []), Cond.methodLink (q_cs 7) e arraycopyName ∈ q_TW := fun _ h => absurd h List.not_mem_nil
theorem alLA_8 : ∀ e ∈ ((q_LA[8]?).getD []), Cond.methodLink (q_cs 8) e arraycopyName ∈ q_TW := fun _ h => absurd h List.not_mem_nil
theorem alLA_9 : ∀ e ∈ ((q_LA[9]?).getD []), Cond.methodLink (q_cs 9) e arraycopyName ∈ q_TW := fun _ h => absurd h List.not_mem_nil
theorem alLA_10 : ∀ e ∈ ((q_LA[10]?).getD []), Cond.methodLink (q_cs 10) e arraycopyName ∈ q_TW := fun _ h => absurd h List.not_mem_nil
theorem alLA_11 : ∀ e ∈ ((q_LA[11]?).getD []), Cond.methodLink (q_cs 11) e arraycopyName ∈ q_TW := List.forall_mem_cons.mpr ⟨rLA_11_303, fun _ h => absurd h List.not_mem_nil⟩
theorem alLA_12 : ∀ e ∈ ((q_LA[12]?).getD []), Cond.methodLink (q_cs 12) e arraycopyName ∈ q_TW := fun _ h => absurd h List.not_mem_nil
theorem alLA_13 : ∀ e ∈ ((q_LA[13]?).getD []), Cond.methodLink (q_cs 13) e arraycopyName ∈ q_TW := fun _ h => absurd h List.not_mem_nil
theorem alLA_14 : ∀ e ∈ ((q_LA[14]?).getD []), Cond.methodLink (q_cs 14) e arraycopyName ∈ q_TW := fun _ h => absurd h List.not_mem_nil
theorem alLA (o : Nat) : ∀ e ∈ ((q_LA[o]?).getD []), Cond.methodLink (q_cs o) e arraycopyName ∈ q_TW := by
  by_cases ho : o < 15
  · rcases (show o = 0 ∨ o = 1 ∨ o = 2 ∨ o = 3 ∨ o = 4 ∨ o = 5 ∨ o = 6 ∨ o = 7 ∨ o = 8 ∨ o = 9 ∨ o = 10 ∨ o = 11 ∨ o = 12 ∨ o = 13 ∨ o = 14 by omega) with rfl | rfl | rfl | rfl | rfl | rfl | rfl | rfl | rfl | rfl | rfl | rfl | rfl | rfl | rfl
    · exact alLA_0
    · exact alLA_1
    · exact alLA_2
    · exact alLA_3
    · exact alLA_4
    · exact alLA_5
    · exact alLA_6
    · exact alLA_7
    · exact alLA_8
    · exact alLA_9
    · exact alLA_10
    · exact alLA_11
    · exact alLA_12
    · exact alLA_13
    · exact alLA_14
  · rw [List.getElem?_eq_none (by simp [q_LA]; omega)]
    intro e h
    cases h
def q_dec (cc : ByteArray) (pc : Nat) (i : Instr) (n : Nat) : Bool := decide (decode cc pc = .ok (i, n))
theorem q_dec_of {cc : ByteArray} {pc : Nat} {i : Instr} {n : Nat} (h : q_dec cc pc i n = true) : decode cc pc = .ok (i, n) := of_decide_eq_true h
def q_rmb (Rf Rl y : Nat) : Bool := Nat.blt y 211 && (Nat.ble (q_fr y + 1) Rf && Nat.ble (8 + (q_mx y + 11) + q_lo y) Rl)
def q_tswb (pc : Nat) (lo : Int) : Nat → List (Int32 × Nat) → List Int → Bool
  | _, [], [] => true
  | j, q :: sw, off :: offs => decide (q.1 = Int32.ofInt (lo + j)) && (decide ((pc : Int) + off = (q.2 : Int)) && q_tswb pc lo (j + 1) sw offs)
  | _, _, _ => false
def q_lswb (pc : Nat) : List (Int32 × Nat) → List (Int × Int) → Bool
  | [], [] => true
  | q :: sw, o :: ps => decide ((-2147483648 ≤ o.1 ∧ o.1 < 2147483648) ∧ q.1 = Int32.ofInt o.1 ∧ (pc : Int) + o.2 = (q.2 : Int)) && q_lswb pc sw ps
  | _, _ => false
/-- one row of a table, of class o, in a room of Rf frames and Rl locals -/
def q_chk (cc : ByteArray) (o Rf Rl pc : Nat) (i : Instr) (au : List Nat) (sw : List (Int32 × Nat)) : Bool := match i with
  | .aload_n n => q_dec cc pc (.aload_n n) 1
  | .aload n => q_dec cc pc (.aload n) 2
  | .astore_n n => q_dec cc pc (.astore_n n) 1
  | .astore n => q_dec cc pc (.astore n) 2
  | .iload_n n => q_dec cc pc (.iload_n n) 1
  | .iload n => q_dec cc pc (.iload n) 2
  | .istore_n n => q_dec cc pc (.istore_n n) 1
  | .istore n => q_dec cc pc (.istore n) 2
  | .lload_n n => q_dec cc pc (.lload_n n) 1
  | .lload n => q_dec cc pc (.lload n) 2
  | .lstore_n n => q_dec cc pc (.lstore_n n) 1
  | .lstore n => q_dec cc pc (.lstore n) 2
  | .iadd => q_dec cc pc .iadd 1
  | .isub => q_dec cc pc .isub 1
  | .imul => q_dec cc pc .imul 1
  | .iand => q_dec cc pc .iand 1
  | .ior => q_dec cc pc .ior 1
  | .ixor => q_dec cc pc .ixor 1
  | .idiv => q_dec cc pc .idiv 1
  | .irem => q_dec cc pc .irem 1
  | .ineg => q_dec cc pc .ineg 1
  | .ishl => q_dec cc pc .ishl 1
  | .ishr => q_dec cc pc .ishr 1
  | .ladd => q_dec cc pc .ladd 1
  | .lsub => q_dec cc pc .lsub 1
  | .lmul => q_dec cc pc .lmul 1
  | .land => q_dec cc pc .land 1
  | .lor => q_dec cc pc .lor 1
  | .lxor => q_dec cc pc .lxor 1
  | .ldiv => q_dec cc pc .ldiv 1
  | .lrem => q_dec cc pc .lrem 1
  | .lshl => q_dec cc pc .lshl 1
  | .lshr => q_dec cc pc .lshr 1
  | .lcmp => q_dec cc pc .lcmp 1
  | .i2l => q_dec cc pc .i2l 1
  | .l2i => q_dec cc pc .l2i 1
  | .i2b => q_dec cc pc .i2b 1
  | .dup => q_dec cc pc .dup 1
  | .dup_x1 => q_dec cc pc .dup_x1 1
  | .dup2 => q_dec cc pc .dup2 1
  | .pop => q_dec cc pc .pop 1
  | .iaload => q_dec cc pc .iaload 1
  | .laload => q_dec cc pc .laload 1
  | .aaload => q_dec cc pc .aaload 1
  | .iastore => q_dec cc pc .iastore 1
  | .lastore => q_dec cc pc .lastore 1
  | .arraylength => q_dec cc pc .arraylength 1
  | .ireturn => q_dec cc pc .ireturn 1
  | .lreturn => q_dec cc pc .lreturn 1
  | .return_ => q_dec cc pc .return_ 1
  | .lconst n => q_dec cc pc (.lconst n) 1
  | .iconst n => q_dec cc pc (.iconst n) 1 && (match sw with | [q] => decide (Int32.ofInt n = q.1) | _ => false)
  | .bipush n => q_dec cc pc (.bipush n) 2 && (match sw with | [q] => decide ((Int8.ofInt n).toInt32 = q.1) | _ => false)
  | .sipush n => q_dec cc pc (.sipush n) 3 && (match sw with | [q] => decide ((Int16.ofInt n).toInt32 = q.1) | _ => false)
  | .iinc n z => q_dec cc pc (.iinc n z) 3 && (match sw with | [q] => decide (Int32.ofInt z = q.1) | _ => false)
  | .ldc2_w i => q_dec cc pc (.ldc2_w i) 3 && (match au with | [c] => decide ((i, c) ∈ (q_LC[o]?).getD []) | _ => false)
  | .goto off => q_dec cc pc (.goto off) 3 && (match au with | [t] => decide ((pc : Int) + off = (t : Int)) | _ => false)
  | .ifCond c off => q_dec cc pc (.ifCond c off) 3 && (match au with | [t] => decide ((pc : Int) + off = (t : Int)) | _ => false)
  | .if_icmp c off => q_dec cc pc (.if_icmp c off) 3 && (match au with | [t] => decide ((pc : Int) + off = (t : Int)) | _ => false)
  | .ifnull off => q_dec cc pc (.ifnull off) 3 && (match au with | [t] => decide ((pc : Int) + off = (t : Int)) | _ => false)
  | .tableswitch d lo hi offs => (match decode cc pc with | .ok (j, _) => decide (j = .tableswitch d lo hi offs) | _ => false) && (match au with | [t] => decide ((pc : Int) + d = (t : Int)) && (decide (-2147483648 ≤ lo ∧ hi < 2147483648 ∧ (sw.length : Int) = hi - lo + 1) && q_tswb pc lo 0 sw offs.toList) | _ => false)
  | .lookupswitch d ps => (match decode cc pc with | .ok (j, _) => decide (j = .lookupswitch d ps) | _ => false) && (match au with | [t] => decide ((pc : Int) + d = (t : Int)) && ((ps.toList.zip (ps.toList.drop 1)).all (fun (a, next) => a.1 < next.1) && q_lswb pc sw ps.toList) | _ => false)
  | .getstatic i => q_dec cc pc (.getstatic i) 3 && (match au with | [a] => decide ((i, a) ∈ (q_LG[o]?).getD []) | _ => false)
  | .getfield i => q_dec cc pc (.getfield i) 3 && (match au with | [D, n, t] => decide ((i, D, n, t) ∈ (q_LF[o]?).getD []) | _ => false)
  | .putfield i => q_dec cc pc (.putfield i) 3 && (match au with | [D, n, t] => decide ((i, D, n, t) ∈ (q_LP[o]?).getD []) | _ => false)
  | .invokestatic i => q_dec cc pc (.invokestatic i) 3 && (match au with | [y, n, _] => decide ((i, y, n) ∈ (q_LS[o]?).getD []) && q_rmb Rf Rl y | [_] => decide (i ∈ (q_LA[o]?).getD []) && (Nat.ble 1 Rf && Nat.ble 26 Rl) | _ => false)
  | .invokespecial i => q_dec cc pc (.invokespecial i) 3 && (match au with | [y, n, _, _] => decide ((i, y, n) ∈ (q_LI[o]?).getD []) && q_rmb Rf Rl y | _ => false)
  | .invokevirtual i => q_dec cc pc (.invokevirtual i) 3 && (match au with | [y, n, _, D] => decide ((i, D, y, n) ∈ (q_LV[o]?).getD []) && q_rmb Rf Rl y | [x, n, _, D, _] => (List.range 13).all (fun c => !q_sub c D || (match q_vt x c with | some y => decide ((i, c, y, n) ∈ (q_LV[o]?).getD []) && q_rmb Rf Rl y | none => true)) | _ => false)
  | _ => false
def q_chkR (cc : ByteArray) (o Rf Rl : Nat) : Nat → List (Option q_I) → Bool
  | _, [] => true
  | pc, none :: r => q_chkR cc o Rf Rl (pc + 1) r
  | pc, some x :: r => q_chk cc o Rf Rl pc x.1 x.2.1 x.2.2 && q_chkR cc o Rf Rl (pc + 1) r
def q_chkM (cc : ByteArray) (o Rf Rl : Nat) : Nat → q_T → Bool
  | _, [] => true
  | pc, r :: t => q_chkR cc o Rf Rl pc r && q_chkM cc o Rf Rl (pc + 16) t
theorem q_chkR_at {cc : ByteArray} {o Rf Rl : Nat} {x : q_I} : ∀ {r : List (Option q_I)} {pc j : Nat}, q_chkR cc o Rf Rl pc r = true → r[j]? = some (some x) → q_chk cc o Rf Rl (pc + j) x.1 x.2.1 x.2.2 = true
  | [], _, j, _, h => by simp at h
  | a :: r, pc, 0, hc, h => by
    have e : a = some x := Option.some.inj h
    subst e
    exact ((Bool.and_eq_true _ _).mp hc).1
  | a :: r, pc, j + 1, hc, h => by
    have h2 : q_chkR cc o Rf Rl (pc + 1) r = true := by
      cases a with
      | none => exact hc
      | some y => exact ((Bool.and_eq_true _ _).mp hc).2
    have := q_chkR_at (j := j) h2 h
    rw [show pc + (j + 1) = pc + 1 + j by omega]
    exact this
theorem q_chkM_at {cc : ByteArray} {o Rf Rl : Nat} {x : q_I} : ∀ {t : q_T} {pc i j : Nat} {r : List (Option q_I)}, q_chkM cc o Rf Rl pc t = true → t[i]? = some r → r[j]? = some (some x) → q_chk cc o Rf Rl (pc + 16 * i + j) x.1 x.2.1 x.2.2 = true
  | [], _, i, _, _, _, h, _ => by simp at h
  | a :: t, pc, 0, j, r, hc, h, h2 => by
    have e : a = r := Option.some.inj h
    subst e
    exact q_chkR_at ((Bool.and_eq_true _ _).mp hc).1 h2
  | a :: t, pc, i + 1, j, r, hc, h, h2 => by
    have := q_chkM_at (i := i) ((Bool.and_eq_true _ _).mp hc).2 h h2
    rw [show pc + 16 * (i + 1) + j = pc + 16 + 16 * i + j by omega]
    exact this
theorem q_chk_at {cc : ByteArray} {o Rf Rl : Nat} {T : q_T} {pc : Nat} {i : Instr} {au : List Nat} {sw : List (Int32 × Nat)} (hc : q_chkM cc o Rf Rl 0 T = true) (h : q_at2 none T pc = some (i, au, sw)) : q_chk cc o Rf Rl pc i au sw = true := by
  unfold q_at2 at h
  split at h
  · rename_i r hr
    split at h
    · rename_i x hx
      subst h
      have := q_chkM_at hc hr hx
      rw [show 0 + 16 * (pc / 16) + pc % 16 = pc by omega] at this
      exact this
    · cases h
  · cases h
