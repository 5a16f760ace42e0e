set_option maxRecDepth 100000 in
theorem xck_0_0 : xchR 0 0 37 = true := by decide +kernel
set_option maxRecDepth 100000 in
theorem xck_0 : xckP 0 := by
  intro pc
  rcases Nat.lt_or_ge pc 37 with h0 | h0
  · exact xchR_use xck_0_0 (by omega) (by omega)
  exact xchR_out (by rw [show (xkall.getD 0 []).length = 37 by decide +kernel]; omega)
set_option maxRecDepth 100000 in
theorem xck_1_0 : xchR 1 0 38 = true := by decide +kernel
set_option maxRecDepth 100000 in
theorem xck_1_1 : xchR 1 38 43 = true := by decide +kernel
set_option maxRecDepth 100000 in
theorem xck_1_2 : xchR 1 81 41 = true := by decide +kernel
set_option maxRecDepth 100000 in
theorem xck_1_3 : xchR 1 122 1 = true := by decide +kernel
set_option maxRecDepth 100000 in
theorem xck_1 : xckP 1 := by
  intro pc
  rcases Nat.lt_or_ge pc 38 with h0 | h0
  · exact xchR_use xck_1_0 (by omega) (by omega)
  rcases Nat.lt_or_ge pc 81 with h1 | h1
  · exact xchR_use xck_1_1 (by omega) (by omega)
  rcases Nat.lt_or_ge pc 122 with h2 | h2
  · exact xchR_use xck_1_2 (by omega) (by omega)
  rcases Nat.lt_or_ge pc 123 with h3 | h3
  · exact xchR_use xck_1_3 (by omega) (by omega)
  exact xchR_out (by rw [show (xkall.getD 1 []).length = 123 by decide +kernel]; omega)
set_option maxRecDepth 100000 in
theorem xck_2_0 : xchR 2 0 24 = true := by decide +kernel
set_option maxRecDepth 100000 in
theorem xck_2 : xckP 2 := by
  intro pc
  rcases Nat.lt_or_ge pc 24 with h0 | h0
  · exact xchR_use xck_2_0 (by omega) (by omega)
  exact xchR_out (by rw [show (xkall.getD 2 []).length = 24 by decide +kernel]; omega)
set_option maxRecDepth 100000 in
theorem xck_3_0 : xchR 3 0 33 = true := by decide +kernel
set_option maxRecDepth 100000 in
theorem xck_3_1 : xchR 3 33 8 = true := by decide +kernel
set_option maxRecDepth 100000 in
theorem xck_3 : xckP 3 := by
  intro pc
  rcases Nat.lt_or_ge pc 33 with h0 | h0
  · exact xchR_use xck_3_0 (by omega) (by omega)
  rcases Nat.lt_or_ge pc 41 with h1 | h1
  · exact xchR_use xck_3_1 (by omega) (by omega)
  exact xchR_out (by rw [show (xkall.getD 3 []).length = 41 by decide +kernel]; omega)
set_option maxRecDepth 100000 in
theorem xck_4_0 : xchR 4 0 29 = true := by decide +kernel
set_option maxRecDepth 100000 in
theorem xck_4_1 : xchR 4 29 9 = true := by decide +kernel
set_option maxRecDepth 100000 in
theorem xck_4 : xckP 4 := by
  intro pc
  rcases Nat.lt_or_ge pc 29 with h0 | h0
  · exact xchR_use xck_4_0 (by omega) (by omega)
  rcases Nat.lt_or_ge pc 38 with h1 | h1
  · exact xchR_use xck_4_1 (by omega) (by omega)
  exact xchR_out (by rw [show (xkall.getD 4 []).length = 38 by decide +kernel]; omega)
set_option maxRecDepth 100000 in
theorem xck_5_0 : xchR 5 0 31 = true := by decide +kernel
set_option maxRecDepth 100000 in
theorem xck_5 : xckP 5 := by
  intro pc
  rcases Nat.lt_or_ge pc 31 with h0 | h0
  · exact xchR_use xck_5_0 (by omega) (by omega)
  exact xchR_out (by rw [show (xkall.getD 5 []).length = 31 by decide +kernel]; omega)
set_option maxRecDepth 100000 in
theorem xck_6_0 : xchR 6 0 31 = true := by decide +kernel
set_option maxRecDepth 100000 in
theorem xck_6 : xckP 6 := by
  intro pc
  rcases Nat.lt_or_ge pc 31 with h0 | h0
  · exact xchR_use xck_6_0 (by omega) (by omega)
  exact xchR_out (by rw [show (xkall.getD 6 []).length = 31 by decide +kernel]; omega)
set_option maxRecDepth 100000 in
theorem xck_7_0 : xchR 7 0 31 = true := by decide +kernel
set_option maxRecDepth 100000 in
theorem xck_7_1 : xchR 7 31 12 = true := by decide +kernel
set_option maxRecDepth 100000 in
theorem xck_7 : xckP 7 := by
  intro pc
  rcases Nat.lt_or_ge pc 31 with h0 | h0
  · exact xchR_use xck_7_0 (by omega) (by omega)
  rcases Nat.lt_or_ge pc 43 with h1 | h1
  · exact xchR_use xck_7_1 (by omega) (by omega)
  exact xchR_out (by rw [show (xkall.getD 7 []).length = 43 by decide +kernel]; omega)
set_option maxRecDepth 100000 in
theorem xck_8_0 : xchR 8 0 33 = true := by decide +kernel
set_option maxRecDepth 100000 in
theorem xck_8_1 : xchR 8 33 9 = true := by decide +kernel
set_option maxRecDepth 100000 in
theorem xck_8 : xckP 8 := by
  intro pc
  rcases Nat.lt_or_ge pc 33 with h0 | h0
  · exact xchR_use xck_8_0 (by omega) (by omega)
  rcases Nat.lt_or_ge pc 42 with h1 | h1
  · exact xchR_use xck_8_1 (by omega) (by omega)
  exact xchR_out (by rw [show (xkall.getD 8 []).length = 42 by decide +kernel]; omega)
set_option maxRecDepth 100000 in
theorem xck_9_0 : xchR 9 0 37 = true := by decide +kernel
set_option maxRecDepth 100000 in
theorem xck_9_1 : xchR 9 37 8 = true := by decide +kernel
set_option maxRecDepth 100000 in
theorem xck_9 : xckP 9 := by
  intro pc
  rcases Nat.lt_or_ge pc 37 with h0 | h0
  · exact xchR_use xck_9_0 (by omega) (by omega)
  rcases Nat.lt_or_ge pc 45 with h1 | h1
  · exact xchR_use xck_9_1 (by omega) (by omega)
  exact xchR_out (by rw [show (xkall.getD 9 []).length = 45 by decide +kernel]; omega)
set_option maxRecDepth 100000 in
theorem xck_10_0 : xchR 10 0 36 = true := by decide +kernel
set_option maxRecDepth 100000 in
theorem xck_10_1 : xchR 10 36 24 = true := by decide +kernel
set_option maxRecDepth 100000 in
theorem xck_10 : xckP 10 := by
  intro pc
  rcases Nat.lt_or_ge pc 36 with h0 | h0
  · exact xchR_use xck_10_0 (by omega) (by omega)
  rcases Nat.lt_or_ge pc 60 with h1 | h1
  · exact xchR_use xck_10_1 (by omega) (by omega)
  exact xchR_out (by rw [show (xkall.getD 10 []).length = 60 by decide +kernel]; omega)
set_option maxRecDepth 100000 in
theorem xck_11_0 : xchR 11 0 5 = true := by decide +kernel
set_option maxRecDepth 100000 in
theorem xck_11 : xckP 11 := by
  intro pc
  rcases Nat.lt_or_ge pc 5 with h0 | h0
  · exact xchR_use xck_11_0 (by omega) (by omega)
  exact xchR_out (by rw [show (xkall.getD 11 []).length = 5 by decide +kernel]; omega)
set_option maxRecDepth 100000 in
theorem xck_12_0 : xchR 12 0 36 = true := by decide +kernel
set_option maxRecDepth 100000 in
theorem xck_12_1 : xchR 12 36 7 = true := by decide +kernel
set_option maxRecDepth 100000 in
theorem xck_12 : xckP 12 := by
  intro pc
  rcases Nat.lt_or_ge pc 36 with h0 | h0
  · exact xchR_use xck_12_0 (by omega) (by omega)
  rcases Nat.lt_or_ge pc 43 with h1 | h1
  · exact xchR_use xck_12_1 (by omega) (by omega)
  exact xchR_out (by rw [show (xkall.getD 12 []).length = 43 by decide +kernel]; omega)
set_option maxRecDepth 100000 in
theorem xck_13_0 : xchR 13 0 5 = true := by decide +kernel
set_option maxRecDepth 100000 in
theorem xck_13 : xckP 13 := by
  intro pc
  rcases Nat.lt_or_ge pc 5 with h0 | h0
  · exact xchR_use xck_13_0 (by omega) (by omega)
  exact xchR_out (by rw [show (xkall.getD 13 []).length = 5 by decide +kernel]; omega)
set_option maxRecDepth 100000 in
theorem xck_14_0 : xchR 14 0 34 = true := by decide +kernel
set_option maxRecDepth 100000 in
theorem xck_14_1 : xchR 14 34 5 = true := by decide +kernel
set_option maxRecDepth 100000 in
theorem xck_14 : xckP 14 := by
  intro pc
  rcases Nat.lt_or_ge pc 34 with h0 | h0
  · exact xchR_use xck_14_0 (by omega) (by omega)
  rcases Nat.lt_or_ge pc 39 with h1 | h1
  · exact xchR_use xck_14_1 (by omega) (by omega)
  exact xchR_out (by rw [show (xkall.getD 14 []).length = 39 by decide +kernel]; omega)
set_option maxRecDepth 100000 in
theorem xck_15_0 : xchR 15 0 19 = true := by decide +kernel
set_option maxRecDepth 100000 in
theorem xck_15 : xckP 15 := by
  intro pc
  rcases Nat.lt_or_ge pc 19 with h0 | h0
  · exact xchR_use xck_15_0 (by omega) (by omega)
  exact xchR_out (by rw [show (xkall.getD 15 []).length = 19 by decide +kernel]; omega)
set_option maxRecDepth 100000 in
theorem xck_16_0 : xchR 16 0 36 = true := by decide +kernel
set_option maxRecDepth 100000 in
theorem xck_16_1 : xchR 16 36 4 = true := by decide +kernel
set_option maxRecDepth 100000 in
theorem xck_16 : xckP 16 := by
  intro pc
  rcases Nat.lt_or_ge pc 36 with h0 | h0
  · exact xchR_use xck_16_0 (by omega) (by omega)
  rcases Nat.lt_or_ge pc 40 with h1 | h1
  · exact xchR_use xck_16_1 (by omega) (by omega)
  exact xchR_out (by rw [show (xkall.getD 16 []).length = 40 by decide +kernel]; omega)
set_option maxRecDepth 100000 in
theorem xck_17_0 : xchR 17 0 28 = true := by decide +kernel
set_option maxRecDepth 100000 in
theorem xck_17 : xckP 17 := by
  intro pc
  rcases Nat.lt_or_ge pc 28 with h0 | h0
  · exact xchR_use xck_17_0 (by omega) (by omega)
  exact xchR_out (by rw [show (xkall.getD 17 []).length = 28 by decide +kernel]; omega)
set_option maxRecDepth 100000 in
theorem xck_18_0 : xchR 18 0 16 = true := by decide +kernel
set_option maxRecDepth 100000 in
theorem xck_18 : xckP 18 := by
  intro pc
  rcases Nat.lt_or_ge pc 16 with h0 | h0
  · exact xchR_use xck_18_0 (by omega) (by omega)
  exact xchR_out (by rw [show (xkall.getD 18 []).length = 16 by decide +kernel]; omega)
set_option maxRecDepth 100000 in
theorem xck_19_0 : xchR 19 0 35 = true := by decide +kernel
set_option maxRecDepth 100000 in
theorem xck_19 : xckP 19 := by
  intro pc
  rcases Nat.lt_or_ge pc 35 with h0 | h0
  · exact xchR_use xck_19_0 (by omega) (by omega)
  exact xchR_out (by rw [show (xkall.getD 19 []).length = 35 by decide +kernel]; omega)
set_option maxRecDepth 100000 in
theorem xck_20_0 : xchR 20 0 14 = true := by decide +kernel
set_option maxRecDepth 100000 in
theorem xck_20 : xckP 20 := by
  intro pc
  rcases Nat.lt_or_ge pc 14 with h0 | h0
  · exact xchR_use xck_20_0 (by omega) (by omega)
  exact xchR_out (by rw [show (xkall.getD 20 []).length = 14 by decide +kernel]; omega)
set_option maxRecDepth 100000 in
theorem xck_21_0 : xchR 21 0 5 = true := by decide +kernel
set_option maxRecDepth 100000 in
theorem xck_21 : xckP 21 := by
  intro pc
  rcases Nat.lt_or_ge pc 5 with h0 | h0
  · exact xchR_use xck_21_0 (by omega) (by omega)
  exact xchR_out (by rw [show (xkall.getD 21 []).length = 5 by decide +kernel]; omega)
set_option maxRecDepth 100000 in
theorem xck_22_0 : xchR 22 0 33 = true := by decide +kernel
set_option maxRecDepth 100000 in
theorem xck_22_1 : xchR 22 33 5 = true := by decide +kernel
set_option maxRecDepth 100000 in
theorem xck_22 : xckP 22 := by
  intro pc
  rcases Nat.lt_or_ge pc 33 with h0 | h0
  · exact xchR_use xck_22_0 (by omega) (by omega)
  rcases Nat.lt_or_ge pc 38 with h1 | h1
  · exact xchR_use xck_22_1 (by omega) (by omega)
  exact xchR_out (by rw [show (xkall.getD 22 []).length = 38 by decide +kernel]; omega)
set_option maxRecDepth 100000 in
theorem xck_23_0 : xchR 23 0 36 = true := by decide +kernel
set_option maxRecDepth 100000 in
theorem xck_23_1 : xchR 23 36 25 = true := by decide +kernel
set_option maxRecDepth 100000 in
theorem xck_23 : xckP 23 := by
  intro pc
  rcases Nat.lt_or_ge pc 36 with h0 | h0
  · exact xchR_use xck_23_0 (by omega) (by omega)
  rcases Nat.lt_or_ge pc 61 with h1 | h1
  · exact xchR_use xck_23_1 (by omega) (by omega)
  exact xchR_out (by rw [show (xkall.getD 23 []).length = 61 by decide +kernel]; omega)
set_option maxRecDepth 100000 in
theorem xck_24_0 : xchR 24 0 33 = true := by decide +kernel
set_option maxRecDepth 100000 in
theorem xck_24_1 : xchR 24 33 8 = true := by decide +kernel
set_option maxRecDepth 100000 in
theorem xck_24 : xckP 24 := by
  intro pc
  rcases Nat.lt_or_ge pc 33 with h0 | h0
  · exact xchR_use xck_24_0 (by omega) (by omega)
  rcases Nat.lt_or_ge pc 41 with h1 | h1
  · exact xchR_use xck_24_1 (by omega) (by omega)
  exact xchR_out (by rw [show (xkall.getD 24 []).length = 41 by decide +kernel]; omega)
set_option maxRecDepth 100000 in
theorem xck_25_0 : xchR 25 0 33 = true := by decide +kernel
set_option maxRecDepth 100000 in
theorem xck_25_1 : xchR 25 33 14 = true := by decide +kernel
set_option maxRecDepth 100000 in
theorem xck_25 : xckP 25 := by
  intro pc
  rcases Nat.lt_or_ge pc 33 with h0 | h0
  · exact xchR_use xck_25_0 (by omega) (by omega)
  rcases Nat.lt_or_ge pc 47 with h1 | h1
  · exact xchR_use xck_25_1 (by omega) (by omega)
  exact xchR_out (by rw [show (xkall.getD 25 []).length = 47 by decide +kernel]; omega)
set_option maxRecDepth 100000 in
theorem xck_26_0 : xchR 26 0 29 = true := by decide +kernel
set_option maxRecDepth 100000 in
theorem xck_26_1 : xchR 26 29 14 = true := by decide +kernel
set_option maxRecDepth 100000 in
theorem xck_26 : xckP 26 := by
  intro pc
  rcases Nat.lt_or_ge pc 29 with h0 | h0
  · exact xchR_use xck_26_0 (by omega) (by omega)
  rcases Nat.lt_or_ge pc 43 with h1 | h1
  · exact xchR_use xck_26_1 (by omega) (by omega)
  exact xchR_out (by rw [show (xkall.getD 26 []).length = 43 by decide +kernel]; omega)
set_option maxRecDepth 100000 in
theorem xck_27_0 : xchR 27 0 33 = true := by decide +kernel
set_option maxRecDepth 100000 in
theorem xck_27_1 : xchR 27 33 12 = true := by decide +kernel
set_option maxRecDepth 100000 in
theorem xck_27 : xckP 27 := by
  intro pc
  rcases Nat.lt_or_ge pc 33 with h0 | h0
  · exact xchR_use xck_27_0 (by omega) (by omega)
  rcases Nat.lt_or_ge pc 45 with h1 | h1
  · exact xchR_use xck_27_1 (by omega) (by omega)
  exact xchR_out (by rw [show (xkall.getD 27 []).length = 45 by decide +kernel]; omega)
set_option maxRecDepth 100000 in
theorem xck_28_0 : xchR 28 0 33 = true := by decide +kernel
set_option maxRecDepth 100000 in
theorem xck_28_1 : xchR 28 33 11 = true := by decide +kernel
set_option maxRecDepth 100000 in
theorem xck_28 : xckP 28 := by
  intro pc
  rcases Nat.lt_or_ge pc 33 with h0 | h0
  · exact xchR_use xck_28_0 (by omega) (by omega)
  rcases Nat.lt_or_ge pc 44 with h1 | h1
  · exact xchR_use xck_28_1 (by omega) (by omega)
  exact xchR_out (by rw [show (xkall.getD 28 []).length = 44 by decide +kernel]; omega)
set_option maxRecDepth 100000 in
theorem xck_29_0 : xchR 29 0 31 = true := by decide +kernel
set_option maxRecDepth 100000 in
theorem xck_29_1 : xchR 29 31 10 = true := by decide +kernel
set_option maxRecDepth 100000 in
theorem xck_29 : xckP 29 := by
  intro pc
  rcases Nat.lt_or_ge pc 31 with h0 | h0
  · exact xchR_use xck_29_0 (by omega) (by omega)
  rcases Nat.lt_or_ge pc 41 with h1 | h1
  · exact xchR_use xck_29_1 (by omega) (by omega)
  exact xchR_out (by rw [show (xkall.getD 29 []).length = 41 by decide +kernel]; omega)
set_option maxRecDepth 100000 in
theorem xck_30_0 : xchR 30 0 34 = true := by decide +kernel
set_option maxRecDepth 100000 in
theorem xck_30_1 : xchR 30 34 14 = true := by decide +kernel
set_option maxRecDepth 100000 in
theorem xck_30 : xckP 30 := by
  intro pc
  rcases Nat.lt_or_ge pc 34 with h0 | h0
  · exact xchR_use xck_30_0 (by omega) (by omega)
  rcases Nat.lt_or_ge pc 48 with h1 | h1
  · exact xchR_use xck_30_1 (by omega) (by omega)
  exact xchR_out (by rw [show (xkall.getD 30 []).length = 48 by decide +kernel]; omega)
set_option maxRecDepth 100000 in
theorem xck_31_0 : xchR 31 0 5 = true := by decide +kernel
set_option maxRecDepth 100000 in
theorem xck_31 : xckP 31 := by
  intro pc
  rcases Nat.lt_or_ge pc 5 with h0 | h0
  · exact xchR_use xck_31_0 (by omega) (by omega)
  exact xchR_out (by rw [show (xkall.getD 31 []).length = 5 by decide +kernel]; omega)
set_option maxRecDepth 100000 in
theorem xck_32_0 : xchR 32 0 13 = true := by decide +kernel
set_option maxRecDepth 100000 in
theorem xck_32 : xckP 32 := by
  intro pc
  rcases Nat.lt_or_ge pc 13 with h0 | h0
  · exact xchR_use xck_32_0 (by omega) (by omega)
  exact xchR_out (by rw [show (xkall.getD 32 []).length = 13 by decide +kernel]; omega)
set_option maxRecDepth 100000 in
theorem xck_33_0 : xchR 33 0 5 = true := by decide +kernel
set_option maxRecDepth 100000 in
theorem xck_33 : xckP 33 := by
  intro pc
  rcases Nat.lt_or_ge pc 5 with h0 | h0
  · exact xchR_use xck_33_0 (by omega) (by omega)
  exact xchR_out (by rw [show (xkall.getD 33 []).length = 5 by decide +kernel]; omega)
set_option maxRecDepth 100000 in
theorem xck_34_0 : xchR 34 0 27 = true := by decide +kernel
set_option maxRecDepth 100000 in
theorem xck_34_1 : xchR 34 27 40 = true := by decide +kernel
set_option maxRecDepth 100000 in
theorem xck_34_2 : xchR 34 67 8 = true := by decide +kernel
set_option maxRecDepth 100000 in
theorem xck_34 : xckP 34 := by
  intro pc
  rcases Nat.lt_or_ge pc 27 with h0 | h0
  · exact xchR_use xck_34_0 (by omega) (by omega)
  rcases Nat.lt_or_ge pc 67 with h1 | h1
  · exact xchR_use xck_34_1 (by omega) (by omega)
  rcases Nat.lt_or_ge pc 75 with h2 | h2
  · exact xchR_use xck_34_2 (by omega) (by omega)
  exact xchR_out (by rw [show (xkall.getD 34 []).length = 75 by decide +kernel]; omega)
set_option maxRecDepth 100000 in
theorem xck_35_0 : xchR 35 0 36 = true := by decide +kernel
set_option maxRecDepth 100000 in
theorem xck_35_1 : xchR 35 36 40 = true := by decide +kernel
set_option maxRecDepth 100000 in
theorem xck_35_2 : xchR 35 76 38 = true := by decide +kernel
set_option maxRecDepth 100000 in
theorem xck_35_3 : xchR 35 114 31 = true := by decide +kernel
set_option maxRecDepth 100000 in
theorem xck_35 : xckP 35 := by
  intro pc
  rcases Nat.lt_or_ge pc 36 with h0 | h0
  · exact xchR_use xck_35_0 (by omega) (by omega)
  rcases Nat.lt_or_ge pc 76 with h1 | h1
  · exact xchR_use xck_35_1 (by omega) (by omega)
  rcases Nat.lt_or_ge pc 114 with h2 | h2
  · exact xchR_use xck_35_2 (by omega) (by omega)
  rcases Nat.lt_or_ge pc 145 with h3 | h3
  · exact xchR_use xck_35_3 (by omega) (by omega)
  exact xchR_out (by rw [show (xkall.getD 35 []).length = 145 by decide +kernel]; omega)
set_option maxRecDepth 100000 in
theorem xck_36_0 : xchR 36 0 14 = true := by decide +kernel
set_option maxRecDepth 100000 in
theorem xck_36 : xckP 36 := by
  intro pc
  rcases Nat.lt_or_ge pc 14 with h0 | h0
  · exact xchR_use xck_36_0 (by omega) (by omega)
  exact xchR_out (by rw [show (xkall.getD 36 []).length = 14 by decide +kernel]; omega)
set_option maxRecDepth 100000 in
theorem xck_37_0 : xchR 37 0 24 = true := by decide +kernel
set_option maxRecDepth 100000 in
theorem xck_37 : xckP 37 := by
  intro pc
  rcases Nat.lt_or_ge pc 24 with h0 | h0
  · exact xchR_use xck_37_0 (by omega) (by omega)
  exact xchR_out (by rw [show (xkall.getD 37 []).length = 24 by decide +kernel]; omega)
set_option maxRecDepth 100000 in
theorem xck_38_0 : xchR 38 0 18 = true := by decide +kernel
set_option maxRecDepth 100000 in
theorem xck_38 : xckP 38 := by
  intro pc
  rcases Nat.lt_or_ge pc 18 with h0 | h0
  · exact xchR_use xck_38_0 (by omega) (by omega)
  exact xchR_out (by rw [show (xkall.getD 38 []).length = 18 by decide +kernel]; omega)
set_option maxRecDepth 100000 in
theorem xck_39_0 : xchR 39 0 24 = true := by decide +kernel
set_option maxRecDepth 100000 in
theorem xck_39 : xckP 39 := by
  intro pc
  rcases Nat.lt_or_ge pc 24 with h0 | h0
  · exact xchR_use xck_39_0 (by omega) (by omega)
  exact xchR_out (by rw [show (xkall.getD 39 []).length = 24 by decide +kernel]; omega)
set_option maxRecDepth 100000 in
theorem xck_40_0 : xchR 40 0 22 = true := by decide +kernel
set_option maxRecDepth 100000 in
theorem xck_40 : xckP 40 := by
  intro pc
  rcases Nat.lt_or_ge pc 22 with h0 | h0
  · exact xchR_use xck_40_0 (by omega) (by omega)
  exact xchR_out (by rw [show (xkall.getD 40 []).length = 22 by decide +kernel]; omega)
set_option maxRecDepth 100000 in
theorem xck_41_0 : xchR 41 0 22 = true := by decide +kernel
set_option maxRecDepth 100000 in
theorem xck_41 : xckP 41 := by
  intro pc
  rcases Nat.lt_or_ge pc 22 with h0 | h0
  · exact xchR_use xck_41_0 (by omega) (by omega)
  exact xchR_out (by rw [show (xkall.getD 41 []).length = 22 by decide +kernel]; omega)
set_option maxRecDepth 100000 in
theorem xck_42_0 : xchR 42 0 37 = true := by decide +kernel
set_option maxRecDepth 100000 in
theorem xck_42_1 : xchR 42 37 5 = true := by decide +kernel
set_option maxRecDepth 100000 in
theorem xck_42 : xckP 42 := by
  intro pc
  rcases Nat.lt_or_ge pc 37 with h0 | h0
  · exact xchR_use xck_42_0 (by omega) (by omega)
  rcases Nat.lt_or_ge pc 42 with h1 | h1
  · exact xchR_use xck_42_1 (by omega) (by omega)
  exact xchR_out (by rw [show (xkall.getD 42 []).length = 42 by decide +kernel]; omega)
set_option maxRecDepth 100000 in
theorem xck_43_0 : xchR 43 0 22 = true := by decide +kernel
set_option maxRecDepth 100000 in
theorem xck_43 : xckP 43 := by
  intro pc
  rcases Nat.lt_or_ge pc 22 with h0 | h0
  · exact xchR_use xck_43_0 (by omega) (by omega)
  exact xchR_out (by rw [show (xkall.getD 43 []).length = 22 by decide +kernel]; omega)
set_option maxRecDepth 100000 in
theorem xck_44_0 : xchR 44 0 22 = true := by decide +kernel
set_option maxRecDepth 100000 in
theorem xck_44 : xckP 44 := by
  intro pc
  rcases Nat.lt_or_ge pc 22 with h0 | h0
  · exact xchR_use xck_44_0 (by omega) (by omega)
  exact xchR_out (by rw [show (xkall.getD 44 []).length = 22 by decide +kernel]; omega)
set_option maxRecDepth 100000 in
theorem xck_45_0 : xchR 45 0 14 = true := by decide +kernel
set_option maxRecDepth 100000 in
theorem xck_45 : xckP 45 := by
  intro pc
  rcases Nat.lt_or_ge pc 14 with h0 | h0
  · exact xchR_use xck_45_0 (by omega) (by omega)
  exact xchR_out (by rw [show (xkall.getD 45 []).length = 14 by decide +kernel]; omega)
set_option maxRecDepth 100000 in
theorem xck_46_0 : xchR 46 0 23 = true := by decide +kernel
set_option maxRecDepth 100000 in
theorem xck_46 : xckP 46 := by
  intro pc
  rcases Nat.lt_or_ge pc 23 with h0 | h0
  · exact xchR_use xck_46_0 (by omega) (by omega)
  exact xchR_out (by rw [show (xkall.getD 46 []).length = 23 by decide +kernel]; omega)
set_option maxRecDepth 100000 in
theorem xck_47_0 : xchR 47 0 34 = true := by decide +kernel
set_option maxRecDepth 100000 in
theorem xck_47_1 : xchR 47 34 12 = true := by decide +kernel
set_option maxRecDepth 100000 in
theorem xck_47 : xckP 47 := by
  intro pc
  rcases Nat.lt_or_ge pc 34 with h0 | h0
  · exact xchR_use xck_47_0 (by omega) (by omega)
  rcases Nat.lt_or_ge pc 46 with h1 | h1
  · exact xchR_use xck_47_1 (by omega) (by omega)
  exact xchR_out (by rw [show (xkall.getD 47 []).length = 46 by decide +kernel]; omega)
set_option maxRecDepth 100000 in
theorem xck_48_0 : xchR 48 0 31 = true := by decide +kernel
set_option maxRecDepth 100000 in
theorem xck_48_1 : xchR 48 31 38 = true := by decide +kernel
set_option maxRecDepth 100000 in
theorem xck_48_2 : xchR 48 69 2 = true := by decide +kernel
set_option maxRecDepth 100000 in
theorem xck_48 : xckP 48 := by
  intro pc
  rcases Nat.lt_or_ge pc 31 with h0 | h0
  · exact xchR_use xck_48_0 (by omega) (by omega)
  rcases Nat.lt_or_ge pc 69 with h1 | h1
  · exact xchR_use xck_48_1 (by omega) (by omega)
  rcases Nat.lt_or_ge pc 71 with h2 | h2
  · exact xchR_use xck_48_2 (by omega) (by omega)
  exact xchR_out (by rw [show (xkall.getD 48 []).length = 71 by decide +kernel]; omega)
set_option maxRecDepth 100000 in
theorem xck_49_0 : xchR 49 0 60 = true := by decide +kernel
set_option maxRecDepth 100000 in
theorem xck_49 : xckP 49 := by
  intro pc
  rcases Nat.lt_or_ge pc 60 with h0 | h0
  · exact xchR_use xck_49_0 (by omega) (by omega)
  exact xchR_out (by rw [show (xkall.getD 49 []).length = 60 by decide +kernel]; omega)
set_option maxRecDepth 100000 in
theorem xck_50_0 : xchR 50 0 20 = true := by decide +kernel
set_option maxRecDepth 100000 in
theorem xck_50 : xckP 50 := by
  intro pc
  rcases Nat.lt_or_ge pc 20 with h0 | h0
  · exact xchR_use xck_50_0 (by omega) (by omega)
  exact xchR_out (by rw [show (xkall.getD 50 []).length = 20 by decide +kernel]; omega)
