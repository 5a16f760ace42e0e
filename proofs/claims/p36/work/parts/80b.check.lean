set_option maxRecDepth 100000 in
theorem xck_51_0 : xchR 51 0 38 = true := by decide +kernel
set_option maxRecDepth 100000 in
theorem xck_51_1 : xchR 51 38 1 = true := by decide +kernel
set_option maxRecDepth 100000 in
theorem xck_51 : xckP 51 := by
  intro pc
  rcases Nat.lt_or_ge pc 38 with h0 | h0
  · exact xchR_use xck_51_0 (by omega) (by omega)
  rcases Nat.lt_or_ge pc 39 with h1 | h1
  · exact xchR_use xck_51_1 (by omega) (by omega)
  exact xchR_out (by rw [show (xkall.getD 51 []).length = 39 by decide +kernel]; omega)
set_option maxRecDepth 100000 in
theorem xck_52_0 : xchR 52 0 25 = true := by decide +kernel
set_option maxRecDepth 100000 in
theorem xck_52 : xckP 52 := by
  intro pc
  rcases Nat.lt_or_ge pc 25 with h0 | h0
  · exact xchR_use xck_52_0 (by omega) (by omega)
  exact xchR_out (by rw [show (xkall.getD 52 []).length = 25 by decide +kernel]; omega)
set_option maxRecDepth 100000 in
theorem xck_53_0 : xchR 53 0 36 = true := by decide +kernel
set_option maxRecDepth 100000 in
theorem xck_53_1 : xchR 53 36 40 = true := by decide +kernel
set_option maxRecDepth 100000 in
theorem xck_53_2 : xchR 53 76 36 = true := by decide +kernel
set_option maxRecDepth 100000 in
theorem xck_53_3 : xchR 53 112 29 = true := by decide +kernel
set_option maxRecDepth 100000 in
theorem xck_53 : xckP 53 := by
  intro pc
  rcases Nat.lt_or_ge pc 36 with h0 | h0
  · exact xchR_use xck_53_0 (by omega) (by omega)
  rcases Nat.lt_or_ge pc 76 with h1 | h1
  · exact xchR_use xck_53_1 (by omega) (by omega)
  rcases Nat.lt_or_ge pc 112 with h2 | h2
  · exact xchR_use xck_53_2 (by omega) (by omega)
  rcases Nat.lt_or_ge pc 141 with h3 | h3
  · exact xchR_use xck_53_3 (by omega) (by omega)
  exact xchR_out (by rw [show (xkall.getD 53 []).length = 141 by decide +kernel]; omega)
set_option maxRecDepth 100000 in
theorem xck_54_0 : xchR 54 0 36 = true := by decide +kernel
set_option maxRecDepth 100000 in
theorem xck_54_1 : xchR 54 36 29 = true := by decide +kernel
set_option maxRecDepth 100000 in
theorem xck_54 : xckP 54 := by
  intro pc
  rcases Nat.lt_or_ge pc 36 with h0 | h0
  · exact xchR_use xck_54_0 (by omega) (by omega)
  rcases Nat.lt_or_ge pc 65 with h1 | h1
  · exact xchR_use xck_54_1 (by omega) (by omega)
  exact xchR_out (by rw [show (xkall.getD 54 []).length = 65 by decide +kernel]; omega)
set_option maxRecDepth 100000 in
theorem xck_55_0 : xchR 55 0 39 = true := by decide +kernel
set_option maxRecDepth 100000 in
theorem xck_55_1 : xchR 55 39 1 = true := by decide +kernel
set_option maxRecDepth 100000 in
theorem xck_55 : xckP 55 := by
  intro pc
  rcases Nat.lt_or_ge pc 39 with h0 | h0
  · exact xchR_use xck_55_0 (by omega) (by omega)
  rcases Nat.lt_or_ge pc 40 with h1 | h1
  · exact xchR_use xck_55_1 (by omega) (by omega)
  exact xchR_out (by rw [show (xkall.getD 55 []).length = 40 by decide +kernel]; omega)
set_option maxRecDepth 100000 in
theorem xck_56_0 : xchR 56 0 35 = true := by decide +kernel
set_option maxRecDepth 100000 in
theorem xck_56_1 : xchR 56 35 12 = true := by decide +kernel
set_option maxRecDepth 100000 in
theorem xck_56 : xckP 56 := by
  intro pc
  rcases Nat.lt_or_ge pc 35 with h0 | h0
  · exact xchR_use xck_56_0 (by omega) (by omega)
  rcases Nat.lt_or_ge pc 47 with h1 | h1
  · exact xchR_use xck_56_1 (by omega) (by omega)
  exact xchR_out (by rw [show (xkall.getD 56 []).length = 47 by decide +kernel]; omega)
set_option maxRecDepth 100000 in
theorem xck_57_0 : xchR 57 0 37 = true := by decide +kernel
set_option maxRecDepth 100000 in
theorem xck_57_1 : xchR 57 37 18 = true := by decide +kernel
set_option maxRecDepth 100000 in
theorem xck_57 : xckP 57 := by
  intro pc
  rcases Nat.lt_or_ge pc 37 with h0 | h0
  · exact xchR_use xck_57_0 (by omega) (by omega)
  rcases Nat.lt_or_ge pc 55 with h1 | h1
  · exact xchR_use xck_57_1 (by omega) (by omega)
  exact xchR_out (by rw [show (xkall.getD 57 []).length = 55 by decide +kernel]; omega)
set_option maxRecDepth 100000 in
theorem xck_58_0 : xchR 58 0 36 = true := by decide +kernel
set_option maxRecDepth 100000 in
theorem xck_58_1 : xchR 58 36 5 = true := by decide +kernel
set_option maxRecDepth 100000 in
theorem xck_58 : xckP 58 := by
  intro pc
  rcases Nat.lt_or_ge pc 36 with h0 | h0
  · exact xchR_use xck_58_0 (by omega) (by omega)
  rcases Nat.lt_or_ge pc 41 with h1 | h1
  · exact xchR_use xck_58_1 (by omega) (by omega)
  exact xchR_out (by rw [show (xkall.getD 58 []).length = 41 by decide +kernel]; omega)
set_option maxRecDepth 100000 in
theorem xck_59_0 : xchR 59 0 33 = true := by decide +kernel
set_option maxRecDepth 100000 in
theorem xck_59_1 : xchR 59 33 38 = true := by decide +kernel
set_option maxRecDepth 100000 in
theorem xck_59_2 : xchR 59 71 35 = true := by decide +kernel
set_option maxRecDepth 100000 in
theorem xck_59 : xckP 59 := by
  intro pc
  rcases Nat.lt_or_ge pc 33 with h0 | h0
  · exact xchR_use xck_59_0 (by omega) (by omega)
  rcases Nat.lt_or_ge pc 71 with h1 | h1
  · exact xchR_use xck_59_1 (by omega) (by omega)
  rcases Nat.lt_or_ge pc 106 with h2 | h2
  · exact xchR_use xck_59_2 (by omega) (by omega)
  exact xchR_out (by rw [show (xkall.getD 59 []).length = 106 by decide +kernel]; omega)
set_option maxRecDepth 100000 in
theorem xck_60_0 : xchR 60 0 20 = true := by decide +kernel
set_option maxRecDepth 100000 in
theorem xck_60 : xckP 60 := by
  intro pc
  rcases Nat.lt_or_ge pc 20 with h0 | h0
  · exact xchR_use xck_60_0 (by omega) (by omega)
  exact xchR_out (by rw [show (xkall.getD 60 []).length = 20 by decide +kernel]; omega)
set_option maxRecDepth 100000 in
theorem xck_61_0 : xchR 61 0 32 = true := by decide +kernel
set_option maxRecDepth 100000 in
theorem xck_61_1 : xchR 61 32 34 = true := by decide +kernel
set_option maxRecDepth 100000 in
theorem xck_61_2 : xchR 61 66 1 = true := by decide +kernel
set_option maxRecDepth 100000 in
theorem xck_61 : xckP 61 := by
  intro pc
  rcases Nat.lt_or_ge pc 32 with h0 | h0
  · exact xchR_use xck_61_0 (by omega) (by omega)
  rcases Nat.lt_or_ge pc 66 with h1 | h1
  · exact xchR_use xck_61_1 (by omega) (by omega)
  rcases Nat.lt_or_ge pc 67 with h2 | h2
  · exact xchR_use xck_61_2 (by omega) (by omega)
  exact xchR_out (by rw [show (xkall.getD 61 []).length = 67 by decide +kernel]; omega)
set_option maxRecDepth 100000 in
theorem xck_62_0 : xchR 62 0 34 = true := by decide +kernel
set_option maxRecDepth 100000 in
theorem xck_62_1 : xchR 62 34 15 = true := by decide +kernel
set_option maxRecDepth 100000 in
theorem xck_62 : xckP 62 := by
  intro pc
  rcases Nat.lt_or_ge pc 34 with h0 | h0
  · exact xchR_use xck_62_0 (by omega) (by omega)
  rcases Nat.lt_or_ge pc 49 with h1 | h1
  · exact xchR_use xck_62_1 (by omega) (by omega)
  exact xchR_out (by rw [show (xkall.getD 62 []).length = 49 by decide +kernel]; omega)
set_option maxRecDepth 100000 in
theorem xck_63_0 : xchR 63 0 35 = true := by decide +kernel
set_option maxRecDepth 100000 in
theorem xck_63_1 : xchR 63 35 29 = true := by decide +kernel
set_option maxRecDepth 100000 in
theorem xck_63 : xckP 63 := by
  intro pc
  rcases Nat.lt_or_ge pc 35 with h0 | h0
  · exact xchR_use xck_63_0 (by omega) (by omega)
  rcases Nat.lt_or_ge pc 64 with h1 | h1
  · exact xchR_use xck_63_1 (by omega) (by omega)
  exact xchR_out (by rw [show (xkall.getD 63 []).length = 64 by decide +kernel]; omega)
set_option maxRecDepth 100000 in
theorem xck_64_0 : xchR 64 0 37 = true := by decide +kernel
set_option maxRecDepth 100000 in
theorem xck_64_1 : xchR 64 37 5 = true := by decide +kernel
set_option maxRecDepth 100000 in
theorem xck_64 : xckP 64 := by
  intro pc
  rcases Nat.lt_or_ge pc 37 with h0 | h0
  · exact xchR_use xck_64_0 (by omega) (by omega)
  rcases Nat.lt_or_ge pc 42 with h1 | h1
  · exact xchR_use xck_64_1 (by omega) (by omega)
  exact xchR_out (by rw [show (xkall.getD 64 []).length = 42 by decide +kernel]; omega)
set_option maxRecDepth 100000 in
theorem xck_65_0 : xchR 65 0 36 = true := by decide +kernel
set_option maxRecDepth 100000 in
theorem xck_65_1 : xchR 65 36 5 = true := by decide +kernel
set_option maxRecDepth 100000 in
theorem xck_65 : xckP 65 := by
  intro pc
  rcases Nat.lt_or_ge pc 36 with h0 | h0
  · exact xchR_use xck_65_0 (by omega) (by omega)
  rcases Nat.lt_or_ge pc 41 with h1 | h1
  · exact xchR_use xck_65_1 (by omega) (by omega)
  exact xchR_out (by rw [show (xkall.getD 65 []).length = 41 by decide +kernel]; omega)
set_option maxRecDepth 100000 in
theorem xck_66_0 : xchR 66 0 29 = true := by decide +kernel
set_option maxRecDepth 100000 in
theorem xck_66 : xckP 66 := by
  intro pc
  rcases Nat.lt_or_ge pc 29 with h0 | h0
  · exact xchR_use xck_66_0 (by omega) (by omega)
  exact xchR_out (by rw [show (xkall.getD 66 []).length = 29 by decide +kernel]; omega)
set_option maxRecDepth 100000 in
theorem xck_67_0 : xchR 67 0 34 = true := by decide +kernel
set_option maxRecDepth 100000 in
theorem xck_67_1 : xchR 67 34 5 = true := by decide +kernel
set_option maxRecDepth 100000 in
theorem xck_67 : xckP 67 := by
  intro pc
  rcases Nat.lt_or_ge pc 34 with h0 | h0
  · exact xchR_use xck_67_0 (by omega) (by omega)
  rcases Nat.lt_or_ge pc 39 with h1 | h1
  · exact xchR_use xck_67_1 (by omega) (by omega)
  exact xchR_out (by rw [show (xkall.getD 67 []).length = 39 by decide +kernel]; omega)
set_option maxRecDepth 100000 in
theorem xck_68_0 : xchR 68 0 5 = true := by decide +kernel
set_option maxRecDepth 100000 in
theorem xck_68 : xckP 68 := by
  intro pc
  rcases Nat.lt_or_ge pc 5 with h0 | h0
  · exact xchR_use xck_68_0 (by omega) (by omega)
  exact xchR_out (by rw [show (xkall.getD 68 []).length = 5 by decide +kernel]; omega)
set_option maxRecDepth 100000 in
theorem xck_69_0 : xchR 69 0 16 = true := by decide +kernel
set_option maxRecDepth 100000 in
theorem xck_69 : xckP 69 := by
  intro pc
  rcases Nat.lt_or_ge pc 16 with h0 | h0
  · exact xchR_use xck_69_0 (by omega) (by omega)
  exact xchR_out (by rw [show (xkall.getD 69 []).length = 16 by decide +kernel]; omega)
set_option maxRecDepth 100000 in
theorem xck_70_0 : xchR 70 0 19 = true := by decide +kernel
set_option maxRecDepth 100000 in
theorem xck_70 : xckP 70 := by
  intro pc
  rcases Nat.lt_or_ge pc 19 with h0 | h0
  · exact xchR_use xck_70_0 (by omega) (by omega)
  exact xchR_out (by rw [show (xkall.getD 70 []).length = 19 by decide +kernel]; omega)
set_option maxRecDepth 100000 in
theorem xck_71_0 : xchR 71 0 35 = true := by decide +kernel
set_option maxRecDepth 100000 in
theorem xck_71 : xckP 71 := by
  intro pc
  rcases Nat.lt_or_ge pc 35 with h0 | h0
  · exact xchR_use xck_71_0 (by omega) (by omega)
  exact xchR_out (by rw [show (xkall.getD 71 []).length = 35 by decide +kernel]; omega)
set_option maxRecDepth 100000 in
theorem xck_72_0 : xchR 72 0 5 = true := by decide +kernel
set_option maxRecDepth 100000 in
theorem xck_72 : xckP 72 := by
  intro pc
  rcases Nat.lt_or_ge pc 5 with h0 | h0
  · exact xchR_use xck_72_0 (by omega) (by omega)
  exact xchR_out (by rw [show (xkall.getD 72 []).length = 5 by decide +kernel]; omega)
set_option maxRecDepth 100000 in
theorem xck_73_0 : xchR 73 0 42 = true := by decide +kernel
set_option maxRecDepth 100000 in
theorem xck_73_1 : xchR 73 42 44 = true := by decide +kernel
set_option maxRecDepth 100000 in
theorem xck_73_2 : xchR 73 86 7 = true := by decide +kernel
set_option maxRecDepth 100000 in
theorem xck_73 : xckP 73 := by
  intro pc
  rcases Nat.lt_or_ge pc 42 with h0 | h0
  · exact xchR_use xck_73_0 (by omega) (by omega)
  rcases Nat.lt_or_ge pc 86 with h1 | h1
  · exact xchR_use xck_73_1 (by omega) (by omega)
  rcases Nat.lt_or_ge pc 93 with h2 | h2
  · exact xchR_use xck_73_2 (by omega) (by omega)
  exact xchR_out (by rw [show (xkall.getD 73 []).length = 93 by decide +kernel]; omega)
set_option maxRecDepth 100000 in
theorem xck_74_0 : xchR 74 0 23 = true := by decide +kernel
set_option maxRecDepth 100000 in
theorem xck_74 : xckP 74 := by
  intro pc
  rcases Nat.lt_or_ge pc 23 with h0 | h0
  · exact xchR_use xck_74_0 (by omega) (by omega)
  exact xchR_out (by rw [show (xkall.getD 74 []).length = 23 by decide +kernel]; omega)
set_option maxRecDepth 100000 in
theorem xck_75_0 : xchR 75 0 23 = true := by decide +kernel
set_option maxRecDepth 100000 in
theorem xck_75 : xckP 75 := by
  intro pc
  rcases Nat.lt_or_ge pc 23 with h0 | h0
  · exact xchR_use xck_75_0 (by omega) (by omega)
  exact xchR_out (by rw [show (xkall.getD 75 []).length = 23 by decide +kernel]; omega)
set_option maxRecDepth 100000 in
theorem xck_76_0 : xchR 76 0 23 = true := by decide +kernel
set_option maxRecDepth 100000 in
theorem xck_76 : xckP 76 := by
  intro pc
  rcases Nat.lt_or_ge pc 23 with h0 | h0
  · exact xchR_use xck_76_0 (by omega) (by omega)
  exact xchR_out (by rw [show (xkall.getD 76 []).length = 23 by decide +kernel]; omega)
set_option maxRecDepth 100000 in
theorem xck_77_0 : xchR 77 0 25 = true := by decide +kernel
set_option maxRecDepth 100000 in
theorem xck_77 : xckP 77 := by
  intro pc
  rcases Nat.lt_or_ge pc 25 with h0 | h0
  · exact xchR_use xck_77_0 (by omega) (by omega)
  exact xchR_out (by rw [show (xkall.getD 77 []).length = 25 by decide +kernel]; omega)
set_option maxRecDepth 100000 in
theorem xck_78_0 : xchR 78 0 24 = true := by decide +kernel
set_option maxRecDepth 100000 in
theorem xck_78 : xckP 78 := by
  intro pc
  rcases Nat.lt_or_ge pc 24 with h0 | h0
  · exact xchR_use xck_78_0 (by omega) (by omega)
  exact xchR_out (by rw [show (xkall.getD 78 []).length = 24 by decide +kernel]; omega)
set_option maxRecDepth 100000 in
theorem xck_79_0 : xchR 79 0 23 = true := by decide +kernel
set_option maxRecDepth 100000 in
theorem xck_79 : xckP 79 := by
  intro pc
  rcases Nat.lt_or_ge pc 23 with h0 | h0
  · exact xchR_use xck_79_0 (by omega) (by omega)
  exact xchR_out (by rw [show (xkall.getD 79 []).length = 23 by decide +kernel]; omega)
set_option maxRecDepth 100000 in
theorem xck_80_0 : xchR 80 0 23 = true := by decide +kernel
set_option maxRecDepth 100000 in
theorem xck_80 : xckP 80 := by
  intro pc
  rcases Nat.lt_or_ge pc 23 with h0 | h0
  · exact xchR_use xck_80_0 (by omega) (by omega)
  exact xchR_out (by rw [show (xkall.getD 80 []).length = 23 by decide +kernel]; omega)
set_option maxRecDepth 100000 in
theorem xck_81_0 : xchR 81 0 24 = true := by decide +kernel
set_option maxRecDepth 100000 in
theorem xck_81 : xckP 81 := by
  intro pc
  rcases Nat.lt_or_ge pc 24 with h0 | h0
  · exact xchR_use xck_81_0 (by omega) (by omega)
  exact xchR_out (by rw [show (xkall.getD 81 []).length = 24 by decide +kernel]; omega)
set_option maxRecDepth 100000 in
theorem xck_82_0 : xchR 82 0 23 = true := by decide +kernel
set_option maxRecDepth 100000 in
theorem xck_82 : xckP 82 := by
  intro pc
  rcases Nat.lt_or_ge pc 23 with h0 | h0
  · exact xchR_use xck_82_0 (by omega) (by omega)
  exact xchR_out (by rw [show (xkall.getD 82 []).length = 23 by decide +kernel]; omega)
set_option maxRecDepth 100000 in
theorem xck_83_0 : xchR 83 0 25 = true := by decide +kernel
set_option maxRecDepth 100000 in
theorem xck_83 : xckP 83 := by
  intro pc
  rcases Nat.lt_or_ge pc 25 with h0 | h0
  · exact xchR_use xck_83_0 (by omega) (by omega)
  exact xchR_out (by rw [show (xkall.getD 83 []).length = 25 by decide +kernel]; omega)
set_option maxRecDepth 100000 in
theorem xck_84_0 : xchR 84 0 73 = true := by decide +kernel
set_option maxRecDepth 100000 in
theorem xck_84_1 : xchR 84 73 36 = true := by decide +kernel
set_option maxRecDepth 100000 in
theorem xck_84 : xckP 84 := by
  intro pc
  rcases Nat.lt_or_ge pc 73 with h0 | h0
  · exact xchR_use xck_84_0 (by omega) (by omega)
  rcases Nat.lt_or_ge pc 109 with h1 | h1
  · exact xchR_use xck_84_1 (by omega) (by omega)
  exact xchR_out (by rw [show (xkall.getD 84 []).length = 109 by decide +kernel]; omega)
set_option maxRecDepth 100000 in
theorem xck_85_0 : xchR 85 0 42 = true := by decide +kernel
set_option maxRecDepth 100000 in
theorem xck_85_1 : xchR 85 42 9 = true := by decide +kernel
set_option maxRecDepth 100000 in
theorem xck_85 : xckP 85 := by
  intro pc
  rcases Nat.lt_or_ge pc 42 with h0 | h0
  · exact xchR_use xck_85_0 (by omega) (by omega)
  rcases Nat.lt_or_ge pc 51 with h1 | h1
  · exact xchR_use xck_85_1 (by omega) (by omega)
  exact xchR_out (by rw [show (xkall.getD 85 []).length = 51 by decide +kernel]; omega)
