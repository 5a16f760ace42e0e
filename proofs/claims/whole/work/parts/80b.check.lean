set_option maxRecDepth 100000 in
theorem xck_61_0 : xchR 61 0 22 = true := by decide +kernel
set_option maxRecDepth 100000 in
theorem xck_61 : xckP 61 := by
  intro pc
  rcases Nat.lt_or_ge pc 22 with h0 | h0
  · exact xchR_use xck_61_0 (by omega) (by omega)
  exact xchR_out (by rw [show (xkall.getD 61 []).length = 22 by decide +kernel]; omega)
set_option maxRecDepth 100000 in
theorem xck_62_0 : xchR 62 0 37 = true := by decide +kernel
set_option maxRecDepth 100000 in
theorem xck_62_1 : xchR 62 37 5 = true := by decide +kernel
set_option maxRecDepth 100000 in
theorem xck_62 : xckP 62 := by
  intro pc
  rcases Nat.lt_or_ge pc 37 with h0 | h0
  · exact xchR_use xck_62_0 (by omega) (by omega)
  rcases Nat.lt_or_ge pc 42 with h1 | h1
  · exact xchR_use xck_62_1 (by omega) (by omega)
  exact xchR_out (by rw [show (xkall.getD 62 []).length = 42 by decide +kernel]; omega)
set_option maxRecDepth 100000 in
theorem xck_63_0 : xchR 63 0 22 = true := by decide +kernel
set_option maxRecDepth 100000 in
theorem xck_63 : xckP 63 := by
  intro pc
  rcases Nat.lt_or_ge pc 22 with h0 | h0
  · exact xchR_use xck_63_0 (by omega) (by omega)
  exact xchR_out (by rw [show (xkall.getD 63 []).length = 22 by decide +kernel]; omega)
set_option maxRecDepth 100000 in
theorem xck_64_0 : xchR 64 0 22 = true := by decide +kernel
set_option maxRecDepth 100000 in
theorem xck_64 : xckP 64 := by
  intro pc
  rcases Nat.lt_or_ge pc 22 with h0 | h0
  · exact xchR_use xck_64_0 (by omega) (by omega)
  exact xchR_out (by rw [show (xkall.getD 64 []).length = 22 by decide +kernel]; omega)
set_option maxRecDepth 100000 in
theorem xck_65_0 : xchR 65 0 14 = true := by decide +kernel
set_option maxRecDepth 100000 in
theorem xck_65 : xckP 65 := by
  intro pc
  rcases Nat.lt_or_ge pc 14 with h0 | h0
  · exact xchR_use xck_65_0 (by omega) (by omega)
  exact xchR_out (by rw [show (xkall.getD 65 []).length = 14 by decide +kernel]; omega)
set_option maxRecDepth 100000 in
theorem xck_66_0 : xchR 66 0 23 = true := by decide +kernel
set_option maxRecDepth 100000 in
theorem xck_66 : xckP 66 := by
  intro pc
  rcases Nat.lt_or_ge pc 23 with h0 | h0
  · exact xchR_use xck_66_0 (by omega) (by omega)
  exact xchR_out (by rw [show (xkall.getD 66 []).length = 23 by decide +kernel]; omega)
set_option maxRecDepth 100000 in
theorem xck_67_0 : xchR 67 0 34 = true := by decide +kernel
set_option maxRecDepth 100000 in
theorem xck_67_1 : xchR 67 34 12 = true := by decide +kernel
set_option maxRecDepth 100000 in
theorem xck_67 : xckP 67 := by
  intro pc
  rcases Nat.lt_or_ge pc 34 with h0 | h0
  · exact xchR_use xck_67_0 (by omega) (by omega)
  rcases Nat.lt_or_ge pc 46 with h1 | h1
  · exact xchR_use xck_67_1 (by omega) (by omega)
  exact xchR_out (by rw [show (xkall.getD 67 []).length = 46 by decide +kernel]; omega)
set_option maxRecDepth 100000 in
theorem xck_68_0 : xchR 68 0 31 = true := by decide +kernel
set_option maxRecDepth 100000 in
theorem xck_68_1 : xchR 68 31 38 = true := by decide +kernel
set_option maxRecDepth 100000 in
theorem xck_68_2 : xchR 68 69 2 = true := by decide +kernel
set_option maxRecDepth 100000 in
theorem xck_68 : xckP 68 := by
  intro pc
  rcases Nat.lt_or_ge pc 31 with h0 | h0
  · exact xchR_use xck_68_0 (by omega) (by omega)
  rcases Nat.lt_or_ge pc 69 with h1 | h1
  · exact xchR_use xck_68_1 (by omega) (by omega)
  rcases Nat.lt_or_ge pc 71 with h2 | h2
  · exact xchR_use xck_68_2 (by omega) (by omega)
  exact xchR_out (by rw [show (xkall.getD 68 []).length = 71 by decide +kernel]; omega)
set_option maxRecDepth 100000 in
theorem xck_69_0 : xchR 69 0 60 = true := by decide +kernel
set_option maxRecDepth 100000 in
theorem xck_69 : xckP 69 := by
  intro pc
  rcases Nat.lt_or_ge pc 60 with h0 | h0
  · exact xchR_use xck_69_0 (by omega) (by omega)
  exact xchR_out (by rw [show (xkall.getD 69 []).length = 60 by decide +kernel]; omega)
set_option maxRecDepth 100000 in
theorem xck_70_0 : xchR 70 0 20 = true := by decide +kernel
set_option maxRecDepth 100000 in
theorem xck_70 : xckP 70 := by
  intro pc
  rcases Nat.lt_or_ge pc 20 with h0 | h0
  · exact xchR_use xck_70_0 (by omega) (by omega)
  exact xchR_out (by rw [show (xkall.getD 70 []).length = 20 by decide +kernel]; omega)
set_option maxRecDepth 100000 in
theorem xck_71_0 : xchR 71 0 38 = true := by decide +kernel
set_option maxRecDepth 100000 in
theorem xck_71_1 : xchR 71 38 1 = true := by decide +kernel
set_option maxRecDepth 100000 in
theorem xck_71 : xckP 71 := by
  intro pc
  rcases Nat.lt_or_ge pc 38 with h0 | h0
  · exact xchR_use xck_71_0 (by omega) (by omega)
  rcases Nat.lt_or_ge pc 39 with h1 | h1
  · exact xchR_use xck_71_1 (by omega) (by omega)
  exact xchR_out (by rw [show (xkall.getD 71 []).length = 39 by decide +kernel]; omega)
set_option maxRecDepth 100000 in
theorem xck_72_0 : xchR 72 0 25 = true := by decide +kernel
set_option maxRecDepth 100000 in
theorem xck_72 : xckP 72 := by
  intro pc
  rcases Nat.lt_or_ge pc 25 with h0 | h0
  · exact xchR_use xck_72_0 (by omega) (by omega)
  exact xchR_out (by rw [show (xkall.getD 72 []).length = 25 by decide +kernel]; omega)
set_option maxRecDepth 100000 in
theorem xck_73_0 : xchR 73 0 36 = true := by decide +kernel
set_option maxRecDepth 100000 in
theorem xck_73_1 : xchR 73 36 40 = true := by decide +kernel
set_option maxRecDepth 100000 in
theorem xck_73_2 : xchR 73 76 36 = true := by decide +kernel
set_option maxRecDepth 100000 in
theorem xck_73_3 : xchR 73 112 29 = true := by decide +kernel
set_option maxRecDepth 100000 in
theorem xck_73 : xckP 73 := by
  intro pc
  rcases Nat.lt_or_ge pc 36 with h0 | h0
  · exact xchR_use xck_73_0 (by omega) (by omega)
  rcases Nat.lt_or_ge pc 76 with h1 | h1
  · exact xchR_use xck_73_1 (by omega) (by omega)
  rcases Nat.lt_or_ge pc 112 with h2 | h2
  · exact xchR_use xck_73_2 (by omega) (by omega)
  rcases Nat.lt_or_ge pc 141 with h3 | h3
  · exact xchR_use xck_73_3 (by omega) (by omega)
  exact xchR_out (by rw [show (xkall.getD 73 []).length = 141 by decide +kernel]; omega)
set_option maxRecDepth 100000 in
theorem xck_74_0 : xchR 74 0 36 = true := by decide +kernel
set_option maxRecDepth 100000 in
theorem xck_74_1 : xchR 74 36 29 = true := by decide +kernel
set_option maxRecDepth 100000 in
theorem xck_74 : xckP 74 := by
  intro pc
  rcases Nat.lt_or_ge pc 36 with h0 | h0
  · exact xchR_use xck_74_0 (by omega) (by omega)
  rcases Nat.lt_or_ge pc 65 with h1 | h1
  · exact xchR_use xck_74_1 (by omega) (by omega)
  exact xchR_out (by rw [show (xkall.getD 74 []).length = 65 by decide +kernel]; omega)
set_option maxRecDepth 100000 in
theorem xck_75_0 : xchR 75 0 39 = true := by decide +kernel
set_option maxRecDepth 100000 in
theorem xck_75_1 : xchR 75 39 1 = true := by decide +kernel
set_option maxRecDepth 100000 in
theorem xck_75 : xckP 75 := by
  intro pc
  rcases Nat.lt_or_ge pc 39 with h0 | h0
  · exact xchR_use xck_75_0 (by omega) (by omega)
  rcases Nat.lt_or_ge pc 40 with h1 | h1
  · exact xchR_use xck_75_1 (by omega) (by omega)
  exact xchR_out (by rw [show (xkall.getD 75 []).length = 40 by decide +kernel]; omega)
set_option maxRecDepth 100000 in
theorem xck_76_0 : xchR 76 0 35 = true := by decide +kernel
set_option maxRecDepth 100000 in
theorem xck_76_1 : xchR 76 35 12 = true := by decide +kernel
set_option maxRecDepth 100000 in
theorem xck_76 : xckP 76 := by
  intro pc
  rcases Nat.lt_or_ge pc 35 with h0 | h0
  · exact xchR_use xck_76_0 (by omega) (by omega)
  rcases Nat.lt_or_ge pc 47 with h1 | h1
  · exact xchR_use xck_76_1 (by omega) (by omega)
  exact xchR_out (by rw [show (xkall.getD 76 []).length = 47 by decide +kernel]; omega)
set_option maxRecDepth 100000 in
theorem xck_77_0 : xchR 77 0 37 = true := by decide +kernel
set_option maxRecDepth 100000 in
theorem xck_77_1 : xchR 77 37 18 = true := by decide +kernel
set_option maxRecDepth 100000 in
theorem xck_77 : xckP 77 := by
  intro pc
  rcases Nat.lt_or_ge pc 37 with h0 | h0
  · exact xchR_use xck_77_0 (by omega) (by omega)
  rcases Nat.lt_or_ge pc 55 with h1 | h1
  · exact xchR_use xck_77_1 (by omega) (by omega)
  exact xchR_out (by rw [show (xkall.getD 77 []).length = 55 by decide +kernel]; omega)
set_option maxRecDepth 100000 in
theorem xck_78_0 : xchR 78 0 36 = true := by decide +kernel
set_option maxRecDepth 100000 in
theorem xck_78_1 : xchR 78 36 5 = true := by decide +kernel
set_option maxRecDepth 100000 in
theorem xck_78 : xckP 78 := by
  intro pc
  rcases Nat.lt_or_ge pc 36 with h0 | h0
  · exact xchR_use xck_78_0 (by omega) (by omega)
  rcases Nat.lt_or_ge pc 41 with h1 | h1
  · exact xchR_use xck_78_1 (by omega) (by omega)
  exact xchR_out (by rw [show (xkall.getD 78 []).length = 41 by decide +kernel]; omega)
set_option maxRecDepth 100000 in
theorem xck_79_0 : xchR 79 0 33 = true := by decide +kernel
set_option maxRecDepth 100000 in
theorem xck_79_1 : xchR 79 33 38 = true := by decide +kernel
set_option maxRecDepth 100000 in
theorem xck_79_2 : xchR 79 71 35 = true := by decide +kernel
set_option maxRecDepth 100000 in
theorem xck_79 : xckP 79 := by
  intro pc
  rcases Nat.lt_or_ge pc 33 with h0 | h0
  · exact xchR_use xck_79_0 (by omega) (by omega)
  rcases Nat.lt_or_ge pc 71 with h1 | h1
  · exact xchR_use xck_79_1 (by omega) (by omega)
  rcases Nat.lt_or_ge pc 106 with h2 | h2
  · exact xchR_use xck_79_2 (by omega) (by omega)
  exact xchR_out (by rw [show (xkall.getD 79 []).length = 106 by decide +kernel]; omega)
set_option maxRecDepth 100000 in
theorem xck_80_0 : xchR 80 0 20 = true := by decide +kernel
set_option maxRecDepth 100000 in
theorem xck_80 : xckP 80 := by
  intro pc
  rcases Nat.lt_or_ge pc 20 with h0 | h0
  · exact xchR_use xck_80_0 (by omega) (by omega)
  exact xchR_out (by rw [show (xkall.getD 80 []).length = 20 by decide +kernel]; omega)
set_option maxRecDepth 100000 in
theorem xck_81_0 : xchR 81 0 32 = true := by decide +kernel
set_option maxRecDepth 100000 in
theorem xck_81_1 : xchR 81 32 34 = true := by decide +kernel
set_option maxRecDepth 100000 in
theorem xck_81_2 : xchR 81 66 1 = true := by decide +kernel
set_option maxRecDepth 100000 in
theorem xck_81 : xckP 81 := by
  intro pc
  rcases Nat.lt_or_ge pc 32 with h0 | h0
  · exact xchR_use xck_81_0 (by omega) (by omega)
  rcases Nat.lt_or_ge pc 66 with h1 | h1
  · exact xchR_use xck_81_1 (by omega) (by omega)
  rcases Nat.lt_or_ge pc 67 with h2 | h2
  · exact xchR_use xck_81_2 (by omega) (by omega)
  exact xchR_out (by rw [show (xkall.getD 81 []).length = 67 by decide +kernel]; omega)
set_option maxRecDepth 100000 in
theorem xck_82_0 : xchR 82 0 34 = true := by decide +kernel
set_option maxRecDepth 100000 in
theorem xck_82_1 : xchR 82 34 15 = true := by decide +kernel
set_option maxRecDepth 100000 in
theorem xck_82 : xckP 82 := by
  intro pc
  rcases Nat.lt_or_ge pc 34 with h0 | h0
  · exact xchR_use xck_82_0 (by omega) (by omega)
  rcases Nat.lt_or_ge pc 49 with h1 | h1
  · exact xchR_use xck_82_1 (by omega) (by omega)
  exact xchR_out (by rw [show (xkall.getD 82 []).length = 49 by decide +kernel]; omega)
set_option maxRecDepth 100000 in
theorem xck_83_0 : xchR 83 0 35 = true := by decide +kernel
set_option maxRecDepth 100000 in
theorem xck_83_1 : xchR 83 35 29 = true := by decide +kernel
set_option maxRecDepth 100000 in
theorem xck_83 : xckP 83 := by
  intro pc
  rcases Nat.lt_or_ge pc 35 with h0 | h0
  · exact xchR_use xck_83_0 (by omega) (by omega)
  rcases Nat.lt_or_ge pc 64 with h1 | h1
  · exact xchR_use xck_83_1 (by omega) (by omega)
  exact xchR_out (by rw [show (xkall.getD 83 []).length = 64 by decide +kernel]; omega)
set_option maxRecDepth 100000 in
theorem xck_84_0 : xchR 84 0 37 = true := by decide +kernel
set_option maxRecDepth 100000 in
theorem xck_84_1 : xchR 84 37 5 = true := by decide +kernel
set_option maxRecDepth 100000 in
theorem xck_84 : xckP 84 := by
  intro pc
  rcases Nat.lt_or_ge pc 37 with h0 | h0
  · exact xchR_use xck_84_0 (by omega) (by omega)
  rcases Nat.lt_or_ge pc 42 with h1 | h1
  · exact xchR_use xck_84_1 (by omega) (by omega)
  exact xchR_out (by rw [show (xkall.getD 84 []).length = 42 by decide +kernel]; omega)
set_option maxRecDepth 100000 in
theorem xck_85_0 : xchR 85 0 36 = true := by decide +kernel
set_option maxRecDepth 100000 in
theorem xck_85_1 : xchR 85 36 5 = true := by decide +kernel
set_option maxRecDepth 100000 in
theorem xck_85 : xckP 85 := by
  intro pc
  rcases Nat.lt_or_ge pc 36 with h0 | h0
  · exact xchR_use xck_85_0 (by omega) (by omega)
  rcases Nat.lt_or_ge pc 41 with h1 | h1
  · exact xchR_use xck_85_1 (by omega) (by omega)
  exact xchR_out (by rw [show (xkall.getD 85 []).length = 41 by decide +kernel]; omega)
set_option maxRecDepth 100000 in
theorem xck_86_0 : xchR 86 0 29 = true := by decide +kernel
set_option maxRecDepth 100000 in
theorem xck_86 : xckP 86 := by
  intro pc
  rcases Nat.lt_or_ge pc 29 with h0 | h0
  · exact xchR_use xck_86_0 (by omega) (by omega)
  exact xchR_out (by rw [show (xkall.getD 86 []).length = 29 by decide +kernel]; omega)
set_option maxRecDepth 100000 in
theorem xck_87_0 : xchR 87 0 34 = true := by decide +kernel
set_option maxRecDepth 100000 in
theorem xck_87_1 : xchR 87 34 5 = true := by decide +kernel
set_option maxRecDepth 100000 in
theorem xck_87 : xckP 87 := by
  intro pc
  rcases Nat.lt_or_ge pc 34 with h0 | h0
  · exact xchR_use xck_87_0 (by omega) (by omega)
  rcases Nat.lt_or_ge pc 39 with h1 | h1
  · exact xchR_use xck_87_1 (by omega) (by omega)
  exact xchR_out (by rw [show (xkall.getD 87 []).length = 39 by decide +kernel]; omega)
set_option maxRecDepth 100000 in
theorem xck_88_0 : xchR 88 0 5 = true := by decide +kernel
set_option maxRecDepth 100000 in
theorem xck_88 : xckP 88 := by
  intro pc
  rcases Nat.lt_or_ge pc 5 with h0 | h0
  · exact xchR_use xck_88_0 (by omega) (by omega)
  exact xchR_out (by rw [show (xkall.getD 88 []).length = 5 by decide +kernel]; omega)
set_option maxRecDepth 100000 in
theorem xck_89_0 : xchR 89 0 16 = true := by decide +kernel
set_option maxRecDepth 100000 in
theorem xck_89 : xckP 89 := by
  intro pc
  rcases Nat.lt_or_ge pc 16 with h0 | h0
  · exact xchR_use xck_89_0 (by omega) (by omega)
  exact xchR_out (by rw [show (xkall.getD 89 []).length = 16 by decide +kernel]; omega)
set_option maxRecDepth 100000 in
theorem xck_90_0 : xchR 90 0 19 = true := by decide +kernel
set_option maxRecDepth 100000 in
theorem xck_90 : xckP 90 := by
  intro pc
  rcases Nat.lt_or_ge pc 19 with h0 | h0
  · exact xchR_use xck_90_0 (by omega) (by omega)
  exact xchR_out (by rw [show (xkall.getD 90 []).length = 19 by decide +kernel]; omega)
set_option maxRecDepth 100000 in
theorem xck_91_0 : xchR 91 0 35 = true := by decide +kernel
set_option maxRecDepth 100000 in
theorem xck_91 : xckP 91 := by
  intro pc
  rcases Nat.lt_or_ge pc 35 with h0 | h0
  · exact xchR_use xck_91_0 (by omega) (by omega)
  exact xchR_out (by rw [show (xkall.getD 91 []).length = 35 by decide +kernel]; omega)
set_option maxRecDepth 100000 in
theorem xck_92_0 : xchR 92 0 5 = true := by decide +kernel
set_option maxRecDepth 100000 in
theorem xck_92 : xckP 92 := by
  intro pc
  rcases Nat.lt_or_ge pc 5 with h0 | h0
  · exact xchR_use xck_92_0 (by omega) (by omega)
  exact xchR_out (by rw [show (xkall.getD 92 []).length = 5 by decide +kernel]; omega)
set_option maxRecDepth 100000 in
theorem xck_93_0 : xchR 93 0 35 = true := by decide +kernel
set_option maxRecDepth 100000 in
theorem xck_93_1 : xchR 93 35 27 = true := by decide +kernel
set_option maxRecDepth 100000 in
theorem xck_93 : xckP 93 := by
  intro pc
  rcases Nat.lt_or_ge pc 35 with h0 | h0
  · exact xchR_use xck_93_0 (by omega) (by omega)
  rcases Nat.lt_or_ge pc 62 with h1 | h1
  · exact xchR_use xck_93_1 (by omega) (by omega)
  exact xchR_out (by rw [show (xkall.getD 93 []).length = 62 by decide +kernel]; omega)
set_option maxRecDepth 100000 in
theorem xck_94_0 : xchR 94 0 26 = true := by decide +kernel
set_option maxRecDepth 100000 in
theorem xck_94 : xckP 94 := by
  intro pc
  rcases Nat.lt_or_ge pc 26 with h0 | h0
  · exact xchR_use xck_94_0 (by omega) (by omega)
  exact xchR_out (by rw [show (xkall.getD 94 []).length = 26 by decide +kernel]; omega)
set_option maxRecDepth 100000 in
theorem xck_95_0 : xchR 95 0 10 = true := by decide +kernel
set_option maxRecDepth 100000 in
theorem xck_95 : xckP 95 := by
  intro pc
  rcases Nat.lt_or_ge pc 10 with h0 | h0
  · exact xchR_use xck_95_0 (by omega) (by omega)
  exact xchR_out (by rw [show (xkall.getD 95 []).length = 10 by decide +kernel]; omega)
set_option maxRecDepth 100000 in
theorem xck_96_0 : xchR 96 0 42 = true := by decide +kernel
set_option maxRecDepth 100000 in
theorem xck_96_1 : xchR 96 42 44 = true := by decide +kernel
set_option maxRecDepth 100000 in
theorem xck_96_2 : xchR 96 86 7 = true := by decide +kernel
set_option maxRecDepth 100000 in
theorem xck_96 : xckP 96 := by
  intro pc
  rcases Nat.lt_or_ge pc 42 with h0 | h0
  · exact xchR_use xck_96_0 (by omega) (by omega)
  rcases Nat.lt_or_ge pc 86 with h1 | h1
  · exact xchR_use xck_96_1 (by omega) (by omega)
  rcases Nat.lt_or_ge pc 93 with h2 | h2
  · exact xchR_use xck_96_2 (by omega) (by omega)
  exact xchR_out (by rw [show (xkall.getD 96 []).length = 93 by decide +kernel]; omega)
set_option maxRecDepth 100000 in
theorem xck_97_0 : xchR 97 0 23 = true := by decide +kernel
set_option maxRecDepth 100000 in
theorem xck_97 : xckP 97 := by
  intro pc
  rcases Nat.lt_or_ge pc 23 with h0 | h0
  · exact xchR_use xck_97_0 (by omega) (by omega)
  exact xchR_out (by rw [show (xkall.getD 97 []).length = 23 by decide +kernel]; omega)
set_option maxRecDepth 100000 in
theorem xck_98_0 : xchR 98 0 23 = true := by decide +kernel
set_option maxRecDepth 100000 in
theorem xck_98 : xckP 98 := by
  intro pc
  rcases Nat.lt_or_ge pc 23 with h0 | h0
  · exact xchR_use xck_98_0 (by omega) (by omega)
  exact xchR_out (by rw [show (xkall.getD 98 []).length = 23 by decide +kernel]; omega)
set_option maxRecDepth 100000 in
theorem xck_99_0 : xchR 99 0 23 = true := by decide +kernel
set_option maxRecDepth 100000 in
theorem xck_99 : xckP 99 := by
  intro pc
  rcases Nat.lt_or_ge pc 23 with h0 | h0
  · exact xchR_use xck_99_0 (by omega) (by omega)
  exact xchR_out (by rw [show (xkall.getD 99 []).length = 23 by decide +kernel]; omega)
set_option maxRecDepth 100000 in
theorem xck_100_0 : xchR 100 0 25 = true := by decide +kernel
set_option maxRecDepth 100000 in
theorem xck_100 : xckP 100 := by
  intro pc
  rcases Nat.lt_or_ge pc 25 with h0 | h0
  · exact xchR_use xck_100_0 (by omega) (by omega)
  exact xchR_out (by rw [show (xkall.getD 100 []).length = 25 by decide +kernel]; omega)
set_option maxRecDepth 100000 in
theorem xck_101_0 : xchR 101 0 24 = true := by decide +kernel
set_option maxRecDepth 100000 in
theorem xck_101 : xckP 101 := by
  intro pc
  rcases Nat.lt_or_ge pc 24 with h0 | h0
  · exact xchR_use xck_101_0 (by omega) (by omega)
  exact xchR_out (by rw [show (xkall.getD 101 []).length = 24 by decide +kernel]; omega)
set_option maxRecDepth 100000 in
theorem xck_102_0 : xchR 102 0 23 = true := by decide +kernel
set_option maxRecDepth 100000 in
theorem xck_102 : xckP 102 := by
  intro pc
  rcases Nat.lt_or_ge pc 23 with h0 | h0
  · exact xchR_use xck_102_0 (by omega) (by omega)
  exact xchR_out (by rw [show (xkall.getD 102 []).length = 23 by decide +kernel]; omega)
set_option maxRecDepth 100000 in
theorem xck_103_0 : xchR 103 0 23 = true := by decide +kernel
set_option maxRecDepth 100000 in
theorem xck_103 : xckP 103 := by
  intro pc
  rcases Nat.lt_or_ge pc 23 with h0 | h0
  · exact xchR_use xck_103_0 (by omega) (by omega)
  exact xchR_out (by rw [show (xkall.getD 103 []).length = 23 by decide +kernel]; omega)
set_option maxRecDepth 100000 in
theorem xck_104_0 : xchR 104 0 24 = true := by decide +kernel
set_option maxRecDepth 100000 in
theorem xck_104 : xckP 104 := by
  intro pc
  rcases Nat.lt_or_ge pc 24 with h0 | h0
  · exact xchR_use xck_104_0 (by omega) (by omega)
  exact xchR_out (by rw [show (xkall.getD 104 []).length = 24 by decide +kernel]; omega)
set_option maxRecDepth 100000 in
theorem xck_105_0 : xchR 105 0 23 = true := by decide +kernel
set_option maxRecDepth 100000 in
theorem xck_105 : xckP 105 := by
  intro pc
  rcases Nat.lt_or_ge pc 23 with h0 | h0
  · exact xchR_use xck_105_0 (by omega) (by omega)
  exact xchR_out (by rw [show (xkall.getD 105 []).length = 23 by decide +kernel]; omega)
set_option maxRecDepth 100000 in
theorem xck_106_0 : xchR 106 0 25 = true := by decide +kernel
set_option maxRecDepth 100000 in
theorem xck_106 : xckP 106 := by
  intro pc
  rcases Nat.lt_or_ge pc 25 with h0 | h0
  · exact xchR_use xck_106_0 (by omega) (by omega)
  exact xchR_out (by rw [show (xkall.getD 106 []).length = 25 by decide +kernel]; omega)
set_option maxRecDepth 100000 in
theorem xck_107_0 : xchR 107 0 9 = true := by decide +kernel
set_option maxRecDepth 100000 in
theorem xck_107 : xckP 107 := by
  intro pc
  rcases Nat.lt_or_ge pc 9 with h0 | h0
  · exact xchR_use xck_107_0 (by omega) (by omega)
  exact xchR_out (by rw [show (xkall.getD 107 []).length = 9 by decide +kernel]; omega)
set_option maxRecDepth 100000 in
theorem xck_108_0 : xchR 108 0 8 = true := by decide +kernel
set_option maxRecDepth 100000 in
theorem xck_108 : xckP 108 := by
  intro pc
  rcases Nat.lt_or_ge pc 8 with h0 | h0
  · exact xchR_use xck_108_0 (by omega) (by omega)
  exact xchR_out (by rw [show (xkall.getD 108 []).length = 8 by decide +kernel]; omega)
set_option maxRecDepth 100000 in
theorem xck_109_0 : xchR 109 0 37 = true := by decide +kernel
set_option maxRecDepth 100000 in
theorem xck_109 : xckP 109 := by
  intro pc
  rcases Nat.lt_or_ge pc 37 with h0 | h0
  · exact xchR_use xck_109_0 (by omega) (by omega)
  exact xchR_out (by rw [show (xkall.getD 109 []).length = 37 by decide +kernel]; omega)
set_option maxRecDepth 100000 in
theorem xck_110_0 : xchR 110 0 44 = true := by decide +kernel
set_option maxRecDepth 100000 in
theorem xck_110_1 : xchR 110 44 40 = true := by decide +kernel
set_option maxRecDepth 100000 in
theorem xck_110_2 : xchR 110 84 40 = true := by decide +kernel
set_option maxRecDepth 100000 in
theorem xck_110_3 : xchR 110 124 1 = true := by decide +kernel
set_option maxRecDepth 100000 in
theorem xck_110 : xckP 110 := by
  intro pc
  rcases Nat.lt_or_ge pc 44 with h0 | h0
  · exact xchR_use xck_110_0 (by omega) (by omega)
  rcases Nat.lt_or_ge pc 84 with h1 | h1
  · exact xchR_use xck_110_1 (by omega) (by omega)
  rcases Nat.lt_or_ge pc 124 with h2 | h2
  · exact xchR_use xck_110_2 (by omega) (by omega)
  rcases Nat.lt_or_ge pc 125 with h3 | h3
  · exact xchR_use xck_110_3 (by omega) (by omega)
  exact xchR_out (by rw [show (xkall.getD 110 []).length = 125 by decide +kernel]; omega)
set_option maxRecDepth 100000 in
theorem xck_111_0 : xchR 111 0 9 = true := by decide +kernel
set_option maxRecDepth 100000 in
theorem xck_111 : xckP 111 := by
  intro pc
  rcases Nat.lt_or_ge pc 9 with h0 | h0
  · exact xchR_use xck_111_0 (by omega) (by omega)
  exact xchR_out (by rw [show (xkall.getD 111 []).length = 9 by decide +kernel]; omega)
set_option maxRecDepth 100000 in
theorem xck_112_0 : xchR 112 0 73 = true := by decide +kernel
set_option maxRecDepth 100000 in
theorem xck_112_1 : xchR 112 73 36 = true := by decide +kernel
set_option maxRecDepth 100000 in
theorem xck_112 : xckP 112 := by
  intro pc
  rcases Nat.lt_or_ge pc 73 with h0 | h0
  · exact xchR_use xck_112_0 (by omega) (by omega)
  rcases Nat.lt_or_ge pc 109 with h1 | h1
  · exact xchR_use xck_112_1 (by omega) (by omega)
  exact xchR_out (by rw [show (xkall.getD 112 []).length = 109 by decide +kernel]; omega)
set_option maxRecDepth 100000 in
theorem xck_113_0 : xchR 113 0 42 = true := by decide +kernel
set_option maxRecDepth 100000 in
theorem xck_113_1 : xchR 113 42 9 = true := by decide +kernel
set_option maxRecDepth 100000 in
theorem xck_113 : xckP 113 := by
  intro pc
  rcases Nat.lt_or_ge pc 42 with h0 | h0
  · exact xchR_use xck_113_0 (by omega) (by omega)
  rcases Nat.lt_or_ge pc 51 with h1 | h1
  · exact xchR_use xck_113_1 (by omega) (by omega)
  exact xchR_out (by rw [show (xkall.getD 113 []).length = 51 by decide +kernel]; omega)
set_option maxRecDepth 100000 in
theorem xck_114_0 : xchR 114 0 40 = true := by decide +kernel
set_option maxRecDepth 100000 in
theorem xck_114_1 : xchR 114 40 8 = true := by decide +kernel
set_option maxRecDepth 100000 in
theorem xck_114 : xckP 114 := by
  intro pc
  rcases Nat.lt_or_ge pc 40 with h0 | h0
  · exact xchR_use xck_114_0 (by omega) (by omega)
  rcases Nat.lt_or_ge pc 48 with h1 | h1
  · exact xchR_use xck_114_1 (by omega) (by omega)
  exact xchR_out (by rw [show (xkall.getD 114 []).length = 48 by decide +kernel]; omega)
set_option maxRecDepth 100000 in
theorem xck_115_0 : xchR 115 0 72 = true := by decide +kernel
set_option maxRecDepth 100000 in
theorem xck_115_1 : xchR 115 72 38 = true := by decide +kernel
set_option maxRecDepth 100000 in
theorem xck_115 : xckP 115 := by
  intro pc
  rcases Nat.lt_or_ge pc 72 with h0 | h0
  · exact xchR_use xck_115_0 (by omega) (by omega)
  rcases Nat.lt_or_ge pc 110 with h1 | h1
  · exact xchR_use xck_115_1 (by omega) (by omega)
  exact xchR_out (by rw [show (xkall.getD 115 []).length = 110 by decide +kernel]; omega)
set_option maxRecDepth 100000 in
theorem xck_116_0 : xchR 116 0 27 = true := by decide +kernel
set_option maxRecDepth 100000 in
theorem xck_116 : xckP 116 := by
  intro pc
  rcases Nat.lt_or_ge pc 27 with h0 | h0
  · exact xchR_use xck_116_0 (by omega) (by omega)
  exact xchR_out (by rw [show (xkall.getD 116 []).length = 27 by decide +kernel]; omega)
set_option maxRecDepth 100000 in
theorem xck_117_0 : xchR 117 0 12 = true := by decide +kernel
set_option maxRecDepth 100000 in
theorem xck_117 : xckP 117 := by
  intro pc
  rcases Nat.lt_or_ge pc 12 with h0 | h0
  · exact xchR_use xck_117_0 (by omega) (by omega)
  exact xchR_out (by rw [show (xkall.getD 117 []).length = 12 by decide +kernel]; omega)
set_option maxRecDepth 100000 in
theorem xck_118_0 : xchR 118 0 44 = true := by decide +kernel
set_option maxRecDepth 100000 in
theorem xck_118_1 : xchR 118 44 1 = true := by decide +kernel
set_option maxRecDepth 100000 in
theorem xck_118 : xckP 118 := by
  intro pc
  rcases Nat.lt_or_ge pc 44 with h0 | h0
  · exact xchR_use xck_118_0 (by omega) (by omega)
  rcases Nat.lt_or_ge pc 45 with h1 | h1
  · exact xchR_use xck_118_1 (by omega) (by omega)
  exact xchR_out (by rw [show (xkall.getD 118 []).length = 45 by decide +kernel]; omega)
set_option maxRecDepth 100000 in
theorem xck_119_0 : xchR 119 0 118 = true := by decide +kernel
set_option maxRecDepth 100000 in
theorem xck_119_1 : xchR 119 118 40 = true := by decide +kernel
set_option maxRecDepth 100000 in
theorem xck_119_2 : xchR 119 158 50 = true := by decide +kernel
set_option maxRecDepth 100000 in
theorem xck_119_3 : xchR 119 208 36 = true := by decide +kernel
set_option maxRecDepth 100000 in
theorem xck_119_4 : xchR 119 244 35 = true := by decide +kernel
set_option maxRecDepth 100000 in
theorem xck_119 : xckP 119 := by
  intro pc
  rcases Nat.lt_or_ge pc 118 with h0 | h0
  · exact xchR_use xck_119_0 (by omega) (by omega)
  rcases Nat.lt_or_ge pc 158 with h1 | h1
  · exact xchR_use xck_119_1 (by omega) (by omega)
  rcases Nat.lt_or_ge pc 208 with h2 | h2
  · exact xchR_use xck_119_2 (by omega) (by omega)
  rcases Nat.lt_or_ge pc 244 with h3 | h3
  · exact xchR_use xck_119_3 (by omega) (by omega)
  rcases Nat.lt_or_ge pc 279 with h4 | h4
  · exact xchR_use xck_119_4 (by omega) (by omega)
  exact xchR_out (by rw [show (xkall.getD 119 []).length = 279 by decide +kernel]; omega)
set_option maxRecDepth 100000 in
theorem xck_120_0 : xchR 120 0 40 = true := by decide +kernel
set_option maxRecDepth 100000 in
theorem xck_120_1 : xchR 120 40 4 = true := by decide +kernel
set_option maxRecDepth 100000 in
theorem xck_120 : xckP 120 := by
  intro pc
  rcases Nat.lt_or_ge pc 40 with h0 | h0
  · exact xchR_use xck_120_0 (by omega) (by omega)
  rcases Nat.lt_or_ge pc 44 with h1 | h1
  · exact xchR_use xck_120_1 (by omega) (by omega)
  exact xchR_out (by rw [show (xkall.getD 120 []).length = 44 by decide +kernel]; omega)
set_option maxRecDepth 100000 in
theorem xck_121_0 : xchR 121 0 34 = true := by decide +kernel
set_option maxRecDepth 100000 in
theorem xck_121 : xckP 121 := by
  intro pc
  rcases Nat.lt_or_ge pc 34 with h0 | h0
  · exact xchR_use xck_121_0 (by omega) (by omega)
  exact xchR_out (by rw [show (xkall.getD 121 []).length = 34 by decide +kernel]; omega)
set_option maxRecDepth 100000 in
theorem xck_122_0 : xchR 122 0 36 = true := by decide +kernel
set_option maxRecDepth 100000 in
theorem xck_122_1 : xchR 122 36 25 = true := by decide +kernel
set_option maxRecDepth 100000 in
theorem xck_122 : xckP 122 := by
  intro pc
  rcases Nat.lt_or_ge pc 36 with h0 | h0
  · exact xchR_use xck_122_0 (by omega) (by omega)
  rcases Nat.lt_or_ge pc 61 with h1 | h1
  · exact xchR_use xck_122_1 (by omega) (by omega)
  exact xchR_out (by rw [show (xkall.getD 122 []).length = 61 by decide +kernel]; omega)
set_option maxRecDepth 100000 in
theorem xck_123_0 : xchR 123 0 35 = true := by decide +kernel
set_option maxRecDepth 100000 in
theorem xck_123_1 : xchR 123 35 21 = true := by decide +kernel
set_option maxRecDepth 100000 in
theorem xck_123 : xckP 123 := by
  intro pc
  rcases Nat.lt_or_ge pc 35 with h0 | h0
  · exact xchR_use xck_123_0 (by omega) (by omega)
  rcases Nat.lt_or_ge pc 56 with h1 | h1
  · exact xchR_use xck_123_1 (by omega) (by omega)
  exact xchR_out (by rw [show (xkall.getD 123 []).length = 56 by decide +kernel]; omega)
set_option maxRecDepth 100000 in
theorem xck_124_0 : xchR 124 0 22 = true := by decide +kernel
set_option maxRecDepth 100000 in
theorem xck_124 : xckP 124 := by
  intro pc
  rcases Nat.lt_or_ge pc 22 with h0 | h0
  · exact xchR_use xck_124_0 (by omega) (by omega)
  exact xchR_out (by rw [show (xkall.getD 124 []).length = 22 by decide +kernel]; omega)
set_option maxRecDepth 100000 in
theorem xck_125_0 : xchR 125 0 36 = true := by decide +kernel
set_option maxRecDepth 100000 in
theorem xck_125_1 : xchR 125 36 21 = true := by decide +kernel
set_option maxRecDepth 100000 in
theorem xck_125 : xckP 125 := by
  intro pc
  rcases Nat.lt_or_ge pc 36 with h0 | h0
  · exact xchR_use xck_125_0 (by omega) (by omega)
  rcases Nat.lt_or_ge pc 57 with h1 | h1
  · exact xchR_use xck_125_1 (by omega) (by omega)
  exact xchR_out (by rw [show (xkall.getD 125 []).length = 57 by decide +kernel]; omega)
set_option maxRecDepth 100000 in
theorem xck_126_0 : xchR 126 0 58 = true := by decide +kernel
set_option maxRecDepth 100000 in
theorem xck_126_1 : xchR 126 58 23 = true := by decide +kernel
set_option maxRecDepth 100000 in
theorem xck_126 : xckP 126 := by
  intro pc
  rcases Nat.lt_or_ge pc 58 with h0 | h0
  · exact xchR_use xck_126_0 (by omega) (by omega)
  rcases Nat.lt_or_ge pc 81 with h1 | h1
  · exact xchR_use xck_126_1 (by omega) (by omega)
  exact xchR_out (by rw [show (xkall.getD 126 []).length = 81 by decide +kernel]; omega)
set_option maxRecDepth 100000 in
theorem xck_127_0 : xchR 127 0 31 = true := by decide +kernel
set_option maxRecDepth 100000 in
theorem xck_127 : xckP 127 := by
  intro pc
  rcases Nat.lt_or_ge pc 31 with h0 | h0
  · exact xchR_use xck_127_0 (by omega) (by omega)
  exact xchR_out (by rw [show (xkall.getD 127 []).length = 31 by decide +kernel]; omega)
set_option maxRecDepth 100000 in
theorem xck_128_0 : xchR 128 0 24 = true := by decide +kernel
set_option maxRecDepth 100000 in
theorem xck_128 : xckP 128 := by
  intro pc
  rcases Nat.lt_or_ge pc 24 with h0 | h0
  · exact xchR_use xck_128_0 (by omega) (by omega)
  exact xchR_out (by rw [show (xkall.getD 128 []).length = 24 by decide +kernel]; omega)
set_option maxRecDepth 100000 in
theorem xck_129_0 : xchR 129 0 43 = true := by decide +kernel
set_option maxRecDepth 100000 in
theorem xck_129_1 : xchR 129 43 1 = true := by decide +kernel
set_option maxRecDepth 100000 in
theorem xck_129 : xckP 129 := by
  intro pc
  rcases Nat.lt_or_ge pc 43 with h0 | h0
  · exact xchR_use xck_129_0 (by omega) (by omega)
  rcases Nat.lt_or_ge pc 44 with h1 | h1
  · exact xchR_use xck_129_1 (by omega) (by omega)
  exact xchR_out (by rw [show (xkall.getD 129 []).length = 44 by decide +kernel]; omega)
set_option maxRecDepth 100000 in
theorem xck_130_0 : xchR 130 0 13 = true := by decide +kernel
set_option maxRecDepth 100000 in
theorem xck_130 : xckP 130 := by
  intro pc
  rcases Nat.lt_or_ge pc 13 with h0 | h0
  · exact xchR_use xck_130_0 (by omega) (by omega)
  exact xchR_out (by rw [show (xkall.getD 130 []).length = 13 by decide +kernel]; omega)
set_option maxRecDepth 100000 in
theorem xck_131_0 : xchR 131 0 127 = true := by decide +kernel
set_option maxRecDepth 100000 in
theorem xck_131_1 : xchR 131 127 36 = true := by decide +kernel
set_option maxRecDepth 100000 in
theorem xck_131_2 : xchR 131 163 31 = true := by decide +kernel
set_option maxRecDepth 100000 in
theorem xck_131 : xckP 131 := by
  intro pc
  rcases Nat.lt_or_ge pc 127 with h0 | h0
  · exact xchR_use xck_131_0 (by omega) (by omega)
  rcases Nat.lt_or_ge pc 163 with h1 | h1
  · exact xchR_use xck_131_1 (by omega) (by omega)
  rcases Nat.lt_or_ge pc 194 with h2 | h2
  · exact xchR_use xck_131_2 (by omega) (by omega)
  exact xchR_out (by rw [show (xkall.getD 131 []).length = 194 by decide +kernel]; omega)
set_option maxRecDepth 100000 in
theorem xck_132_0 : xchR 132 0 16 = true := by decide +kernel
set_option maxRecDepth 100000 in
theorem xck_132 : xckP 132 := by
  intro pc
  rcases Nat.lt_or_ge pc 16 with h0 | h0
  · exact xchR_use xck_132_0 (by omega) (by omega)
  exact xchR_out (by rw [show (xkall.getD 132 []).length = 16 by decide +kernel]; omega)
set_option maxRecDepth 100000 in
theorem xck_133_0 : xchR 133 0 38 = true := by decide +kernel
set_option maxRecDepth 100000 in
theorem xck_133_1 : xchR 133 38 6 = true := by decide +kernel
set_option maxRecDepth 100000 in
theorem xck_133 : xckP 133 := by
  intro pc
  rcases Nat.lt_or_ge pc 38 with h0 | h0
  · exact xchR_use xck_133_0 (by omega) (by omega)
  rcases Nat.lt_or_ge pc 44 with h1 | h1
  · exact xchR_use xck_133_1 (by omega) (by omega)
  exact xchR_out (by rw [show (xkall.getD 133 []).length = 44 by decide +kernel]; omega)
set_option maxRecDepth 100000 in
theorem xck_134_0 : xchR 134 0 12 = true := by decide +kernel
set_option maxRecDepth 100000 in
theorem xck_134 : xckP 134 := by
  intro pc
  rcases Nat.lt_or_ge pc 12 with h0 | h0
  · exact xchR_use xck_134_0 (by omega) (by omega)
  exact xchR_out (by rw [show (xkall.getD 134 []).length = 12 by decide +kernel]; omega)
set_option maxRecDepth 100000 in
theorem xck_135_0 : xchR 135 0 12 = true := by decide +kernel
set_option maxRecDepth 100000 in
theorem xck_135 : xckP 135 := by
  intro pc
  rcases Nat.lt_or_ge pc 12 with h0 | h0
  · exact xchR_use xck_135_0 (by omega) (by omega)
  exact xchR_out (by rw [show (xkall.getD 135 []).length = 12 by decide +kernel]; omega)
set_option maxRecDepth 100000 in
theorem xck_136_0 : xchR 136 0 10 = true := by decide +kernel
set_option maxRecDepth 100000 in
theorem xck_136 : xckP 136 := by
  intro pc
  rcases Nat.lt_or_ge pc 10 with h0 | h0
  · exact xchR_use xck_136_0 (by omega) (by omega)
  exact xchR_out (by rw [show (xkall.getD 136 []).length = 10 by decide +kernel]; omega)
set_option maxRecDepth 100000 in
theorem xck_137_0 : xchR 137 0 41 = true := by decide +kernel
set_option maxRecDepth 100000 in
theorem xck_137_1 : xchR 137 41 22 = true := by decide +kernel
set_option maxRecDepth 100000 in
theorem xck_137 : xckP 137 := by
  intro pc
  rcases Nat.lt_or_ge pc 41 with h0 | h0
  · exact xchR_use xck_137_0 (by omega) (by omega)
  rcases Nat.lt_or_ge pc 63 with h1 | h1
  · exact xchR_use xck_137_1 (by omega) (by omega)
  exact xchR_out (by rw [show (xkall.getD 137 []).length = 63 by decide +kernel]; omega)
set_option maxRecDepth 100000 in
theorem xck_138_0 : xchR 138 0 16 = true := by decide +kernel
set_option maxRecDepth 100000 in
theorem xck_138 : xckP 138 := by
  intro pc
  rcases Nat.lt_or_ge pc 16 with h0 | h0
  · exact xchR_use xck_138_0 (by omega) (by omega)
  exact xchR_out (by rw [show (xkall.getD 138 []).length = 16 by decide +kernel]; omega)
set_option maxRecDepth 100000 in
theorem xck_139_0 : xchR 139 0 8 = true := by decide +kernel
set_option maxRecDepth 100000 in
theorem xck_139 : xckP 139 := by
  intro pc
  rcases Nat.lt_or_ge pc 8 with h0 | h0
  · exact xchR_use xck_139_0 (by omega) (by omega)
  exact xchR_out (by rw [show (xkall.getD 139 []).length = 8 by decide +kernel]; omega)
set_option maxRecDepth 100000 in
theorem xck_140_0 : xchR 140 0 36 = true := by decide +kernel
set_option maxRecDepth 100000 in
theorem xck_140_1 : xchR 140 36 36 = true := by decide +kernel
set_option maxRecDepth 100000 in
theorem xck_140_2 : xchR 140 72 24 = true := by decide +kernel
set_option maxRecDepth 100000 in
theorem xck_140 : xckP 140 := by
  intro pc
  rcases Nat.lt_or_ge pc 36 with h0 | h0
  · exact xchR_use xck_140_0 (by omega) (by omega)
  rcases Nat.lt_or_ge pc 72 with h1 | h1
  · exact xchR_use xck_140_1 (by omega) (by omega)
  rcases Nat.lt_or_ge pc 96 with h2 | h2
  · exact xchR_use xck_140_2 (by omega) (by omega)
  exact xchR_out (by rw [show (xkall.getD 140 []).length = 96 by decide +kernel]; omega)
