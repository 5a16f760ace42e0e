set_option maxRecDepth 100000 in
theorem xck_86_0 : xchR 86 0 40 = true := by decide +kernel
set_option maxRecDepth 100000 in
theorem xck_86_1 : xchR 86 40 8 = true := by decide +kernel
set_option maxRecDepth 100000 in
theorem xck_86 : xckP 86 := by
  intro pc
  rcases Nat.lt_or_ge pc 40 with h0 | h0
  · exact xchR_use xck_86_0 (by omega) (by omega)
  rcases Nat.lt_or_ge pc 48 with h1 | h1
  · exact xchR_use xck_86_1 (by omega) (by omega)
  exact xchR_out (by rw [show (xkall.getD 86 []).length = 48 by decide +kernel]; omega)
set_option maxRecDepth 100000 in
theorem xck_87_0 : xchR 87 0 72 = true := by decide +kernel
set_option maxRecDepth 100000 in
theorem xck_87_1 : xchR 87 72 38 = true := by decide +kernel
set_option maxRecDepth 100000 in
theorem xck_87 : xckP 87 := by
  intro pc
  rcases Nat.lt_or_ge pc 72 with h0 | h0
  · exact xchR_use xck_87_0 (by omega) (by omega)
  rcases Nat.lt_or_ge pc 110 with h1 | h1
  · exact xchR_use xck_87_1 (by omega) (by omega)
  exact xchR_out (by rw [show (xkall.getD 87 []).length = 110 by decide +kernel]; omega)
set_option maxRecDepth 100000 in
theorem xck_88_0 : xchR 88 0 27 = true := by decide +kernel
set_option maxRecDepth 100000 in
theorem xck_88 : xckP 88 := by
  intro pc
  rcases Nat.lt_or_ge pc 27 with h0 | h0
  · exact xchR_use xck_88_0 (by omega) (by omega)
  exact xchR_out (by rw [show (xkall.getD 88 []).length = 27 by decide +kernel]; omega)
set_option maxRecDepth 100000 in
theorem xck_89_0 : xchR 89 0 118 = true := by decide +kernel
set_option maxRecDepth 100000 in
theorem xck_89_1 : xchR 89 118 40 = true := by decide +kernel
set_option maxRecDepth 100000 in
theorem xck_89_2 : xchR 89 158 50 = true := by decide +kernel
set_option maxRecDepth 100000 in
theorem xck_89_3 : xchR 89 208 36 = true := by decide +kernel
set_option maxRecDepth 100000 in
theorem xck_89_4 : xchR 89 244 35 = true := by decide +kernel
set_option maxRecDepth 100000 in
theorem xck_89 : xckP 89 := by
  intro pc
  rcases Nat.lt_or_ge pc 118 with h0 | h0
  · exact xchR_use xck_89_0 (by omega) (by omega)
  rcases Nat.lt_or_ge pc 158 with h1 | h1
  · exact xchR_use xck_89_1 (by omega) (by omega)
  rcases Nat.lt_or_ge pc 208 with h2 | h2
  · exact xchR_use xck_89_2 (by omega) (by omega)
  rcases Nat.lt_or_ge pc 244 with h3 | h3
  · exact xchR_use xck_89_3 (by omega) (by omega)
  rcases Nat.lt_or_ge pc 279 with h4 | h4
  · exact xchR_use xck_89_4 (by omega) (by omega)
  exact xchR_out (by rw [show (xkall.getD 89 []).length = 279 by decide +kernel]; omega)
set_option maxRecDepth 100000 in
theorem xck_90_0 : xchR 90 0 40 = true := by decide +kernel
set_option maxRecDepth 100000 in
theorem xck_90_1 : xchR 90 40 4 = true := by decide +kernel
set_option maxRecDepth 100000 in
theorem xck_90 : xckP 90 := by
  intro pc
  rcases Nat.lt_or_ge pc 40 with h0 | h0
  · exact xchR_use xck_90_0 (by omega) (by omega)
  rcases Nat.lt_or_ge pc 44 with h1 | h1
  · exact xchR_use xck_90_1 (by omega) (by omega)
  exact xchR_out (by rw [show (xkall.getD 90 []).length = 44 by decide +kernel]; omega)
set_option maxRecDepth 100000 in
theorem xck_91_0 : xchR 91 0 34 = true := by decide +kernel
set_option maxRecDepth 100000 in
theorem xck_91 : xckP 91 := by
  intro pc
  rcases Nat.lt_or_ge pc 34 with h0 | h0
  · exact xchR_use xck_91_0 (by omega) (by omega)
  exact xchR_out (by rw [show (xkall.getD 91 []).length = 34 by decide +kernel]; omega)
set_option maxRecDepth 100000 in
theorem xck_92_0 : xchR 92 0 36 = true := by decide +kernel
set_option maxRecDepth 100000 in
theorem xck_92_1 : xchR 92 36 25 = true := by decide +kernel
set_option maxRecDepth 100000 in
theorem xck_92 : xckP 92 := by
  intro pc
  rcases Nat.lt_or_ge pc 36 with h0 | h0
  · exact xchR_use xck_92_0 (by omega) (by omega)
  rcases Nat.lt_or_ge pc 61 with h1 | h1
  · exact xchR_use xck_92_1 (by omega) (by omega)
  exact xchR_out (by rw [show (xkall.getD 92 []).length = 61 by decide +kernel]; omega)
set_option maxRecDepth 100000 in
theorem xck_93_0 : xchR 93 0 35 = true := by decide +kernel
set_option maxRecDepth 100000 in
theorem xck_93_1 : xchR 93 35 21 = true := by decide +kernel
set_option maxRecDepth 100000 in
theorem xck_93 : xckP 93 := by
  intro pc
  rcases Nat.lt_or_ge pc 35 with h0 | h0
  · exact xchR_use xck_93_0 (by omega) (by omega)
  rcases Nat.lt_or_ge pc 56 with h1 | h1
  · exact xchR_use xck_93_1 (by omega) (by omega)
  exact xchR_out (by rw [show (xkall.getD 93 []).length = 56 by decide +kernel]; omega)
set_option maxRecDepth 100000 in
theorem xck_94_0 : xchR 94 0 22 = true := by decide +kernel
set_option maxRecDepth 100000 in
theorem xck_94 : xckP 94 := by
  intro pc
  rcases Nat.lt_or_ge pc 22 with h0 | h0
  · exact xchR_use xck_94_0 (by omega) (by omega)
  exact xchR_out (by rw [show (xkall.getD 94 []).length = 22 by decide +kernel]; omega)
set_option maxRecDepth 100000 in
theorem xck_95_0 : xchR 95 0 36 = true := by decide +kernel
set_option maxRecDepth 100000 in
theorem xck_95_1 : xchR 95 36 21 = true := by decide +kernel
set_option maxRecDepth 100000 in
theorem xck_95 : xckP 95 := by
  intro pc
  rcases Nat.lt_or_ge pc 36 with h0 | h0
  · exact xchR_use xck_95_0 (by omega) (by omega)
  rcases Nat.lt_or_ge pc 57 with h1 | h1
  · exact xchR_use xck_95_1 (by omega) (by omega)
  exact xchR_out (by rw [show (xkall.getD 95 []).length = 57 by decide +kernel]; omega)
set_option maxRecDepth 100000 in
theorem xck_96_0 : xchR 96 0 58 = true := by decide +kernel
set_option maxRecDepth 100000 in
theorem xck_96_1 : xchR 96 58 23 = true := by decide +kernel
set_option maxRecDepth 100000 in
theorem xck_96 : xckP 96 := by
  intro pc
  rcases Nat.lt_or_ge pc 58 with h0 | h0
  · exact xchR_use xck_96_0 (by omega) (by omega)
  rcases Nat.lt_or_ge pc 81 with h1 | h1
  · exact xchR_use xck_96_1 (by omega) (by omega)
  exact xchR_out (by rw [show (xkall.getD 96 []).length = 81 by decide +kernel]; omega)
set_option maxRecDepth 100000 in
theorem xck_97_0 : xchR 97 0 31 = true := by decide +kernel
set_option maxRecDepth 100000 in
theorem xck_97 : xckP 97 := by
  intro pc
  rcases Nat.lt_or_ge pc 31 with h0 | h0
  · exact xchR_use xck_97_0 (by omega) (by omega)
  exact xchR_out (by rw [show (xkall.getD 97 []).length = 31 by decide +kernel]; omega)
set_option maxRecDepth 100000 in
theorem xck_98_0 : xchR 98 0 24 = true := by decide +kernel
set_option maxRecDepth 100000 in
theorem xck_98 : xckP 98 := by
  intro pc
  rcases Nat.lt_or_ge pc 24 with h0 | h0
  · exact xchR_use xck_98_0 (by omega) (by omega)
  exact xchR_out (by rw [show (xkall.getD 98 []).length = 24 by decide +kernel]; omega)
set_option maxRecDepth 100000 in
theorem xck_99_0 : xchR 99 0 43 = true := by decide +kernel
set_option maxRecDepth 100000 in
theorem xck_99_1 : xchR 99 43 1 = true := by decide +kernel
set_option maxRecDepth 100000 in
theorem xck_99 : xckP 99 := by
  intro pc
  rcases Nat.lt_or_ge pc 43 with h0 | h0
  · exact xchR_use xck_99_0 (by omega) (by omega)
  rcases Nat.lt_or_ge pc 44 with h1 | h1
  · exact xchR_use xck_99_1 (by omega) (by omega)
  exact xchR_out (by rw [show (xkall.getD 99 []).length = 44 by decide +kernel]; omega)
set_option maxRecDepth 100000 in
theorem xck_100_0 : xchR 100 0 13 = true := by decide +kernel
set_option maxRecDepth 100000 in
theorem xck_100 : xckP 100 := by
  intro pc
  rcases Nat.lt_or_ge pc 13 with h0 | h0
  · exact xchR_use xck_100_0 (by omega) (by omega)
  exact xchR_out (by rw [show (xkall.getD 100 []).length = 13 by decide +kernel]; omega)
set_option maxRecDepth 100000 in
theorem xck_101_0 : xchR 101 0 16 = true := by decide +kernel
set_option maxRecDepth 100000 in
theorem xck_101 : xckP 101 := by
  intro pc
  rcases Nat.lt_or_ge pc 16 with h0 | h0
  · exact xchR_use xck_101_0 (by omega) (by omega)
  exact xchR_out (by rw [show (xkall.getD 101 []).length = 16 by decide +kernel]; omega)
set_option maxRecDepth 100000 in
theorem xck_102_0 : xchR 102 0 38 = true := by decide +kernel
set_option maxRecDepth 100000 in
theorem xck_102_1 : xchR 102 38 6 = true := by decide +kernel
set_option maxRecDepth 100000 in
theorem xck_102 : xckP 102 := by
  intro pc
  rcases Nat.lt_or_ge pc 38 with h0 | h0
  · exact xchR_use xck_102_0 (by omega) (by omega)
  rcases Nat.lt_or_ge pc 44 with h1 | h1
  · exact xchR_use xck_102_1 (by omega) (by omega)
  exact xchR_out (by rw [show (xkall.getD 102 []).length = 44 by decide +kernel]; omega)
set_option maxRecDepth 100000 in
theorem xck_103_0 : xchR 103 0 12 = true := by decide +kernel
set_option maxRecDepth 100000 in
theorem xck_103 : xckP 103 := by
  intro pc
  rcases Nat.lt_or_ge pc 12 with h0 | h0
  · exact xchR_use xck_103_0 (by omega) (by omega)
  exact xchR_out (by rw [show (xkall.getD 103 []).length = 12 by decide +kernel]; omega)
set_option maxRecDepth 100000 in
theorem xck_104_0 : xchR 104 0 12 = true := by decide +kernel
set_option maxRecDepth 100000 in
theorem xck_104 : xckP 104 := by
  intro pc
  rcases Nat.lt_or_ge pc 12 with h0 | h0
  · exact xchR_use xck_104_0 (by omega) (by omega)
  exact xchR_out (by rw [show (xkall.getD 104 []).length = 12 by decide +kernel]; omega)
set_option maxRecDepth 100000 in
theorem xck_105_0 : xchR 105 0 10 = true := by decide +kernel
set_option maxRecDepth 100000 in
theorem xck_105 : xckP 105 := by
  intro pc
  rcases Nat.lt_or_ge pc 10 with h0 | h0
  · exact xchR_use xck_105_0 (by omega) (by omega)
  exact xchR_out (by rw [show (xkall.getD 105 []).length = 10 by decide +kernel]; omega)
set_option maxRecDepth 100000 in
theorem xck_106_0 : xchR 106 0 25 = true := by decide +kernel
set_option maxRecDepth 100000 in
theorem xck_106 : xckP 106 := by
  intro pc
  rcases Nat.lt_or_ge pc 25 with h0 | h0
  · exact xchR_use xck_106_0 (by omega) (by omega)
  exact xchR_out (by rw [show (xkall.getD 106 []).length = 25 by decide +kernel]; omega)
set_option maxRecDepth 100000 in
theorem xck_107_0 : xchR 107 0 7 = true := by decide +kernel
set_option maxRecDepth 100000 in
theorem xck_107 : xckP 107 := by
  intro pc
  rcases Nat.lt_or_ge pc 7 with h0 | h0
  · exact xchR_use xck_107_0 (by omega) (by omega)
  exact xchR_out (by rw [show (xkall.getD 107 []).length = 7 by decide +kernel]; omega)
set_option maxRecDepth 100000 in
theorem xck_108_0 : xchR 108 0 28 = true := by decide +kernel
set_option maxRecDepth 100000 in
theorem xck_108_1 : xchR 108 28 34 = true := by decide +kernel
set_option maxRecDepth 100000 in
theorem xck_108_2 : xchR 108 62 37 = true := by decide +kernel
set_option maxRecDepth 100000 in
theorem xck_108_3 : xchR 108 99 40 = true := by decide +kernel
set_option maxRecDepth 100000 in
theorem xck_108_4 : xchR 108 139 34 = true := by decide +kernel
set_option maxRecDepth 100000 in
theorem xck_108_5 : xchR 108 173 13 = true := by decide +kernel
set_option maxRecDepth 100000 in
theorem xck_108 : xckP 108 := by
  intro pc
  rcases Nat.lt_or_ge pc 28 with h0 | h0
  · exact xchR_use xck_108_0 (by omega) (by omega)
  rcases Nat.lt_or_ge pc 62 with h1 | h1
  · exact xchR_use xck_108_1 (by omega) (by omega)
  rcases Nat.lt_or_ge pc 99 with h2 | h2
  · exact xchR_use xck_108_2 (by omega) (by omega)
  rcases Nat.lt_or_ge pc 139 with h3 | h3
  · exact xchR_use xck_108_3 (by omega) (by omega)
  rcases Nat.lt_or_ge pc 173 with h4 | h4
  · exact xchR_use xck_108_4 (by omega) (by omega)
  rcases Nat.lt_or_ge pc 186 with h5 | h5
  · exact xchR_use xck_108_5 (by omega) (by omega)
  exact xchR_out (by rw [show (xkall.getD 108 []).length = 186 by decide +kernel]; omega)
set_option maxRecDepth 100000 in
theorem xck_109_0 : xchR 109 0 33 = true := by decide +kernel
set_option maxRecDepth 100000 in
theorem xck_109_1 : xchR 109 33 39 = true := by decide +kernel
set_option maxRecDepth 100000 in
theorem xck_109_2 : xchR 109 72 33 = true := by decide +kernel
set_option maxRecDepth 100000 in
theorem xck_109_3 : xchR 109 105 38 = true := by decide +kernel
set_option maxRecDepth 100000 in
theorem xck_109_4 : xchR 109 143 43 = true := by decide +kernel
set_option maxRecDepth 100000 in
theorem xck_109_5 : xchR 109 186 43 = true := by decide +kernel
set_option maxRecDepth 100000 in
theorem xck_109_6 : xchR 109 229 37 = true := by decide +kernel
set_option maxRecDepth 100000 in
theorem xck_109_7 : xchR 109 266 16 = true := by decide +kernel
set_option maxRecDepth 100000 in
theorem xck_109 : xckP 109 := by
  intro pc
  rcases Nat.lt_or_ge pc 33 with h0 | h0
  · exact xchR_use xck_109_0 (by omega) (by omega)
  rcases Nat.lt_or_ge pc 72 with h1 | h1
  · exact xchR_use xck_109_1 (by omega) (by omega)
  rcases Nat.lt_or_ge pc 105 with h2 | h2
  · exact xchR_use xck_109_2 (by omega) (by omega)
  rcases Nat.lt_or_ge pc 143 with h3 | h3
  · exact xchR_use xck_109_3 (by omega) (by omega)
  rcases Nat.lt_or_ge pc 186 with h4 | h4
  · exact xchR_use xck_109_4 (by omega) (by omega)
  rcases Nat.lt_or_ge pc 229 with h5 | h5
  · exact xchR_use xck_109_5 (by omega) (by omega)
  rcases Nat.lt_or_ge pc 266 with h6 | h6
  · exact xchR_use xck_109_6 (by omega) (by omega)
  rcases Nat.lt_or_ge pc 282 with h7 | h7
  · exact xchR_use xck_109_7 (by omega) (by omega)
  exact xchR_out (by rw [show (xkall.getD 109 []).length = 282 by decide +kernel]; omega)
set_option maxRecDepth 100000 in
theorem xck_110_0 : xchR 110 0 33 = true := by decide +kernel
set_option maxRecDepth 100000 in
theorem xck_110_1 : xchR 110 33 38 = true := by decide +kernel
set_option maxRecDepth 100000 in
theorem xck_110_2 : xchR 110 71 37 = true := by decide +kernel
set_option maxRecDepth 100000 in
theorem xck_110_3 : xchR 110 108 36 = true := by decide +kernel
set_option maxRecDepth 100000 in
theorem xck_110_4 : xchR 110 144 40 = true := by decide +kernel
set_option maxRecDepth 100000 in
theorem xck_110_5 : xchR 110 184 33 = true := by decide +kernel
set_option maxRecDepth 100000 in
theorem xck_110_6 : xchR 110 217 41 = true := by decide +kernel
set_option maxRecDepth 100000 in
theorem xck_110_7 : xchR 110 258 44 = true := by decide +kernel
set_option maxRecDepth 100000 in
theorem xck_110_8 : xchR 110 302 36 = true := by decide +kernel
set_option maxRecDepth 100000 in
theorem xck_110_9 : xchR 110 338 34 = true := by decide +kernel
set_option maxRecDepth 100000 in
theorem xck_110_10 : xchR 110 372 42 = true := by decide +kernel
set_option maxRecDepth 100000 in
theorem xck_110_11 : xchR 110 414 37 = true := by decide +kernel
set_option maxRecDepth 100000 in
theorem xck_110_12 : xchR 110 451 1 = true := by decide +kernel
set_option maxRecDepth 100000 in
theorem xck_110 : xckP 110 := by
  intro pc
  rcases Nat.lt_or_ge pc 33 with h0 | h0
  · exact xchR_use xck_110_0 (by omega) (by omega)
  rcases Nat.lt_or_ge pc 71 with h1 | h1
  · exact xchR_use xck_110_1 (by omega) (by omega)
  rcases Nat.lt_or_ge pc 108 with h2 | h2
  · exact xchR_use xck_110_2 (by omega) (by omega)
  rcases Nat.lt_or_ge pc 144 with h3 | h3
  · exact xchR_use xck_110_3 (by omega) (by omega)
  rcases Nat.lt_or_ge pc 184 with h4 | h4
  · exact xchR_use xck_110_4 (by omega) (by omega)
  rcases Nat.lt_or_ge pc 217 with h5 | h5
  · exact xchR_use xck_110_5 (by omega) (by omega)
  rcases Nat.lt_or_ge pc 258 with h6 | h6
  · exact xchR_use xck_110_6 (by omega) (by omega)
  rcases Nat.lt_or_ge pc 302 with h7 | h7
  · exact xchR_use xck_110_7 (by omega) (by omega)
  rcases Nat.lt_or_ge pc 338 with h8 | h8
  · exact xchR_use xck_110_8 (by omega) (by omega)
  rcases Nat.lt_or_ge pc 372 with h9 | h9
  · exact xchR_use xck_110_9 (by omega) (by omega)
  rcases Nat.lt_or_ge pc 414 with h10 | h10
  · exact xchR_use xck_110_10 (by omega) (by omega)
  rcases Nat.lt_or_ge pc 451 with h11 | h11
  · exact xchR_use xck_110_11 (by omega) (by omega)
  rcases Nat.lt_or_ge pc 452 with h12 | h12
  · exact xchR_use xck_110_12 (by omega) (by omega)
  exact xchR_out (by rw [show (xkall.getD 110 []).length = 452 by decide +kernel]; omega)
set_option maxRecDepth 100000 in
theorem xck_111_0 : xchR 111 0 37 = true := by decide +kernel
set_option maxRecDepth 100000 in
theorem xck_111_1 : xchR 111 37 36 = true := by decide +kernel
set_option maxRecDepth 100000 in
theorem xck_111_2 : xchR 111 73 38 = true := by decide +kernel
set_option maxRecDepth 100000 in
theorem xck_111_3 : xchR 111 111 36 = true := by decide +kernel
set_option maxRecDepth 100000 in
theorem xck_111_4 : xchR 111 147 34 = true := by decide +kernel
set_option maxRecDepth 100000 in
theorem xck_111 : xckP 111 := by
  intro pc
  rcases Nat.lt_or_ge pc 37 with h0 | h0
  · exact xchR_use xck_111_0 (by omega) (by omega)
  rcases Nat.lt_or_ge pc 73 with h1 | h1
  · exact xchR_use xck_111_1 (by omega) (by omega)
  rcases Nat.lt_or_ge pc 111 with h2 | h2
  · exact xchR_use xck_111_2 (by omega) (by omega)
  rcases Nat.lt_or_ge pc 147 with h3 | h3
  · exact xchR_use xck_111_3 (by omega) (by omega)
  rcases Nat.lt_or_ge pc 181 with h4 | h4
  · exact xchR_use xck_111_4 (by omega) (by omega)
  exact xchR_out (by rw [show (xkall.getD 111 []).length = 181 by decide +kernel]; omega)
set_option maxRecDepth 100000 in
theorem xck_112_0 : xchR 112 0 35 = true := by decide +kernel
set_option maxRecDepth 100000 in
theorem xck_112_1 : xchR 112 35 27 = true := by decide +kernel
set_option maxRecDepth 100000 in
theorem xck_112_2 : xchR 112 62 30 = true := by decide +kernel
set_option maxRecDepth 100000 in
theorem xck_112_3 : xchR 112 92 35 = true := by decide +kernel
set_option maxRecDepth 100000 in
theorem xck_112_4 : xchR 112 127 35 = true := by decide +kernel
set_option maxRecDepth 100000 in
theorem xck_112_5 : xchR 112 162 37 = true := by decide +kernel
set_option maxRecDepth 100000 in
theorem xck_112_6 : xchR 112 199 34 = true := by decide +kernel
set_option maxRecDepth 100000 in
theorem xck_112_7 : xchR 112 233 41 = true := by decide +kernel
set_option maxRecDepth 100000 in
theorem xck_112_8 : xchR 112 274 1 = true := by decide +kernel
set_option maxRecDepth 100000 in
theorem xck_112 : xckP 112 := by
  intro pc
  rcases Nat.lt_or_ge pc 35 with h0 | h0
  · exact xchR_use xck_112_0 (by omega) (by omega)
  rcases Nat.lt_or_ge pc 62 with h1 | h1
  · exact xchR_use xck_112_1 (by omega) (by omega)
  rcases Nat.lt_or_ge pc 92 with h2 | h2
  · exact xchR_use xck_112_2 (by omega) (by omega)
  rcases Nat.lt_or_ge pc 127 with h3 | h3
  · exact xchR_use xck_112_3 (by omega) (by omega)
  rcases Nat.lt_or_ge pc 162 with h4 | h4
  · exact xchR_use xck_112_4 (by omega) (by omega)
  rcases Nat.lt_or_ge pc 199 with h5 | h5
  · exact xchR_use xck_112_5 (by omega) (by omega)
  rcases Nat.lt_or_ge pc 233 with h6 | h6
  · exact xchR_use xck_112_6 (by omega) (by omega)
  rcases Nat.lt_or_ge pc 274 with h7 | h7
  · exact xchR_use xck_112_7 (by omega) (by omega)
  rcases Nat.lt_or_ge pc 275 with h8 | h8
  · exact xchR_use xck_112_8 (by omega) (by omega)
  exact xchR_out (by rw [show (xkall.getD 112 []).length = 275 by decide +kernel]; omega)
set_option maxRecDepth 100000 in
theorem xck_113_0 : xchR 113 0 32 = true := by decide +kernel
set_option maxRecDepth 100000 in
theorem xck_113_1 : xchR 113 32 38 = true := by decide +kernel
set_option maxRecDepth 100000 in
theorem xck_113_2 : xchR 113 70 38 = true := by decide +kernel
set_option maxRecDepth 100000 in
theorem xck_113_3 : xchR 113 108 39 = true := by decide +kernel
set_option maxRecDepth 100000 in
theorem xck_113_4 : xchR 113 147 1 = true := by decide +kernel
set_option maxRecDepth 100000 in
theorem xck_113 : xckP 113 := by
  intro pc
  rcases Nat.lt_or_ge pc 32 with h0 | h0
  · exact xchR_use xck_113_0 (by omega) (by omega)
  rcases Nat.lt_or_ge pc 70 with h1 | h1
  · exact xchR_use xck_113_1 (by omega) (by omega)
  rcases Nat.lt_or_ge pc 108 with h2 | h2
  · exact xchR_use xck_113_2 (by omega) (by omega)
  rcases Nat.lt_or_ge pc 147 with h3 | h3
  · exact xchR_use xck_113_3 (by omega) (by omega)
  rcases Nat.lt_or_ge pc 148 with h4 | h4
  · exact xchR_use xck_113_4 (by omega) (by omega)
  exact xchR_out (by rw [show (xkall.getD 113 []).length = 148 by decide +kernel]; omega)
set_option maxRecDepth 100000 in
theorem xck_114_0 : xchR 114 0 32 = true := by decide +kernel
set_option maxRecDepth 100000 in
theorem xck_114_1 : xchR 114 32 109 = true := by decide +kernel
set_option maxRecDepth 100000 in
theorem xck_114_2 : xchR 114 141 40 = true := by decide +kernel
set_option maxRecDepth 100000 in
theorem xck_114_3 : xchR 114 181 33 = true := by decide +kernel
set_option maxRecDepth 100000 in
theorem xck_114_4 : xchR 114 214 36 = true := by decide +kernel
set_option maxRecDepth 100000 in
theorem xck_114_5 : xchR 114 250 35 = true := by decide +kernel
set_option maxRecDepth 100000 in
theorem xck_114_6 : xchR 114 285 34 = true := by decide +kernel
set_option maxRecDepth 100000 in
theorem xck_114_7 : xchR 114 319 38 = true := by decide +kernel
set_option maxRecDepth 100000 in
theorem xck_114_8 : xchR 114 357 34 = true := by decide +kernel
set_option maxRecDepth 100000 in
theorem xck_114_9 : xchR 114 391 39 = true := by decide +kernel
set_option maxRecDepth 100000 in
theorem xck_114_10 : xchR 114 430 39 = true := by decide +kernel
set_option maxRecDepth 100000 in
theorem xck_114_11 : xchR 114 469 39 = true := by decide +kernel
set_option maxRecDepth 100000 in
theorem xck_114_12 : xchR 114 508 38 = true := by decide +kernel
set_option maxRecDepth 100000 in
theorem xck_114_13 : xchR 114 546 33 = true := by decide +kernel
set_option maxRecDepth 100000 in
theorem xck_114_14 : xchR 114 579 40 = true := by decide +kernel
set_option maxRecDepth 100000 in
theorem xck_114_15 : xchR 114 619 39 = true := by decide +kernel
set_option maxRecDepth 100000 in
theorem xck_114_16 : xchR 114 658 33 = true := by decide +kernel
set_option maxRecDepth 100000 in
theorem xck_114_17 : xchR 114 691 42 = true := by decide +kernel
set_option maxRecDepth 100000 in
theorem xck_114_18 : xchR 114 733 16 = true := by decide +kernel
set_option maxRecDepth 100000 in
theorem xck_114 : xckP 114 := by
  intro pc
  rcases Nat.lt_or_ge pc 32 with h0 | h0
  · exact xchR_use xck_114_0 (by omega) (by omega)
  rcases Nat.lt_or_ge pc 141 with h1 | h1
  · exact xchR_use xck_114_1 (by omega) (by omega)
  rcases Nat.lt_or_ge pc 181 with h2 | h2
  · exact xchR_use xck_114_2 (by omega) (by omega)
  rcases Nat.lt_or_ge pc 214 with h3 | h3
  · exact xchR_use xck_114_3 (by omega) (by omega)
  rcases Nat.lt_or_ge pc 250 with h4 | h4
  · exact xchR_use xck_114_4 (by omega) (by omega)
  rcases Nat.lt_or_ge pc 285 with h5 | h5
  · exact xchR_use xck_114_5 (by omega) (by omega)
  rcases Nat.lt_or_ge pc 319 with h6 | h6
  · exact xchR_use xck_114_6 (by omega) (by omega)
  rcases Nat.lt_or_ge pc 357 with h7 | h7
  · exact xchR_use xck_114_7 (by omega) (by omega)
  rcases Nat.lt_or_ge pc 391 with h8 | h8
  · exact xchR_use xck_114_8 (by omega) (by omega)
  rcases Nat.lt_or_ge pc 430 with h9 | h9
  · exact xchR_use xck_114_9 (by omega) (by omega)
  rcases Nat.lt_or_ge pc 469 with h10 | h10
  · exact xchR_use xck_114_10 (by omega) (by omega)
  rcases Nat.lt_or_ge pc 508 with h11 | h11
  · exact xchR_use xck_114_11 (by omega) (by omega)
  rcases Nat.lt_or_ge pc 546 with h12 | h12
  · exact xchR_use xck_114_12 (by omega) (by omega)
  rcases Nat.lt_or_ge pc 579 with h13 | h13
  · exact xchR_use xck_114_13 (by omega) (by omega)
  rcases Nat.lt_or_ge pc 619 with h14 | h14
  · exact xchR_use xck_114_14 (by omega) (by omega)
  rcases Nat.lt_or_ge pc 658 with h15 | h15
  · exact xchR_use xck_114_15 (by omega) (by omega)
  rcases Nat.lt_or_ge pc 691 with h16 | h16
  · exact xchR_use xck_114_16 (by omega) (by omega)
  rcases Nat.lt_or_ge pc 733 with h17 | h17
  · exact xchR_use xck_114_17 (by omega) (by omega)
  rcases Nat.lt_or_ge pc 749 with h18 | h18
  · exact xchR_use xck_114_18 (by omega) (by omega)
  exact xchR_out (by rw [show (xkall.getD 114 []).length = 749 by decide +kernel]; omega)
