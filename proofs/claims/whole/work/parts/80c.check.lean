set_option maxRecDepth 100000 in
theorem xck_141_0 : xchR 141 0 28 = true := by decide +kernel
set_option maxRecDepth 100000 in
theorem xck_141_1 : xchR 141 28 8 = true := by decide +kernel
set_option maxRecDepth 100000 in
theorem xck_141 : xckP 141 := by
  intro pc
  rcases Nat.lt_or_ge pc 28 with h0 | h0
  · exact xchR_use xck_141_0 (by omega) (by omega)
  rcases Nat.lt_or_ge pc 36 with h1 | h1
  · exact xchR_use xck_141_1 (by omega) (by omega)
  exact xchR_out (by rw [show (xkall.getD 141 []).length = 36 by decide +kernel]; omega)
set_option maxRecDepth 100000 in
theorem xck_142_0 : xchR 142 0 28 = true := by decide +kernel
set_option maxRecDepth 100000 in
theorem xck_142_1 : xchR 142 28 33 = true := by decide +kernel
set_option maxRecDepth 100000 in
theorem xck_142 : xckP 142 := by
  intro pc
  rcases Nat.lt_or_ge pc 28 with h0 | h0
  · exact xchR_use xck_142_0 (by omega) (by omega)
  rcases Nat.lt_or_ge pc 61 with h1 | h1
  · exact xchR_use xck_142_1 (by omega) (by omega)
  exact xchR_out (by rw [show (xkall.getD 142 []).length = 61 by decide +kernel]; omega)
set_option maxRecDepth 100000 in
theorem xck_143_0 : xchR 143 0 32 = true := by decide +kernel
set_option maxRecDepth 100000 in
theorem xck_143 : xckP 143 := by
  intro pc
  rcases Nat.lt_or_ge pc 32 with h0 | h0
  · exact xchR_use xck_143_0 (by omega) (by omega)
  exact xchR_out (by rw [show (xkall.getD 143 []).length = 32 by decide +kernel]; omega)
set_option maxRecDepth 100000 in
theorem xck_144_0 : xchR 144 0 17 = true := by decide +kernel
set_option maxRecDepth 100000 in
theorem xck_144 : xckP 144 := by
  intro pc
  rcases Nat.lt_or_ge pc 17 with h0 | h0
  · exact xchR_use xck_144_0 (by omega) (by omega)
  exact xchR_out (by rw [show (xkall.getD 144 []).length = 17 by decide +kernel]; omega)
set_option maxRecDepth 100000 in
theorem xck_145_0 : xchR 145 0 14 = true := by decide +kernel
set_option maxRecDepth 100000 in
theorem xck_145 : xckP 145 := by
  intro pc
  rcases Nat.lt_or_ge pc 14 with h0 | h0
  · exact xchR_use xck_145_0 (by omega) (by omega)
  exact xchR_out (by rw [show (xkall.getD 145 []).length = 14 by decide +kernel]; omega)
set_option maxRecDepth 100000 in
theorem xck_146_0 : xchR 146 0 32 = true := by decide +kernel
set_option maxRecDepth 100000 in
theorem xck_146_1 : xchR 146 32 10 = true := by decide +kernel
set_option maxRecDepth 100000 in
theorem xck_146 : xckP 146 := by
  intro pc
  rcases Nat.lt_or_ge pc 32 with h0 | h0
  · exact xchR_use xck_146_0 (by omega) (by omega)
  rcases Nat.lt_or_ge pc 42 with h1 | h1
  · exact xchR_use xck_146_1 (by omega) (by omega)
  exact xchR_out (by rw [show (xkall.getD 146 []).length = 42 by decide +kernel]; omega)
set_option maxRecDepth 100000 in
theorem xck_147_0 : xchR 147 0 11 = true := by decide +kernel
set_option maxRecDepth 100000 in
theorem xck_147 : xckP 147 := by
  intro pc
  rcases Nat.lt_or_ge pc 11 with h0 | h0
  · exact xchR_use xck_147_0 (by omega) (by omega)
  exact xchR_out (by rw [show (xkall.getD 147 []).length = 11 by decide +kernel]; omega)
set_option maxRecDepth 100000 in
theorem xck_148_0 : xchR 148 0 24 = true := by decide +kernel
set_option maxRecDepth 100000 in
theorem xck_148 : xckP 148 := by
  intro pc
  rcases Nat.lt_or_ge pc 24 with h0 | h0
  · exact xchR_use xck_148_0 (by omega) (by omega)
  exact xchR_out (by rw [show (xkall.getD 148 []).length = 24 by decide +kernel]; omega)
set_option maxRecDepth 100000 in
theorem xck_149_0 : xchR 149 0 32 = true := by decide +kernel
set_option maxRecDepth 100000 in
theorem xck_149_1 : xchR 149 32 1 = true := by decide +kernel
set_option maxRecDepth 100000 in
theorem xck_149 : xckP 149 := by
  intro pc
  rcases Nat.lt_or_ge pc 32 with h0 | h0
  · exact xchR_use xck_149_0 (by omega) (by omega)
  rcases Nat.lt_or_ge pc 33 with h1 | h1
  · exact xchR_use xck_149_1 (by omega) (by omega)
  exact xchR_out (by rw [show (xkall.getD 149 []).length = 33 by decide +kernel]; omega)
set_option maxRecDepth 100000 in
theorem xck_150_0 : xchR 150 0 35 = true := by decide +kernel
set_option maxRecDepth 100000 in
theorem xck_150_1 : xchR 150 35 14 = true := by decide +kernel
set_option maxRecDepth 100000 in
theorem xck_150 : xckP 150 := by
  intro pc
  rcases Nat.lt_or_ge pc 35 with h0 | h0
  · exact xchR_use xck_150_0 (by omega) (by omega)
  rcases Nat.lt_or_ge pc 49 with h1 | h1
  · exact xchR_use xck_150_1 (by omega) (by omega)
  exact xchR_out (by rw [show (xkall.getD 150 []).length = 49 by decide +kernel]; omega)
set_option maxRecDepth 100000 in
theorem xck_151_0 : xchR 151 0 15 = true := by decide +kernel
set_option maxRecDepth 100000 in
theorem xck_151 : xckP 151 := by
  intro pc
  rcases Nat.lt_or_ge pc 15 with h0 | h0
  · exact xchR_use xck_151_0 (by omega) (by omega)
  exact xchR_out (by rw [show (xkall.getD 151 []).length = 15 by decide +kernel]; omega)
set_option maxRecDepth 100000 in
theorem xck_152_0 : xchR 152 0 34 = true := by decide +kernel
set_option maxRecDepth 100000 in
theorem xck_152_1 : xchR 152 34 36 = true := by decide +kernel
set_option maxRecDepth 100000 in
theorem xck_152_2 : xchR 152 70 37 = true := by decide +kernel
set_option maxRecDepth 100000 in
theorem xck_152_3 : xchR 152 107 29 = true := by decide +kernel
set_option maxRecDepth 100000 in
theorem xck_152_4 : xchR 152 136 24 = true := by decide +kernel
set_option maxRecDepth 100000 in
theorem xck_152 : xckP 152 := by
  intro pc
  rcases Nat.lt_or_ge pc 34 with h0 | h0
  · exact xchR_use xck_152_0 (by omega) (by omega)
  rcases Nat.lt_or_ge pc 70 with h1 | h1
  · exact xchR_use xck_152_1 (by omega) (by omega)
  rcases Nat.lt_or_ge pc 107 with h2 | h2
  · exact xchR_use xck_152_2 (by omega) (by omega)
  rcases Nat.lt_or_ge pc 136 with h3 | h3
  · exact xchR_use xck_152_3 (by omega) (by omega)
  rcases Nat.lt_or_ge pc 160 with h4 | h4
  · exact xchR_use xck_152_4 (by omega) (by omega)
  exact xchR_out (by rw [show (xkall.getD 152 []).length = 160 by decide +kernel]; omega)
set_option maxRecDepth 100000 in
theorem xck_153_0 : xchR 153 0 34 = true := by decide +kernel
set_option maxRecDepth 100000 in
theorem xck_153_1 : xchR 153 34 35 = true := by decide +kernel
set_option maxRecDepth 100000 in
theorem xck_153_2 : xchR 153 69 31 = true := by decide +kernel
set_option maxRecDepth 100000 in
theorem xck_153_3 : xchR 153 100 19 = true := by decide +kernel
set_option maxRecDepth 100000 in
theorem xck_153 : xckP 153 := by
  intro pc
  rcases Nat.lt_or_ge pc 34 with h0 | h0
  · exact xchR_use xck_153_0 (by omega) (by omega)
  rcases Nat.lt_or_ge pc 69 with h1 | h1
  · exact xchR_use xck_153_1 (by omega) (by omega)
  rcases Nat.lt_or_ge pc 100 with h2 | h2
  · exact xchR_use xck_153_2 (by omega) (by omega)
  rcases Nat.lt_or_ge pc 119 with h3 | h3
  · exact xchR_use xck_153_3 (by omega) (by omega)
  exact xchR_out (by rw [show (xkall.getD 153 []).length = 119 by decide +kernel]; omega)
set_option maxRecDepth 100000 in
theorem xck_154_0 : xchR 154 0 31 = true := by decide +kernel
set_option maxRecDepth 100000 in
theorem xck_154_1 : xchR 154 31 21 = true := by decide +kernel
set_option maxRecDepth 100000 in
theorem xck_154 : xckP 154 := by
  intro pc
  rcases Nat.lt_or_ge pc 31 with h0 | h0
  · exact xchR_use xck_154_0 (by omega) (by omega)
  rcases Nat.lt_or_ge pc 52 with h1 | h1
  · exact xchR_use xck_154_1 (by omega) (by omega)
  exact xchR_out (by rw [show (xkall.getD 154 []).length = 52 by decide +kernel]; omega)
set_option maxRecDepth 100000 in
theorem xck_155_0 : xchR 155 0 32 = true := by decide +kernel
set_option maxRecDepth 100000 in
theorem xck_155_1 : xchR 155 32 30 = true := by decide +kernel
set_option maxRecDepth 100000 in
theorem xck_155_2 : xchR 155 62 24 = true := by decide +kernel
set_option maxRecDepth 100000 in
theorem xck_155 : xckP 155 := by
  intro pc
  rcases Nat.lt_or_ge pc 32 with h0 | h0
  · exact xchR_use xck_155_0 (by omega) (by omega)
  rcases Nat.lt_or_ge pc 62 with h1 | h1
  · exact xchR_use xck_155_1 (by omega) (by omega)
  rcases Nat.lt_or_ge pc 86 with h2 | h2
  · exact xchR_use xck_155_2 (by omega) (by omega)
  exact xchR_out (by rw [show (xkall.getD 155 []).length = 86 by decide +kernel]; omega)
set_option maxRecDepth 100000 in
theorem xck_156_0 : xchR 156 0 40 = true := by decide +kernel
set_option maxRecDepth 100000 in
theorem xck_156_1 : xchR 156 40 18 = true := by decide +kernel
set_option maxRecDepth 100000 in
theorem xck_156 : xckP 156 := by
  intro pc
  rcases Nat.lt_or_ge pc 40 with h0 | h0
  · exact xchR_use xck_156_0 (by omega) (by omega)
  rcases Nat.lt_or_ge pc 58 with h1 | h1
  · exact xchR_use xck_156_1 (by omega) (by omega)
  exact xchR_out (by rw [show (xkall.getD 156 []).length = 58 by decide +kernel]; omega)
set_option maxRecDepth 100000 in
theorem xck_157_0 : xchR 157 0 62 = true := by decide +kernel
set_option maxRecDepth 100000 in
theorem xck_157 : xckP 157 := by
  intro pc
  rcases Nat.lt_or_ge pc 62 with h0 | h0
  · exact xchR_use xck_157_0 (by omega) (by omega)
  exact xchR_out (by rw [show (xkall.getD 157 []).length = 62 by decide +kernel]; omega)
set_option maxRecDepth 100000 in
theorem xck_158_0 : xchR 158 0 24 = true := by decide +kernel
set_option maxRecDepth 100000 in
theorem xck_158 : xckP 158 := by
  intro pc
  rcases Nat.lt_or_ge pc 24 with h0 | h0
  · exact xchR_use xck_158_0 (by omega) (by omega)
  exact xchR_out (by rw [show (xkall.getD 158 []).length = 24 by decide +kernel]; omega)
set_option maxRecDepth 100000 in
theorem xck_159_0 : xchR 159 0 27 = true := by decide +kernel
set_option maxRecDepth 100000 in
theorem xck_159 : xckP 159 := by
  intro pc
  rcases Nat.lt_or_ge pc 27 with h0 | h0
  · exact xchR_use xck_159_0 (by omega) (by omega)
  exact xchR_out (by rw [show (xkall.getD 159 []).length = 27 by decide +kernel]; omega)
set_option maxRecDepth 100000 in
theorem xck_160_0 : xchR 160 0 32 = true := by decide +kernel
set_option maxRecDepth 100000 in
theorem xck_160_1 : xchR 160 32 30 = true := by decide +kernel
set_option maxRecDepth 100000 in
theorem xck_160_2 : xchR 160 62 32 = true := by decide +kernel
set_option maxRecDepth 100000 in
theorem xck_160_3 : xchR 160 94 16 = true := by decide +kernel
set_option maxRecDepth 100000 in
theorem xck_160 : xckP 160 := by
  intro pc
  rcases Nat.lt_or_ge pc 32 with h0 | h0
  · exact xchR_use xck_160_0 (by omega) (by omega)
  rcases Nat.lt_or_ge pc 62 with h1 | h1
  · exact xchR_use xck_160_1 (by omega) (by omega)
  rcases Nat.lt_or_ge pc 94 with h2 | h2
  · exact xchR_use xck_160_2 (by omega) (by omega)
  rcases Nat.lt_or_ge pc 110 with h3 | h3
  · exact xchR_use xck_160_3 (by omega) (by omega)
  exact xchR_out (by rw [show (xkall.getD 160 []).length = 110 by decide +kernel]; omega)
set_option maxRecDepth 100000 in
theorem xck_161_0 : xchR 161 0 32 = true := by decide +kernel
set_option maxRecDepth 100000 in
theorem xck_161_1 : xchR 161 32 33 = true := by decide +kernel
set_option maxRecDepth 100000 in
theorem xck_161_2 : xchR 161 65 27 = true := by decide +kernel
set_option maxRecDepth 100000 in
theorem xck_161_3 : xchR 161 92 31 = true := by decide +kernel
set_option maxRecDepth 100000 in
theorem xck_161_4 : xchR 161 123 31 = true := by decide +kernel
set_option maxRecDepth 100000 in
theorem xck_161_5 : xchR 161 154 22 = true := by decide +kernel
set_option maxRecDepth 100000 in
theorem xck_161 : xckP 161 := by
  intro pc
  rcases Nat.lt_or_ge pc 32 with h0 | h0
  · exact xchR_use xck_161_0 (by omega) (by omega)
  rcases Nat.lt_or_ge pc 65 with h1 | h1
  · exact xchR_use xck_161_1 (by omega) (by omega)
  rcases Nat.lt_or_ge pc 92 with h2 | h2
  · exact xchR_use xck_161_2 (by omega) (by omega)
  rcases Nat.lt_or_ge pc 123 with h3 | h3
  · exact xchR_use xck_161_3 (by omega) (by omega)
  rcases Nat.lt_or_ge pc 154 with h4 | h4
  · exact xchR_use xck_161_4 (by omega) (by omega)
  rcases Nat.lt_or_ge pc 176 with h5 | h5
  · exact xchR_use xck_161_5 (by omega) (by omega)
  exact xchR_out (by rw [show (xkall.getD 161 []).length = 176 by decide +kernel]; omega)
set_option maxRecDepth 100000 in
theorem xck_162_0 : xchR 162 0 24 = true := by decide +kernel
set_option maxRecDepth 100000 in
theorem xck_162 : xckP 162 := by
  intro pc
  rcases Nat.lt_or_ge pc 24 with h0 | h0
  · exact xchR_use xck_162_0 (by omega) (by omega)
  exact xchR_out (by rw [show (xkall.getD 162 []).length = 24 by decide +kernel]; omega)
set_option maxRecDepth 100000 in
theorem xck_163_0 : xchR 163 0 38 = true := by decide +kernel
set_option maxRecDepth 100000 in
theorem xck_163_1 : xchR 163 38 10 = true := by decide +kernel
set_option maxRecDepth 100000 in
theorem xck_163 : xckP 163 := by
  intro pc
  rcases Nat.lt_or_ge pc 38 with h0 | h0
  · exact xchR_use xck_163_0 (by omega) (by omega)
  rcases Nat.lt_or_ge pc 48 with h1 | h1
  · exact xchR_use xck_163_1 (by omega) (by omega)
  exact xchR_out (by rw [show (xkall.getD 163 []).length = 48 by decide +kernel]; omega)
set_option maxRecDepth 100000 in
theorem xck_164_0 : xchR 164 0 35 = true := by decide +kernel
set_option maxRecDepth 100000 in
theorem xck_164_1 : xchR 164 35 31 = true := by decide +kernel
set_option maxRecDepth 100000 in
theorem xck_164_2 : xchR 164 66 20 = true := by decide +kernel
set_option maxRecDepth 100000 in
theorem xck_164 : xckP 164 := by
  intro pc
  rcases Nat.lt_or_ge pc 35 with h0 | h0
  · exact xchR_use xck_164_0 (by omega) (by omega)
  rcases Nat.lt_or_ge pc 66 with h1 | h1
  · exact xchR_use xck_164_1 (by omega) (by omega)
  rcases Nat.lt_or_ge pc 86 with h2 | h2
  · exact xchR_use xck_164_2 (by omega) (by omega)
  exact xchR_out (by rw [show (xkall.getD 164 []).length = 86 by decide +kernel]; omega)
set_option maxRecDepth 100000 in
theorem xck_165_0 : xchR 165 0 24 = true := by decide +kernel
set_option maxRecDepth 100000 in
theorem xck_165 : xckP 165 := by
  intro pc
  rcases Nat.lt_or_ge pc 24 with h0 | h0
  · exact xchR_use xck_165_0 (by omega) (by omega)
  exact xchR_out (by rw [show (xkall.getD 165 []).length = 24 by decide +kernel]; omega)
set_option maxRecDepth 100000 in
theorem xck_166_0 : xchR 166 0 28 = true := by decide +kernel
set_option maxRecDepth 100000 in
theorem xck_166_1 : xchR 166 28 24 = true := by decide +kernel
set_option maxRecDepth 100000 in
theorem xck_166 : xckP 166 := by
  intro pc
  rcases Nat.lt_or_ge pc 28 with h0 | h0
  · exact xchR_use xck_166_0 (by omega) (by omega)
  rcases Nat.lt_or_ge pc 52 with h1 | h1
  · exact xchR_use xck_166_1 (by omega) (by omega)
  exact xchR_out (by rw [show (xkall.getD 166 []).length = 52 by decide +kernel]; omega)
set_option maxRecDepth 100000 in
theorem xck_167_0 : xchR 167 0 23 = true := by decide +kernel
set_option maxRecDepth 100000 in
theorem xck_167 : xckP 167 := by
  intro pc
  rcases Nat.lt_or_ge pc 23 with h0 | h0
  · exact xchR_use xck_167_0 (by omega) (by omega)
  exact xchR_out (by rw [show (xkall.getD 167 []).length = 23 by decide +kernel]; omega)
set_option maxRecDepth 100000 in
theorem xck_168_0 : xchR 168 0 23 = true := by decide +kernel
set_option maxRecDepth 100000 in
theorem xck_168 : xckP 168 := by
  intro pc
  rcases Nat.lt_or_ge pc 23 with h0 | h0
  · exact xchR_use xck_168_0 (by omega) (by omega)
  exact xchR_out (by rw [show (xkall.getD 168 []).length = 23 by decide +kernel]; omega)
set_option maxRecDepth 100000 in
theorem xck_169_0 : xchR 169 0 25 = true := by decide +kernel
set_option maxRecDepth 100000 in
theorem xck_169 : xckP 169 := by
  intro pc
  rcases Nat.lt_or_ge pc 25 with h0 | h0
  · exact xchR_use xck_169_0 (by omega) (by omega)
  exact xchR_out (by rw [show (xkall.getD 169 []).length = 25 by decide +kernel]; omega)
set_option maxRecDepth 100000 in
theorem xck_170_0 : xchR 170 0 24 = true := by decide +kernel
set_option maxRecDepth 100000 in
theorem xck_170 : xckP 170 := by
  intro pc
  rcases Nat.lt_or_ge pc 24 with h0 | h0
  · exact xchR_use xck_170_0 (by omega) (by omega)
  exact xchR_out (by rw [show (xkall.getD 170 []).length = 24 by decide +kernel]; omega)
set_option maxRecDepth 100000 in
theorem xck_171_0 : xchR 171 0 36 = true := by decide +kernel
set_option maxRecDepth 100000 in
theorem xck_171_1 : xchR 171 36 27 = true := by decide +kernel
set_option maxRecDepth 100000 in
theorem xck_171 : xckP 171 := by
  intro pc
  rcases Nat.lt_or_ge pc 36 with h0 | h0
  · exact xchR_use xck_171_0 (by omega) (by omega)
  rcases Nat.lt_or_ge pc 63 with h1 | h1
  · exact xchR_use xck_171_1 (by omega) (by omega)
  exact xchR_out (by rw [show (xkall.getD 171 []).length = 63 by decide +kernel]; omega)
set_option maxRecDepth 100000 in
theorem xck_172_0 : xchR 172 0 24 = true := by decide +kernel
set_option maxRecDepth 100000 in
theorem xck_172 : xckP 172 := by
  intro pc
  rcases Nat.lt_or_ge pc 24 with h0 | h0
  · exact xchR_use xck_172_0 (by omega) (by omega)
  exact xchR_out (by rw [show (xkall.getD 172 []).length = 24 by decide +kernel]; omega)
set_option maxRecDepth 100000 in
theorem xck_173_0 : xchR 173 0 22 = true := by decide +kernel
set_option maxRecDepth 100000 in
theorem xck_173 : xckP 173 := by
  intro pc
  rcases Nat.lt_or_ge pc 22 with h0 | h0
  · exact xchR_use xck_173_0 (by omega) (by omega)
  exact xchR_out (by rw [show (xkall.getD 173 []).length = 22 by decide +kernel]; omega)
set_option maxRecDepth 100000 in
theorem xck_174_0 : xchR 174 0 25 = true := by decide +kernel
set_option maxRecDepth 100000 in
theorem xck_174 : xckP 174 := by
  intro pc
  rcases Nat.lt_or_ge pc 25 with h0 | h0
  · exact xchR_use xck_174_0 (by omega) (by omega)
  exact xchR_out (by rw [show (xkall.getD 174 []).length = 25 by decide +kernel]; omega)
set_option maxRecDepth 100000 in
theorem xck_175_0 : xchR 175 0 25 = true := by decide +kernel
set_option maxRecDepth 100000 in
theorem xck_175 : xckP 175 := by
  intro pc
  rcases Nat.lt_or_ge pc 25 with h0 | h0
  · exact xchR_use xck_175_0 (by omega) (by omega)
  exact xchR_out (by rw [show (xkall.getD 175 []).length = 25 by decide +kernel]; omega)
set_option maxRecDepth 100000 in
theorem xck_176_0 : xchR 176 0 32 = true := by decide +kernel
set_option maxRecDepth 100000 in
theorem xck_176_1 : xchR 176 32 11 = true := by decide +kernel
set_option maxRecDepth 100000 in
theorem xck_176 : xckP 176 := by
  intro pc
  rcases Nat.lt_or_ge pc 32 with h0 | h0
  · exact xchR_use xck_176_0 (by omega) (by omega)
  rcases Nat.lt_or_ge pc 43 with h1 | h1
  · exact xchR_use xck_176_1 (by omega) (by omega)
  exact xchR_out (by rw [show (xkall.getD 176 []).length = 43 by decide +kernel]; omega)
set_option maxRecDepth 100000 in
theorem xck_177_0 : xchR 177 0 24 = true := by decide +kernel
set_option maxRecDepth 100000 in
theorem xck_177 : xckP 177 := by
  intro pc
  rcases Nat.lt_or_ge pc 24 with h0 | h0
  · exact xchR_use xck_177_0 (by omega) (by omega)
  exact xchR_out (by rw [show (xkall.getD 177 []).length = 24 by decide +kernel]; omega)
set_option maxRecDepth 100000 in
theorem xck_178_0 : xchR 178 0 36 = true := by decide +kernel
set_option maxRecDepth 100000 in
theorem xck_178_1 : xchR 178 36 34 = true := by decide +kernel
set_option maxRecDepth 100000 in
theorem xck_178_2 : xchR 178 70 12 = true := by decide +kernel
set_option maxRecDepth 100000 in
theorem xck_178 : xckP 178 := by
  intro pc
  rcases Nat.lt_or_ge pc 36 with h0 | h0
  · exact xchR_use xck_178_0 (by omega) (by omega)
  rcases Nat.lt_or_ge pc 70 with h1 | h1
  · exact xchR_use xck_178_1 (by omega) (by omega)
  rcases Nat.lt_or_ge pc 82 with h2 | h2
  · exact xchR_use xck_178_2 (by omega) (by omega)
  exact xchR_out (by rw [show (xkall.getD 178 []).length = 82 by decide +kernel]; omega)
set_option maxRecDepth 100000 in
theorem xck_179_0 : xchR 179 0 36 = true := by decide +kernel
set_option maxRecDepth 100000 in
theorem xck_179_1 : xchR 179 36 14 = true := by decide +kernel
set_option maxRecDepth 100000 in
theorem xck_179 : xckP 179 := by
  intro pc
  rcases Nat.lt_or_ge pc 36 with h0 | h0
  · exact xchR_use xck_179_0 (by omega) (by omega)
  rcases Nat.lt_or_ge pc 50 with h1 | h1
  · exact xchR_use xck_179_1 (by omega) (by omega)
  exact xchR_out (by rw [show (xkall.getD 179 []).length = 50 by decide +kernel]; omega)
set_option maxRecDepth 100000 in
theorem xck_180_0 : xchR 180 0 12 = true := by decide +kernel
set_option maxRecDepth 100000 in
theorem xck_180 : xckP 180 := by
  intro pc
  rcases Nat.lt_or_ge pc 12 with h0 | h0
  · exact xchR_use xck_180_0 (by omega) (by omega)
  exact xchR_out (by rw [show (xkall.getD 180 []).length = 12 by decide +kernel]; omega)
set_option maxRecDepth 100000 in
theorem xck_181_0 : xchR 181 0 19 = true := by decide +kernel
set_option maxRecDepth 100000 in
theorem xck_181 : xckP 181 := by
  intro pc
  rcases Nat.lt_or_ge pc 19 with h0 | h0
  · exact xchR_use xck_181_0 (by omega) (by omega)
  exact xchR_out (by rw [show (xkall.getD 181 []).length = 19 by decide +kernel]; omega)
set_option maxRecDepth 100000 in
theorem xck_182_0 : xchR 182 0 28 = true := by decide +kernel
set_option maxRecDepth 100000 in
theorem xck_182 : xckP 182 := by
  intro pc
  rcases Nat.lt_or_ge pc 28 with h0 | h0
  · exact xchR_use xck_182_0 (by omega) (by omega)
  exact xchR_out (by rw [show (xkall.getD 182 []).length = 28 by decide +kernel]; omega)
set_option maxRecDepth 100000 in
theorem xck_183_0 : xchR 183 0 30 = true := by decide +kernel
set_option maxRecDepth 100000 in
theorem xck_183_1 : xchR 183 30 39 = true := by decide +kernel
set_option maxRecDepth 100000 in
theorem xck_183_2 : xchR 183 69 12 = true := by decide +kernel
set_option maxRecDepth 100000 in
theorem xck_183 : xckP 183 := by
  intro pc
  rcases Nat.lt_or_ge pc 30 with h0 | h0
  · exact xchR_use xck_183_0 (by omega) (by omega)
  rcases Nat.lt_or_ge pc 69 with h1 | h1
  · exact xchR_use xck_183_1 (by omega) (by omega)
  rcases Nat.lt_or_ge pc 81 with h2 | h2
  · exact xchR_use xck_183_2 (by omega) (by omega)
  exact xchR_out (by rw [show (xkall.getD 183 []).length = 81 by decide +kernel]; omega)
set_option maxRecDepth 100000 in
theorem xck_184_0 : xchR 184 0 31 = true := by decide +kernel
set_option maxRecDepth 100000 in
theorem xck_184 : xckP 184 := by
  intro pc
  rcases Nat.lt_or_ge pc 31 with h0 | h0
  · exact xchR_use xck_184_0 (by omega) (by omega)
  exact xchR_out (by rw [show (xkall.getD 184 []).length = 31 by decide +kernel]; omega)
set_option maxRecDepth 100000 in
theorem xck_185_0 : xchR 185 0 27 = true := by decide +kernel
set_option maxRecDepth 100000 in
theorem xck_185 : xckP 185 := by
  intro pc
  rcases Nat.lt_or_ge pc 27 with h0 | h0
  · exact xchR_use xck_185_0 (by omega) (by omega)
  exact xchR_out (by rw [show (xkall.getD 185 []).length = 27 by decide +kernel]; omega)
set_option maxRecDepth 100000 in
theorem xck_186_0 : xchR 186 0 114 = true := by decide +kernel
set_option maxRecDepth 100000 in
theorem xck_186_1 : xchR 186 114 22 = true := by decide +kernel
set_option maxRecDepth 100000 in
theorem xck_186 : xckP 186 := by
  intro pc
  rcases Nat.lt_or_ge pc 114 with h0 | h0
  · exact xchR_use xck_186_0 (by omega) (by omega)
  rcases Nat.lt_or_ge pc 136 with h1 | h1
  · exact xchR_use xck_186_1 (by omega) (by omega)
  exact xchR_out (by rw [show (xkall.getD 186 []).length = 136 by decide +kernel]; omega)
set_option maxRecDepth 100000 in
theorem xck_187_0 : xchR 187 0 34 = true := by decide +kernel
set_option maxRecDepth 100000 in
theorem xck_187_1 : xchR 187 34 38 = true := by decide +kernel
set_option maxRecDepth 100000 in
theorem xck_187_2 : xchR 187 72 17 = true := by decide +kernel
set_option maxRecDepth 100000 in
theorem xck_187 : xckP 187 := by
  intro pc
  rcases Nat.lt_or_ge pc 34 with h0 | h0
  · exact xchR_use xck_187_0 (by omega) (by omega)
  rcases Nat.lt_or_ge pc 72 with h1 | h1
  · exact xchR_use xck_187_1 (by omega) (by omega)
  rcases Nat.lt_or_ge pc 89 with h2 | h2
  · exact xchR_use xck_187_2 (by omega) (by omega)
  exact xchR_out (by rw [show (xkall.getD 187 []).length = 89 by decide +kernel]; omega)
set_option maxRecDepth 100000 in
theorem xck_188_0 : xchR 188 0 19 = true := by decide +kernel
set_option maxRecDepth 100000 in
theorem xck_188 : xckP 188 := by
  intro pc
  rcases Nat.lt_or_ge pc 19 with h0 | h0
  · exact xchR_use xck_188_0 (by omega) (by omega)
  exact xchR_out (by rw [show (xkall.getD 188 []).length = 19 by decide +kernel]; omega)
set_option maxRecDepth 100000 in
theorem xck_189_0 : xchR 189 0 80 = true := by decide +kernel
set_option maxRecDepth 100000 in
theorem xck_189_1 : xchR 189 80 33 = true := by decide +kernel
set_option maxRecDepth 100000 in
theorem xck_189_2 : xchR 189 113 28 = true := by decide +kernel
set_option maxRecDepth 100000 in
theorem xck_189 : xckP 189 := by
  intro pc
  rcases Nat.lt_or_ge pc 80 with h0 | h0
  · exact xchR_use xck_189_0 (by omega) (by omega)
  rcases Nat.lt_or_ge pc 113 with h1 | h1
  · exact xchR_use xck_189_1 (by omega) (by omega)
  rcases Nat.lt_or_ge pc 141 with h2 | h2
  · exact xchR_use xck_189_2 (by omega) (by omega)
  exact xchR_out (by rw [show (xkall.getD 189 []).length = 141 by decide +kernel]; omega)
set_option maxRecDepth 100000 in
theorem xck_190_0 : xchR 190 0 116 = true := by decide +kernel
set_option maxRecDepth 100000 in
theorem xck_190_1 : xchR 190 116 29 = true := by decide +kernel
set_option maxRecDepth 100000 in
theorem xck_190_2 : xchR 190 145 15 = true := by decide +kernel
set_option maxRecDepth 100000 in
theorem xck_190 : xckP 190 := by
  intro pc
  rcases Nat.lt_or_ge pc 116 with h0 | h0
  · exact xchR_use xck_190_0 (by omega) (by omega)
  rcases Nat.lt_or_ge pc 145 with h1 | h1
  · exact xchR_use xck_190_1 (by omega) (by omega)
  rcases Nat.lt_or_ge pc 160 with h2 | h2
  · exact xchR_use xck_190_2 (by omega) (by omega)
  exact xchR_out (by rw [show (xkall.getD 190 []).length = 160 by decide +kernel]; omega)
set_option maxRecDepth 100000 in
theorem xck_191_0 : xchR 191 0 34 = true := by decide +kernel
set_option maxRecDepth 100000 in
theorem xck_191_1 : xchR 191 34 34 = true := by decide +kernel
set_option maxRecDepth 100000 in
theorem xck_191_2 : xchR 191 68 31 = true := by decide +kernel
set_option maxRecDepth 100000 in
theorem xck_191 : xckP 191 := by
  intro pc
  rcases Nat.lt_or_ge pc 34 with h0 | h0
  · exact xchR_use xck_191_0 (by omega) (by omega)
  rcases Nat.lt_or_ge pc 68 with h1 | h1
  · exact xchR_use xck_191_1 (by omega) (by omega)
  rcases Nat.lt_or_ge pc 99 with h2 | h2
  · exact xchR_use xck_191_2 (by omega) (by omega)
  exact xchR_out (by rw [show (xkall.getD 191 []).length = 99 by decide +kernel]; omega)
set_option maxRecDepth 100000 in
theorem xck_192_0 : xchR 192 0 32 = true := by decide +kernel
set_option maxRecDepth 100000 in
theorem xck_192 : xckP 192 := by
  intro pc
  rcases Nat.lt_or_ge pc 32 with h0 | h0
  · exact xchR_use xck_192_0 (by omega) (by omega)
  exact xchR_out (by rw [show (xkall.getD 192 []).length = 32 by decide +kernel]; omega)
set_option maxRecDepth 100000 in
theorem xck_193_0 : xchR 193 0 33 = true := by decide +kernel
set_option maxRecDepth 100000 in
theorem xck_193_1 : xchR 193 33 43 = true := by decide +kernel
set_option maxRecDepth 100000 in
theorem xck_193_2 : xchR 193 76 16 = true := by decide +kernel
set_option maxRecDepth 100000 in
theorem xck_193 : xckP 193 := by
  intro pc
  rcases Nat.lt_or_ge pc 33 with h0 | h0
  · exact xchR_use xck_193_0 (by omega) (by omega)
  rcases Nat.lt_or_ge pc 76 with h1 | h1
  · exact xchR_use xck_193_1 (by omega) (by omega)
  rcases Nat.lt_or_ge pc 92 with h2 | h2
  · exact xchR_use xck_193_2 (by omega) (by omega)
  exact xchR_out (by rw [show (xkall.getD 193 []).length = 92 by decide +kernel]; omega)
set_option maxRecDepth 100000 in
theorem xck_194_0 : xchR 194 0 64 = true := by decide +kernel
set_option maxRecDepth 100000 in
theorem xck_194_1 : xchR 194 64 28 = true := by decide +kernel
set_option maxRecDepth 100000 in
theorem xck_194 : xckP 194 := by
  intro pc
  rcases Nat.lt_or_ge pc 64 with h0 | h0
  · exact xchR_use xck_194_0 (by omega) (by omega)
  rcases Nat.lt_or_ge pc 92 with h1 | h1
  · exact xchR_use xck_194_1 (by omega) (by omega)
  exact xchR_out (by rw [show (xkall.getD 194 []).length = 92 by decide +kernel]; omega)
set_option maxRecDepth 100000 in
theorem xck_195_0 : xchR 195 0 36 = true := by decide +kernel
set_option maxRecDepth 100000 in
theorem xck_195_1 : xchR 195 36 24 = true := by decide +kernel
set_option maxRecDepth 100000 in
theorem xck_195 : xckP 195 := by
  intro pc
  rcases Nat.lt_or_ge pc 36 with h0 | h0
  · exact xchR_use xck_195_0 (by omega) (by omega)
  rcases Nat.lt_or_ge pc 60 with h1 | h1
  · exact xchR_use xck_195_1 (by omega) (by omega)
  exact xchR_out (by rw [show (xkall.getD 195 []).length = 60 by decide +kernel]; omega)
set_option maxRecDepth 100000 in
theorem xck_196_0 : xchR 196 0 33 = true := by decide +kernel
set_option maxRecDepth 100000 in
theorem xck_196_1 : xchR 196 33 22 = true := by decide +kernel
set_option maxRecDepth 100000 in
theorem xck_196 : xckP 196 := by
  intro pc
  rcases Nat.lt_or_ge pc 33 with h0 | h0
  · exact xchR_use xck_196_0 (by omega) (by omega)
  rcases Nat.lt_or_ge pc 55 with h1 | h1
  · exact xchR_use xck_196_1 (by omega) (by omega)
  exact xchR_out (by rw [show (xkall.getD 196 []).length = 55 by decide +kernel]; omega)
set_option maxRecDepth 100000 in
theorem xck_197_0 : xchR 197 0 34 = true := by decide +kernel
set_option maxRecDepth 100000 in
theorem xck_197 : xckP 197 := by
  intro pc
  rcases Nat.lt_or_ge pc 34 with h0 | h0
  · exact xchR_use xck_197_0 (by omega) (by omega)
  exact xchR_out (by rw [show (xkall.getD 197 []).length = 34 by decide +kernel]; omega)
set_option maxRecDepth 100000 in
theorem xck_198_0 : xchR 198 0 31 = true := by decide +kernel
set_option maxRecDepth 100000 in
theorem xck_198 : xckP 198 := by
  intro pc
  rcases Nat.lt_or_ge pc 31 with h0 | h0
  · exact xchR_use xck_198_0 (by omega) (by omega)
  exact xchR_out (by rw [show (xkall.getD 198 []).length = 31 by decide +kernel]; omega)
set_option maxRecDepth 100000 in
theorem xck_199_0 : xchR 199 0 12 = true := by decide +kernel
set_option maxRecDepth 100000 in
theorem xck_199 : xckP 199 := by
  intro pc
  rcases Nat.lt_or_ge pc 12 with h0 | h0
  · exact xchR_use xck_199_0 (by omega) (by omega)
  exact xchR_out (by rw [show (xkall.getD 199 []).length = 12 by decide +kernel]; omega)
set_option maxRecDepth 100000 in
theorem xck_200_0 : xchR 200 0 35 = true := by decide +kernel
set_option maxRecDepth 100000 in
theorem xck_200 : xckP 200 := by
  intro pc
  rcases Nat.lt_or_ge pc 35 with h0 | h0
  · exact xchR_use xck_200_0 (by omega) (by omega)
  exact xchR_out (by rw [show (xkall.getD 200 []).length = 35 by decide +kernel]; omega)
set_option maxRecDepth 100000 in
theorem xck_201_0 : xchR 201 0 35 = true := by decide +kernel
set_option maxRecDepth 100000 in
theorem xck_201_1 : xchR 201 35 37 = true := by decide +kernel
set_option maxRecDepth 100000 in
theorem xck_201_2 : xchR 201 72 44 = true := by decide +kernel
set_option maxRecDepth 100000 in
theorem xck_201_3 : xchR 201 116 33 = true := by decide +kernel
set_option maxRecDepth 100000 in
theorem xck_201 : xckP 201 := by
  intro pc
  rcases Nat.lt_or_ge pc 35 with h0 | h0
  · exact xchR_use xck_201_0 (by omega) (by omega)
  rcases Nat.lt_or_ge pc 72 with h1 | h1
  · exact xchR_use xck_201_1 (by omega) (by omega)
  rcases Nat.lt_or_ge pc 116 with h2 | h2
  · exact xchR_use xck_201_2 (by omega) (by omega)
  rcases Nat.lt_or_ge pc 149 with h3 | h3
  · exact xchR_use xck_201_3 (by omega) (by omega)
  exact xchR_out (by rw [show (xkall.getD 201 []).length = 149 by decide +kernel]; omega)
set_option maxRecDepth 100000 in
theorem xck_202_0 : xchR 202 0 35 = true := by decide +kernel
set_option maxRecDepth 100000 in
theorem xck_202_1 : xchR 202 35 10 = true := by decide +kernel
set_option maxRecDepth 100000 in
theorem xck_202 : xckP 202 := by
  intro pc
  rcases Nat.lt_or_ge pc 35 with h0 | h0
  · exact xchR_use xck_202_0 (by omega) (by omega)
  rcases Nat.lt_or_ge pc 45 with h1 | h1
  · exact xchR_use xck_202_1 (by omega) (by omega)
  exact xchR_out (by rw [show (xkall.getD 202 []).length = 45 by decide +kernel]; omega)
set_option maxRecDepth 100000 in
theorem xck_203_0 : xchR 203 0 34 = true := by decide +kernel
set_option maxRecDepth 100000 in
theorem xck_203_1 : xchR 203 34 38 = true := by decide +kernel
set_option maxRecDepth 100000 in
theorem xck_203_2 : xchR 203 72 1 = true := by decide +kernel
set_option maxRecDepth 100000 in
theorem xck_203 : xckP 203 := by
  intro pc
  rcases Nat.lt_or_ge pc 34 with h0 | h0
  · exact xchR_use xck_203_0 (by omega) (by omega)
  rcases Nat.lt_or_ge pc 72 with h1 | h1
  · exact xchR_use xck_203_1 (by omega) (by omega)
  rcases Nat.lt_or_ge pc 73 with h2 | h2
  · exact xchR_use xck_203_2 (by omega) (by omega)
  exact xchR_out (by rw [show (xkall.getD 203 []).length = 73 by decide +kernel]; omega)
set_option maxRecDepth 100000 in
theorem xck_204_0 : xchR 204 0 30 = true := by decide +kernel
set_option maxRecDepth 100000 in
theorem xck_204_1 : xchR 204 30 35 = true := by decide +kernel
set_option maxRecDepth 100000 in
theorem xck_204_2 : xchR 204 65 11 = true := by decide +kernel
set_option maxRecDepth 100000 in
theorem xck_204 : xckP 204 := by
  intro pc
  rcases Nat.lt_or_ge pc 30 with h0 | h0
  · exact xchR_use xck_204_0 (by omega) (by omega)
  rcases Nat.lt_or_ge pc 65 with h1 | h1
  · exact xchR_use xck_204_1 (by omega) (by omega)
  rcases Nat.lt_or_ge pc 76 with h2 | h2
  · exact xchR_use xck_204_2 (by omega) (by omega)
  exact xchR_out (by rw [show (xkall.getD 204 []).length = 76 by decide +kernel]; omega)
set_option maxRecDepth 100000 in
theorem xck_205_0 : xchR 205 0 34 = true := by decide +kernel
set_option maxRecDepth 100000 in
theorem xck_205_1 : xchR 205 34 23 = true := by decide +kernel
set_option maxRecDepth 100000 in
theorem xck_205 : xckP 205 := by
  intro pc
  rcases Nat.lt_or_ge pc 34 with h0 | h0
  · exact xchR_use xck_205_0 (by omega) (by omega)
  rcases Nat.lt_or_ge pc 57 with h1 | h1
  · exact xchR_use xck_205_1 (by omega) (by omega)
  exact xchR_out (by rw [show (xkall.getD 205 []).length = 57 by decide +kernel]; omega)
set_option maxRecDepth 100000 in
theorem xck_206_0 : xchR 206 0 35 = true := by decide +kernel
set_option maxRecDepth 100000 in
theorem xck_206_1 : xchR 206 35 31 = true := by decide +kernel
set_option maxRecDepth 100000 in
theorem xck_206_2 : xchR 206 66 2 = true := by decide +kernel
set_option maxRecDepth 100000 in
theorem xck_206 : xckP 206 := by
  intro pc
  rcases Nat.lt_or_ge pc 35 with h0 | h0
  · exact xchR_use xck_206_0 (by omega) (by omega)
  rcases Nat.lt_or_ge pc 66 with h1 | h1
  · exact xchR_use xck_206_1 (by omega) (by omega)
  rcases Nat.lt_or_ge pc 68 with h2 | h2
  · exact xchR_use xck_206_2 (by omega) (by omega)
  exact xchR_out (by rw [show (xkall.getD 206 []).length = 68 by decide +kernel]; omega)
set_option maxRecDepth 100000 in
theorem xck_207_0 : xchR 207 0 35 = true := by decide +kernel
set_option maxRecDepth 100000 in
theorem xck_207_1 : xchR 207 35 23 = true := by decide +kernel
set_option maxRecDepth 100000 in
theorem xck_207 : xckP 207 := by
  intro pc
  rcases Nat.lt_or_ge pc 35 with h0 | h0
  · exact xchR_use xck_207_0 (by omega) (by omega)
  rcases Nat.lt_or_ge pc 58 with h1 | h1
  · exact xchR_use xck_207_1 (by omega) (by omega)
  exact xchR_out (by rw [show (xkall.getD 207 []).length = 58 by decide +kernel]; omega)
set_option maxRecDepth 100000 in
theorem xck_208_0 : xchR 208 0 112 = true := by decide +kernel
set_option maxRecDepth 100000 in
theorem xck_208_1 : xchR 208 112 36 = true := by decide +kernel
set_option maxRecDepth 100000 in
theorem xck_208_2 : xchR 208 148 34 = true := by decide +kernel
set_option maxRecDepth 100000 in
theorem xck_208_3 : xchR 208 182 30 = true := by decide +kernel
set_option maxRecDepth 100000 in
theorem xck_208_4 : xchR 208 212 1 = true := by decide +kernel
set_option maxRecDepth 100000 in
theorem xck_208 : xckP 208 := by
  intro pc
  rcases Nat.lt_or_ge pc 112 with h0 | h0
  · exact xchR_use xck_208_0 (by omega) (by omega)
  rcases Nat.lt_or_ge pc 148 with h1 | h1
  · exact xchR_use xck_208_1 (by omega) (by omega)
  rcases Nat.lt_or_ge pc 182 with h2 | h2
  · exact xchR_use xck_208_2 (by omega) (by omega)
  rcases Nat.lt_or_ge pc 212 with h3 | h3
  · exact xchR_use xck_208_3 (by omega) (by omega)
  rcases Nat.lt_or_ge pc 213 with h4 | h4
  · exact xchR_use xck_208_4 (by omega) (by omega)
  exact xchR_out (by rw [show (xkall.getD 208 []).length = 213 by decide +kernel]; omega)
set_option maxRecDepth 100000 in
theorem xck_209_0 : xchR 209 0 30 = true := by decide +kernel
set_option maxRecDepth 100000 in
theorem xck_209 : xckP 209 := by
  intro pc
  rcases Nat.lt_or_ge pc 30 with h0 | h0
  · exact xchR_use xck_209_0 (by omega) (by omega)
  exact xchR_out (by rw [show (xkall.getD 209 []).length = 30 by decide +kernel]; omega)
set_option maxRecDepth 100000 in
theorem xck_210_0 : xchR 210 0 33 = true := by decide +kernel
set_option maxRecDepth 100000 in
theorem xck_210 : xckP 210 := by
  intro pc
  rcases Nat.lt_or_ge pc 33 with h0 | h0
  · exact xchR_use xck_210_0 (by omega) (by omega)
  exact xchR_out (by rw [show (xkall.getD 210 []).length = 33 by decide +kernel]; omega)
set_option maxRecDepth 100000 in
theorem xck_211_0 : xchR 211 0 33 = true := by decide +kernel
set_option maxRecDepth 100000 in
theorem xck_211_1 : xchR 211 33 20 = true := by decide +kernel
set_option maxRecDepth 100000 in
theorem xck_211 : xckP 211 := by
  intro pc
  rcases Nat.lt_or_ge pc 33 with h0 | h0
  · exact xchR_use xck_211_0 (by omega) (by omega)
  rcases Nat.lt_or_ge pc 53 with h1 | h1
  · exact xchR_use xck_211_1 (by omega) (by omega)
  exact xchR_out (by rw [show (xkall.getD 211 []).length = 53 by decide +kernel]; omega)
set_option maxRecDepth 100000 in
theorem xck_212_0 : xchR 212 0 35 = true := by decide +kernel
set_option maxRecDepth 100000 in
theorem xck_212_1 : xchR 212 35 27 = true := by decide +kernel
set_option maxRecDepth 100000 in
theorem xck_212 : xckP 212 := by
  intro pc
  rcases Nat.lt_or_ge pc 35 with h0 | h0
  · exact xchR_use xck_212_0 (by omega) (by omega)
  rcases Nat.lt_or_ge pc 62 with h1 | h1
  · exact xchR_use xck_212_1 (by omega) (by omega)
  exact xchR_out (by rw [show (xkall.getD 212 []).length = 62 by decide +kernel]; omega)
set_option maxRecDepth 100000 in
theorem xck_213_0 : xchR 213 0 36 = true := by decide +kernel
set_option maxRecDepth 100000 in
theorem xck_213_1 : xchR 213 36 1 = true := by decide +kernel
set_option maxRecDepth 100000 in
theorem xck_213 : xckP 213 := by
  intro pc
  rcases Nat.lt_or_ge pc 36 with h0 | h0
  · exact xchR_use xck_213_0 (by omega) (by omega)
  rcases Nat.lt_or_ge pc 37 with h1 | h1
  · exact xchR_use xck_213_1 (by omega) (by omega)
  exact xchR_out (by rw [show (xkall.getD 213 []).length = 37 by decide +kernel]; omega)
set_option maxRecDepth 100000 in
theorem xck_214_0 : xchR 214 0 20 = true := by decide +kernel
set_option maxRecDepth 100000 in
theorem xck_214 : xckP 214 := by
  intro pc
  rcases Nat.lt_or_ge pc 20 with h0 | h0
  · exact xchR_use xck_214_0 (by omega) (by omega)
  exact xchR_out (by rw [show (xkall.getD 214 []).length = 20 by decide +kernel]; omega)
set_option maxRecDepth 100000 in
theorem xck_215_0 : xchR 215 0 31 = true := by decide +kernel
set_option maxRecDepth 100000 in
theorem xck_215_1 : xchR 215 31 37 = true := by decide +kernel
set_option maxRecDepth 100000 in
theorem xck_215_2 : xchR 215 68 5 = true := by decide +kernel
set_option maxRecDepth 100000 in
theorem xck_215 : xckP 215 := by
  intro pc
  rcases Nat.lt_or_ge pc 31 with h0 | h0
  · exact xchR_use xck_215_0 (by omega) (by omega)
  rcases Nat.lt_or_ge pc 68 with h1 | h1
  · exact xchR_use xck_215_1 (by omega) (by omega)
  rcases Nat.lt_or_ge pc 73 with h2 | h2
  · exact xchR_use xck_215_2 (by omega) (by omega)
  exact xchR_out (by rw [show (xkall.getD 215 []).length = 73 by decide +kernel]; omega)
set_option maxRecDepth 100000 in
theorem xck_216_0 : xchR 216 0 34 = true := by decide +kernel
set_option maxRecDepth 100000 in
theorem xck_216_1 : xchR 216 34 20 = true := by decide +kernel
set_option maxRecDepth 100000 in
theorem xck_216 : xckP 216 := by
  intro pc
  rcases Nat.lt_or_ge pc 34 with h0 | h0
  · exact xchR_use xck_216_0 (by omega) (by omega)
  rcases Nat.lt_or_ge pc 54 with h1 | h1
  · exact xchR_use xck_216_1 (by omega) (by omega)
  exact xchR_out (by rw [show (xkall.getD 216 []).length = 54 by decide +kernel]; omega)
set_option maxRecDepth 100000 in
theorem xck_217_0 : xchR 217 0 35 = true := by decide +kernel
set_option maxRecDepth 100000 in
theorem xck_217_1 : xchR 217 35 33 = true := by decide +kernel
set_option maxRecDepth 100000 in
theorem xck_217_2 : xchR 217 68 21 = true := by decide +kernel
set_option maxRecDepth 100000 in
theorem xck_217 : xckP 217 := by
  intro pc
  rcases Nat.lt_or_ge pc 35 with h0 | h0
  · exact xchR_use xck_217_0 (by omega) (by omega)
  rcases Nat.lt_or_ge pc 68 with h1 | h1
  · exact xchR_use xck_217_1 (by omega) (by omega)
  rcases Nat.lt_or_ge pc 89 with h2 | h2
  · exact xchR_use xck_217_2 (by omega) (by omega)
  exact xchR_out (by rw [show (xkall.getD 217 []).length = 89 by decide +kernel]; omega)
set_option maxRecDepth 100000 in
theorem xck_218_0 : xchR 218 0 35 = true := by decide +kernel
set_option maxRecDepth 100000 in
theorem xck_218_1 : xchR 218 35 26 = true := by decide +kernel
set_option maxRecDepth 100000 in
theorem xck_218 : xckP 218 := by
  intro pc
  rcases Nat.lt_or_ge pc 35 with h0 | h0
  · exact xchR_use xck_218_0 (by omega) (by omega)
  rcases Nat.lt_or_ge pc 61 with h1 | h1
  · exact xchR_use xck_218_1 (by omega) (by omega)
  exact xchR_out (by rw [show (xkall.getD 218 []).length = 61 by decide +kernel]; omega)
set_option maxRecDepth 100000 in
theorem xck_219_0 : xchR 219 0 34 = true := by decide +kernel
set_option maxRecDepth 100000 in
theorem xck_219_1 : xchR 219 34 4 = true := by decide +kernel
set_option maxRecDepth 100000 in
theorem xck_219 : xckP 219 := by
  intro pc
  rcases Nat.lt_or_ge pc 34 with h0 | h0
  · exact xchR_use xck_219_0 (by omega) (by omega)
  rcases Nat.lt_or_ge pc 38 with h1 | h1
  · exact xchR_use xck_219_1 (by omega) (by omega)
  exact xchR_out (by rw [show (xkall.getD 219 []).length = 38 by decide +kernel]; omega)
set_option maxRecDepth 100000 in
theorem xck_220_0 : xchR 220 0 35 = true := by decide +kernel
set_option maxRecDepth 100000 in
theorem xck_220_1 : xchR 220 35 12 = true := by decide +kernel
set_option maxRecDepth 100000 in
theorem xck_220 : xckP 220 := by
  intro pc
  rcases Nat.lt_or_ge pc 35 with h0 | h0
  · exact xchR_use xck_220_0 (by omega) (by omega)
  rcases Nat.lt_or_ge pc 47 with h1 | h1
  · exact xchR_use xck_220_1 (by omega) (by omega)
  exact xchR_out (by rw [show (xkall.getD 220 []).length = 47 by decide +kernel]; omega)
