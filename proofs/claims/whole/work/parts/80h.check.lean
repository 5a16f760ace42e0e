set_option maxRecDepth 100000 in
theorem xck_221_0 : xchR 221 0 31 = true := by decide +kernel
set_option maxRecDepth 100000 in
theorem xck_221_1 : xchR 221 31 183 = true := by decide +kernel
set_option maxRecDepth 100000 in
theorem xck_221_2 : xchR 221 214 24 = true := by decide +kernel
set_option maxRecDepth 100000 in
theorem xck_221_3 : xchR 221 238 26 = true := by decide +kernel
set_option maxRecDepth 100000 in
theorem xck_221_4 : xchR 221 264 36 = true := by decide +kernel
set_option maxRecDepth 100000 in
theorem xck_221_5 : xchR 221 300 28 = true := by decide +kernel
set_option maxRecDepth 100000 in
theorem xck_221_6 : xchR 221 328 26 = true := by decide +kernel
set_option maxRecDepth 100000 in
theorem xck_221_7 : xchR 221 354 26 = true := by decide +kernel
set_option maxRecDepth 100000 in
theorem xck_221_8 : xchR 221 380 30 = true := by decide +kernel
set_option maxRecDepth 100000 in
theorem xck_221_9 : xchR 221 410 32 = true := by decide +kernel
set_option maxRecDepth 100000 in
theorem xck_221_10 : xchR 221 442 26 = true := by decide +kernel
set_option maxRecDepth 100000 in
theorem xck_221_11 : xchR 221 468 22 = true := by decide +kernel
set_option maxRecDepth 100000 in
theorem xck_221_12 : xchR 221 490 24 = true := by decide +kernel
set_option maxRecDepth 100000 in
theorem xck_221_13 : xchR 221 514 26 = true := by decide +kernel
set_option maxRecDepth 100000 in
theorem xck_221_14 : xchR 221 540 22 = true := by decide +kernel
set_option maxRecDepth 100000 in
theorem xck_221_15 : xchR 221 562 26 = true := by decide +kernel
set_option maxRecDepth 100000 in
theorem xck_221_16 : xchR 221 588 30 = true := by decide +kernel
set_option maxRecDepth 100000 in
theorem xck_221_17 : xchR 221 618 32 = true := by decide +kernel
set_option maxRecDepth 100000 in
theorem xck_221_18 : xchR 221 650 33 = true := by decide +kernel
set_option maxRecDepth 100000 in
theorem xck_221_19 : xchR 221 683 39 = true := by decide +kernel
set_option maxRecDepth 100000 in
theorem xck_221_20 : xchR 221 722 28 = true := by decide +kernel
set_option maxRecDepth 100000 in
theorem xck_221_21 : xchR 221 750 30 = true := by decide +kernel
set_option maxRecDepth 100000 in
theorem xck_221_22 : xchR 221 780 26 = true := by decide +kernel
set_option maxRecDepth 100000 in
theorem xck_221_23 : xchR 221 806 30 = true := by decide +kernel
set_option maxRecDepth 100000 in
theorem xck_221_24 : xchR 221 836 38 = true := by decide +kernel
set_option maxRecDepth 100000 in
theorem xck_221_25 : xchR 221 874 1 = true := by decide +kernel
set_option maxRecDepth 100000 in
theorem xck_221 : xckP 221 := by
  intro pc
  rcases Nat.lt_or_ge pc 31 with h0 | h0
  · exact xchR_use xck_221_0 (by omega) (by omega)
  rcases Nat.lt_or_ge pc 214 with h1 | h1
  · exact xchR_use xck_221_1 (by omega) (by omega)
  rcases Nat.lt_or_ge pc 238 with h2 | h2
  · exact xchR_use xck_221_2 (by omega) (by omega)
  rcases Nat.lt_or_ge pc 264 with h3 | h3
  · exact xchR_use xck_221_3 (by omega) (by omega)
  rcases Nat.lt_or_ge pc 300 with h4 | h4
  · exact xchR_use xck_221_4 (by omega) (by omega)
  rcases Nat.lt_or_ge pc 328 with h5 | h5
  · exact xchR_use xck_221_5 (by omega) (by omega)
  rcases Nat.lt_or_ge pc 354 with h6 | h6
  · exact xchR_use xck_221_6 (by omega) (by omega)
  rcases Nat.lt_or_ge pc 380 with h7 | h7
  · exact xchR_use xck_221_7 (by omega) (by omega)
  rcases Nat.lt_or_ge pc 410 with h8 | h8
  · exact xchR_use xck_221_8 (by omega) (by omega)
  rcases Nat.lt_or_ge pc 442 with h9 | h9
  · exact xchR_use xck_221_9 (by omega) (by omega)
  rcases Nat.lt_or_ge pc 468 with h10 | h10
  · exact xchR_use xck_221_10 (by omega) (by omega)
  rcases Nat.lt_or_ge pc 490 with h11 | h11
  · exact xchR_use xck_221_11 (by omega) (by omega)
  rcases Nat.lt_or_ge pc 514 with h12 | h12
  · exact xchR_use xck_221_12 (by omega) (by omega)
  rcases Nat.lt_or_ge pc 540 with h13 | h13
  · exact xchR_use xck_221_13 (by omega) (by omega)
  rcases Nat.lt_or_ge pc 562 with h14 | h14
  · exact xchR_use xck_221_14 (by omega) (by omega)
  rcases Nat.lt_or_ge pc 588 with h15 | h15
  · exact xchR_use xck_221_15 (by omega) (by omega)
  rcases Nat.lt_or_ge pc 618 with h16 | h16
  · exact xchR_use xck_221_16 (by omega) (by omega)
  rcases Nat.lt_or_ge pc 650 with h17 | h17
  · exact xchR_use xck_221_17 (by omega) (by omega)
  rcases Nat.lt_or_ge pc 683 with h18 | h18
  · exact xchR_use xck_221_18 (by omega) (by omega)
  rcases Nat.lt_or_ge pc 722 with h19 | h19
  · exact xchR_use xck_221_19 (by omega) (by omega)
  rcases Nat.lt_or_ge pc 750 with h20 | h20
  · exact xchR_use xck_221_20 (by omega) (by omega)
  rcases Nat.lt_or_ge pc 780 with h21 | h21
  · exact xchR_use xck_221_21 (by omega) (by omega)
  rcases Nat.lt_or_ge pc 806 with h22 | h22
  · exact xchR_use xck_221_22 (by omega) (by omega)
  rcases Nat.lt_or_ge pc 836 with h23 | h23
  · exact xchR_use xck_221_23 (by omega) (by omega)
  rcases Nat.lt_or_ge pc 874 with h24 | h24
  · exact xchR_use xck_221_24 (by omega) (by omega)
  rcases Nat.lt_or_ge pc 875 with h25 | h25
  · exact xchR_use xck_221_25 (by omega) (by omega)
  exact xchR_out (by rw [show (xkall.getD 221 []).length = 875 by decide +kernel]; omega)
theorem xck_to_30 : ∀ a, a < 30 → xckP a := (lt_s (lt_s (lt_s (lt_s (lt_s (lt_s (lt_s (lt_s (lt_s (lt_s (lt_s (lt_s (lt_s (lt_s (lt_s (lt_s (lt_s (lt_s (lt_s (lt_s (lt_s (lt_s (lt_s (lt_s (lt_s (lt_s (lt_s (lt_s (lt_s (lt_s lt_0 xck_0) xck_1) xck_2) xck_3) xck_4) xck_5) xck_6) xck_7) xck_8) xck_9) xck_10) xck_11) xck_12) xck_13) xck_14) xck_15) xck_16) xck_17) xck_18) xck_19) xck_20) xck_21) xck_22) xck_23) xck_24) xck_25) xck_26) xck_27) xck_28) xck_29)
theorem xck_to_60 : ∀ a, a < 60 → xckP a := (lt_s (lt_s (lt_s (lt_s (lt_s (lt_s (lt_s (lt_s (lt_s (lt_s (lt_s (lt_s (lt_s (lt_s (lt_s (lt_s (lt_s (lt_s (lt_s (lt_s (lt_s (lt_s (lt_s (lt_s (lt_s (lt_s (lt_s (lt_s (lt_s (lt_s xck_to_30 xck_30) xck_31) xck_32) xck_33) xck_34) xck_35) xck_36) xck_37) xck_38) xck_39) xck_40) xck_41) xck_42) xck_43) xck_44) xck_45) xck_46) xck_47) xck_48) xck_49) xck_50) xck_51) xck_52) xck_53) xck_54) xck_55) xck_56) xck_57) xck_58) xck_59)
theorem xck_to_90 : ∀ a, a < 90 → xckP a := (lt_s (lt_s (lt_s (lt_s (lt_s (lt_s (lt_s (lt_s (lt_s (lt_s (lt_s (lt_s (lt_s (lt_s (lt_s (lt_s (lt_s (lt_s (lt_s (lt_s (lt_s (lt_s (lt_s (lt_s (lt_s (lt_s (lt_s (lt_s (lt_s (lt_s xck_to_60 xck_60) xck_61) xck_62) xck_63) xck_64) xck_65) xck_66) xck_67) xck_68) xck_69) xck_70) xck_71) xck_72) xck_73) xck_74) xck_75) xck_76) xck_77) xck_78) xck_79) xck_80) xck_81) xck_82) xck_83) xck_84) xck_85) xck_86) xck_87) xck_88) xck_89)
theorem xck_to_120 : ∀ a, a < 120 → xckP a := (lt_s (lt_s (lt_s (lt_s (lt_s (lt_s (lt_s (lt_s (lt_s (lt_s (lt_s (lt_s (lt_s (lt_s (lt_s (lt_s (lt_s (lt_s (lt_s (lt_s (lt_s (lt_s (lt_s (lt_s (lt_s (lt_s (lt_s (lt_s (lt_s (lt_s xck_to_90 xck_90) xck_91) xck_92) xck_93) xck_94) xck_95) xck_96) xck_97) xck_98) xck_99) xck_100) xck_101) xck_102) xck_103) xck_104) xck_105) xck_106) xck_107) xck_108) xck_109) xck_110) xck_111) xck_112) xck_113) xck_114) xck_115) xck_116) xck_117) xck_118) xck_119)
theorem xck_to_150 : ∀ a, a < 150 → xckP a := (lt_s (lt_s (lt_s (lt_s (lt_s (lt_s (lt_s (lt_s (lt_s (lt_s (lt_s (lt_s (lt_s (lt_s (lt_s (lt_s (lt_s (lt_s (lt_s (lt_s (lt_s (lt_s (lt_s (lt_s (lt_s (lt_s (lt_s (lt_s (lt_s (lt_s xck_to_120 xck_120) xck_121) xck_122) xck_123) xck_124) xck_125) xck_126) xck_127) xck_128) xck_129) xck_130) xck_131) xck_132) xck_133) xck_134) xck_135) xck_136) xck_137) xck_138) xck_139) xck_140) xck_141) xck_142) xck_143) xck_144) xck_145) xck_146) xck_147) xck_148) xck_149)
theorem xck_to_180 : ∀ a, a < 180 → xckP a := (lt_s (lt_s (lt_s (lt_s (lt_s (lt_s (lt_s (lt_s (lt_s (lt_s (lt_s (lt_s (lt_s (lt_s (lt_s (lt_s (lt_s (lt_s (lt_s (lt_s (lt_s (lt_s (lt_s (lt_s (lt_s (lt_s (lt_s (lt_s (lt_s (lt_s xck_to_150 xck_150) xck_151) xck_152) xck_153) xck_154) xck_155) xck_156) xck_157) xck_158) xck_159) xck_160) xck_161) xck_162) xck_163) xck_164) xck_165) xck_166) xck_167) xck_168) xck_169) xck_170) xck_171) xck_172) xck_173) xck_174) xck_175) xck_176) xck_177) xck_178) xck_179)
theorem xck_to_210 : ∀ a, a < 210 → xckP a := (lt_s (lt_s (lt_s (lt_s (lt_s (lt_s (lt_s (lt_s (lt_s (lt_s (lt_s (lt_s (lt_s (lt_s (lt_s (lt_s (lt_s (lt_s (lt_s (lt_s (lt_s (lt_s (lt_s (lt_s (lt_s (lt_s (lt_s (lt_s (lt_s (lt_s xck_to_180 xck_180) xck_181) xck_182) xck_183) xck_184) xck_185) xck_186) xck_187) xck_188) xck_189) xck_190) xck_191) xck_192) xck_193) xck_194) xck_195) xck_196) xck_197) xck_198) xck_199) xck_200) xck_201) xck_202) xck_203) xck_204) xck_205) xck_206) xck_207) xck_208) xck_209)
theorem xck_to_222 : ∀ a, a < 222 → xckP a := (lt_s (lt_s (lt_s (lt_s (lt_s (lt_s (lt_s (lt_s (lt_s (lt_s (lt_s (lt_s xck_to_210 xck_210) xck_211) xck_212) xck_213) xck_214) xck_215) xck_216) xck_217) xck_218) xck_219) xck_220) xck_221)
theorem xck_all : ∀ a, a < 222 → xckP a := xck_to_222
