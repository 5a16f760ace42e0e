set_option maxRecDepth 100000 in
theorem xck_115_0 : xchR 115 0 42 = true := by decide +kernel
set_option maxRecDepth 100000 in
theorem xck_115_1 : xchR 115 42 37 = true := by decide +kernel
set_option maxRecDepth 100000 in
theorem xck_115_2 : xchR 115 79 36 = true := by decide +kernel
set_option maxRecDepth 100000 in
theorem xck_115_3 : xchR 115 115 38 = true := by decide +kernel
set_option maxRecDepth 100000 in
theorem xck_115_4 : xchR 115 153 34 = true := by decide +kernel
set_option maxRecDepth 100000 in
theorem xck_115_5 : xchR 115 187 39 = true := by decide +kernel
set_option maxRecDepth 100000 in
theorem xck_115_6 : xchR 115 226 37 = true := by decide +kernel
set_option maxRecDepth 100000 in
theorem xck_115_7 : xchR 115 263 36 = true := by decide +kernel
set_option maxRecDepth 100000 in
theorem xck_115_8 : xchR 115 299 28 = true := by decide +kernel
set_option maxRecDepth 100000 in
theorem xck_115 : xckP 115 := by
  intro pc
  rcases Nat.lt_or_ge pc 42 with h0 | h0
  · exact xchR_use xck_115_0 (by omega) (by omega)
  rcases Nat.lt_or_ge pc 79 with h1 | h1
  · exact xchR_use xck_115_1 (by omega) (by omega)
  rcases Nat.lt_or_ge pc 115 with h2 | h2
  · exact xchR_use xck_115_2 (by omega) (by omega)
  rcases Nat.lt_or_ge pc 153 with h3 | h3
  · exact xchR_use xck_115_3 (by omega) (by omega)
  rcases Nat.lt_or_ge pc 187 with h4 | h4
  · exact xchR_use xck_115_4 (by omega) (by omega)
  rcases Nat.lt_or_ge pc 226 with h5 | h5
  · exact xchR_use xck_115_5 (by omega) (by omega)
  rcases Nat.lt_or_ge pc 263 with h6 | h6
  · exact xchR_use xck_115_6 (by omega) (by omega)
  rcases Nat.lt_or_ge pc 299 with h7 | h7
  · exact xchR_use xck_115_7 (by omega) (by omega)
  rcases Nat.lt_or_ge pc 327 with h8 | h8
  · exact xchR_use xck_115_8 (by omega) (by omega)
  exact xchR_out (by rw [show (xkall.getD 115 []).length = 327 by decide +kernel]; omega)
theorem xck_to_30 : ∀ a, a < 30 → xckP a := (lt_s (lt_s (lt_s (lt_s (lt_s (lt_s (lt_s (lt_s (lt_s (lt_s (lt_s (lt_s (lt_s (lt_s (lt_s (lt_s (lt_s (lt_s (lt_s (lt_s (lt_s (lt_s (lt_s (lt_s (lt_s (lt_s (lt_s (lt_s (lt_s (lt_s lt_0 xck_0) xck_1) xck_2) xck_3) xck_4) xck_5) xck_6) xck_7) xck_8) xck_9) xck_10) xck_11) xck_12) xck_13) xck_14) xck_15) xck_16) xck_17) xck_18) xck_19) xck_20) xck_21) xck_22) xck_23) xck_24) xck_25) xck_26) xck_27) xck_28) xck_29)
theorem xck_to_60 : ∀ a, a < 60 → xckP a := (lt_s (lt_s (lt_s (lt_s (lt_s (lt_s (lt_s (lt_s (lt_s (lt_s (lt_s (lt_s (lt_s (lt_s (lt_s (lt_s (lt_s (lt_s (lt_s (lt_s (lt_s (lt_s (lt_s (lt_s (lt_s (lt_s (lt_s (lt_s (lt_s (lt_s xck_to_30 xck_30) xck_31) xck_32) xck_33) xck_34) xck_35) xck_36) xck_37) xck_38) xck_39) xck_40) xck_41) xck_42) xck_43) xck_44) xck_45) xck_46) xck_47) xck_48) xck_49) xck_50) xck_51) xck_52) xck_53) xck_54) xck_55) xck_56) xck_57) xck_58) xck_59)
theorem xck_to_90 : ∀ a, a < 90 → xckP a := (lt_s (lt_s (lt_s (lt_s (lt_s (lt_s (lt_s (lt_s (lt_s (lt_s (lt_s (lt_s (lt_s (lt_s (lt_s (lt_s (lt_s (lt_s (lt_s (lt_s (lt_s (lt_s (lt_s (lt_s (lt_s (lt_s (lt_s (lt_s (lt_s (lt_s xck_to_60 xck_60) xck_61) xck_62) xck_63) xck_64) xck_65) xck_66) xck_67) xck_68) xck_69) xck_70) xck_71) xck_72) xck_73) xck_74) xck_75) xck_76) xck_77) xck_78) xck_79) xck_80) xck_81) xck_82) xck_83) xck_84) xck_85) xck_86) xck_87) xck_88) xck_89)
theorem xck_to_116 : ∀ a, a < 116 → xckP a := (lt_s (lt_s (lt_s (lt_s (lt_s (lt_s (lt_s (lt_s (lt_s (lt_s (lt_s (lt_s (lt_s (lt_s (lt_s (lt_s (lt_s (lt_s (lt_s (lt_s (lt_s (lt_s (lt_s (lt_s (lt_s (lt_s xck_to_90 xck_90) xck_91) xck_92) xck_93) xck_94) xck_95) xck_96) xck_97) xck_98) xck_99) xck_100) xck_101) xck_102) xck_103) xck_104) xck_105) xck_106) xck_107) xck_108) xck_109) xck_110) xck_111) xck_112) xck_113) xck_114) xck_115)
theorem xck_all : ∀ a, a < 116 → xckP a := xck_to_116
