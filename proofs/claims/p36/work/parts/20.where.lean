/-! where the objects lie -/
theorem tgc_1 : Tg 1 = 10 := by decide +kernel
theorem prc_1_0 : Pr 1 0 = 2 := by decide +kernel
theorem prc_1_1 : Pr 1 1 = 26 := by decide +kernel
theorem prc_1_2 : Pr 1 2 = 50 := by decide +kernel
theorem prc_1_3 : Pr 1 3 = 172 := by decide +kernel
theorem prc_1_4 : Pr 1 4 = 174 := by decide +kernel
theorem prc_1_5 : Pr 1 5 = 175 := by decide +kernel
theorem prc_1_6 : Pr 1 6 = 176 := by decide +kernel
theorem prc_1_7 : Pr 1 7 = 177 := by decide +kernel
theorem tgc_2 : Tg 2 = 7 := by decide +kernel
theorem prc_2_0 : Pr 2 0 = 3 := by decide +kernel
theorem prc_2_1 : Pr 2 1 = 4 := by decide +kernel
theorem prc_2_2 : Pr 2 2 = 5 := by decide +kernel
theorem tgc_3 : Tg 3 = 100 := by decide +kernel
theorem zsc_3 : Zs 3 = 3 := by decide +kernel
theorem tgc_4 : Tg 4 = 104 := by decide +kernel
theorem zsc_4 : Zs 4 = 6 := by decide +kernel
theorem tgc_5 : Tg 5 = 8 := by decide +kernel
theorem prc_5_0 : Pr 5 0 = 6 := by decide +kernel
theorem tgc_6 : Tg 6 = 4 := by decide +kernel
theorem prc_6_0 : Pr 6 0 = 7 := by decide +kernel
theorem tgc_7 : Tg 7 = 100 := by decide +kernel
theorem zsc_7 : Zs 7 = 1728 := by decide +kernel
theorem tgc_26 : Tg 26 = 7 := by decide +kernel
theorem prc_26_0 : Pr 26 0 = 27 := by decide +kernel
theorem prc_26_1 : Pr 26 1 = 28 := by decide +kernel
theorem prc_26_2 : Pr 26 2 = 29 := by decide +kernel
theorem tgc_50 : Tg 50 = 2 := by decide +kernel
theorem prc_50_0 : Pr 50 0 = 51 := by decide +kernel
theorem tgc_51 : Tg 51 = 103 := by decide +kernel
theorem zsc_51 : Zs 51 = 5 := by decide +kernel
theorem tgc_172 : Tg 172 = 6 := by decide +kernel
theorem prc_172_0 : Pr 172 0 = 173 := by decide +kernel
theorem tgc_173 : Tg 173 = 102 := by decide +kernel
theorem zsc_173 : Zs 173 = 60 := by decide +kernel
theorem tgc_174 : Tg 174 = 5 := by decide +kernel
theorem tgc_175 : Tg 175 = 9 := by decide +kernel
theorem tgc_176 : Tg 176 = 1 := by decide +kernel
theorem tgc_177 : Tg 177 = 0 := by decide +kernel
theorem prc_177_0 : Pr 177 0 = 178 := by decide +kernel
theorem prc_177_1 : Pr 177 1 = 179 := by decide +kernel
theorem prc_177_2 : Pr 177 2 = 180 := by decide +kernel
theorem prc_177_3 : Pr 177 3 = 181 := by decide +kernel
theorem tgc_178 : Tg 178 = 100 := by decide +kernel
theorem zsc_178 : Zs 178 = 36 := by decide +kernel
theorem tgc_179 : Tg 179 = 100 := by decide +kernel
theorem zsc_179 : Zs 179 = 6 := by decide +kernel
theorem tgc_180 : Tg 180 = 100 := by decide +kernel
theorem zsc_180 : Zs 180 = 48 := by decide +kernel
theorem tgc_181 : Tg 181 = 100 := by decide +kernel
theorem zsc_181 : Zs 181 = 60 := by decide +kernel
theorem gT7_1 {r : Nat} (h : Tg r = 7) : Tg (r + 1) = 100 := Tg_dec (P := fun r => Tg r = 7 → Tg (r + 1) = 100) (by decide +kernel) h (by decide) h
theorem gZ7_1 {r : Nat} (h : Tg r = 7) : Zs (r + 1) = 3 := Tg_dec (P := fun r => Tg r = 7 → Zs (r + 1) = 3) (by decide +kernel) h (by decide) h
theorem gT7_2 {r : Nat} (h : Tg r = 7) : Tg (r + 2) = 104 := Tg_dec (P := fun r => Tg r = 7 → Tg (r + 2) = 104) (by decide +kernel) h (by decide) h
theorem gZ7_2 {r : Nat} (h : Tg r = 7) : Zs (r + 2) = 6 := Tg_dec (P := fun r => Tg r = 7 → Zs (r + 2) = 6) (by decide +kernel) h (by decide) h
theorem gT7_3 {r : Nat} (h : Tg r = 7) : Tg (r + 3) = 8 := Tg_dec (P := fun r => Tg r = 7 → Tg (r + 3) = 8) (by decide +kernel) h (by decide) h
theorem gT7_4 {r : Nat} (h : Tg r = 7) : Tg (r + 4) = 4 := Tg_dec (P := fun r => Tg r = 7 → Tg (r + 4) = 4) (by decide +kernel) h (by decide) h
theorem gT7_5 {r : Nat} (h : Tg r = 7) : Tg (r + 5) = 100 := Tg_dec (P := fun r => Tg r = 7 → Tg (r + 5) = 100) (by decide +kernel) h (by decide) h
theorem gZ7_5 {r : Nat} (h : Tg r = 7) : Zs (r + 5) = 1728 := Tg_dec (P := fun r => Tg r = 7 → Zs (r + 5) = 1728) (by decide +kernel) h (by decide) h
theorem gT3_1 {r : Nat} (h : Tg r = 3) : Tg (r + 1) = 4 := Tg_dec (P := fun r => Tg r = 3 → Tg (r + 1) = 4) (by decide +kernel) h (by decide) h
theorem gT3_2 {r : Nat} (h : Tg r = 3) : Tg (r + 2) = 100 := Tg_dec (P := fun r => Tg r = 3 → Tg (r + 2) = 100) (by decide +kernel) h (by decide) h
theorem gZ3_2 {r : Nat} (h : Tg r = 3) : Zs (r + 2) = 1728 := Tg_dec (P := fun r => Tg r = 3 → Zs (r + 2) = 1728) (by decide +kernel) h (by decide) h
theorem gT8_1 {r : Nat} (h : Tg r = 8) : Tg (r + 1) = 4 := Tg_dec (P := fun r => Tg r = 8 → Tg (r + 1) = 4) (by decide +kernel) h (by decide) h
theorem gT8_2 {r : Nat} (h : Tg r = 8) : Tg (r + 2) = 100 := Tg_dec (P := fun r => Tg r = 8 → Tg (r + 2) = 100) (by decide +kernel) h (by decide) h
theorem gZ8_2 {r : Nat} (h : Tg r = 8) : Zs (r + 2) = 1728 := Tg_dec (P := fun r => Tg r = 8 → Zs (r + 2) = 1728) (by decide +kernel) h (by decide) h
theorem gT4_1 {r : Nat} (h : Tg r = 4) : Tg (r + 1) = 100 := Tg_dec (P := fun r => Tg r = 4 → Tg (r + 1) = 100) (by decide +kernel) h (by decide) h
theorem gZ4_1 {r : Nat} (h : Tg r = 4) : Zs (r + 1) = 1728 := Tg_dec (P := fun r => Tg r = 4 → Zs (r + 1) = 1728) (by decide +kernel) h (by decide) h
theorem gP7_0_0 {r : Nat} (h : Tg r = 7) : Pr (r + 0) 0 = r + 1 := Tg_dec (P := fun r => Tg r = 7 → Pr (r + 0) 0 = r + 1) (by decide +kernel) h (by decide) h
theorem gP7_0_1 {r : Nat} (h : Tg r = 7) : Pr (r + 0) 1 = r + 2 := Tg_dec (P := fun r => Tg r = 7 → Pr (r + 0) 1 = r + 2) (by decide +kernel) h (by decide) h
theorem gP7_0_2 {r : Nat} (h : Tg r = 7) : Pr (r + 0) 2 = r + 3 := Tg_dec (P := fun r => Tg r = 7 → Pr (r + 0) 2 = r + 3) (by decide +kernel) h (by decide) h
theorem gP7_3_0 {r : Nat} (h : Tg r = 7) : Pr (r + 3) 0 = r + 4 := Tg_dec (P := fun r => Tg r = 7 → Pr (r + 3) 0 = r + 4) (by decide +kernel) h (by decide) h
theorem gP7_4_0 {r : Nat} (h : Tg r = 7) : Pr (r + 4) 0 = r + 5 := Tg_dec (P := fun r => Tg r = 7 → Pr (r + 4) 0 = r + 5) (by decide +kernel) h (by decide) h
theorem gP3_0_0 {r : Nat} (h : Tg r = 3) : Pr (r + 0) 0 = r + 1 := Tg_dec (P := fun r => Tg r = 3 → Pr (r + 0) 0 = r + 1) (by decide +kernel) h (by decide) h
theorem gP3_1_0 {r : Nat} (h : Tg r = 3) : Pr (r + 1) 0 = r + 2 := Tg_dec (P := fun r => Tg r = 3 → Pr (r + 1) 0 = r + 2) (by decide +kernel) h (by decide) h
theorem gP8_0_0 {r : Nat} (h : Tg r = 8) : Pr (r + 0) 0 = r + 1 := Tg_dec (P := fun r => Tg r = 8 → Pr (r + 0) 0 = r + 1) (by decide +kernel) h (by decide) h
theorem gP8_1_0 {r : Nat} (h : Tg r = 8) : Pr (r + 1) 0 = r + 2 := Tg_dec (P := fun r => Tg r = 8 → Pr (r + 1) 0 = r + 2) (by decide +kernel) h (by decide) h
theorem gP4_0_0 {r : Nat} (h : Tg r = 4) : Pr (r + 0) 0 = r + 1 := Tg_dec (P := fun r => Tg r = 4 → Pr (r + 0) 0 = r + 1) (by decide +kernel) h (by decide) h
theorem gE7 {r : Nat} (h : Tg r = 7) : ∀ j, j < 6 → Pr (r + 2) j = r + 6 + 3 * j := Tg_dec (P := fun r => Tg r = 7 → ∀ j, j < 6 → Pr (r + 2) j = r + 6 + 3 * j) (by decide +kernel) h (by decide) h
theorem gL7 {r : Nat} (h : Tg r = 7) : ∀ j, j < 6 → Tg (r + 6 + 3 * j) = 3 := Tg_dec (P := fun r => Tg r = 7 → ∀ j, j < 6 → Tg (r + 6 + 3 * j) = 3) (by decide +kernel) h (by decide) h
theorem gE51 : ∀ j, j < 5 → Pr 51 j = 52 + 24 * j := by decide +kernel
theorem gL51 : ∀ j, j < 5 → Tg (52 + 24 * j) = 7 := by decide +kernel
