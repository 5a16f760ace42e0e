/-! THE OBJECTS once both constructors have run: kinds, sizes, references; numbered in the order in which they are made -/
def Tgl : List Nat := [999, 10, 7, 100, 104, 8, 4, 100, 3, 4, 100, 3, 4, 100, 3, 4, 100, 3, 4, 100, 3, 4, 100, 3, 4, 100, 7, 100, 104, 8, 4, 100, 3, 4, 100, 3, 4, 100, 3, 4, 100, 3, 4, 100, 3, 4, 100, 3, 4, 100, 2, 103, 7, 100, 104, 8, 4, 100, 3, 4, 100, 3, 4, 100, 3, 4, 100, 3, 4, 100, 3, 4, 100, 3, 4, 100, 7, 100, 104, 8, 4, 100, 3, 4, 100, 3, 4, 100, 3, 4, 100, 3, 4, 100, 3, 4, 100, 3, 4, 100, 7, 100, 104, 8, 4, 100, 3, 4, 100, 3, 4, 100, 3, 4, 100, 3, 4, 100, 3, 4, 100, 3, 4, 100, 7, 100, 104, 8, 4, 100, 3, 4, 100, 3, 4, 100, 3, 4, 100, 3, 4, 100, 3, 4, 100, 3, 4, 100, 7, 100, 104, 8, 4, 100, 3, 4, 100, 3, 4, 100, 3, 4, 100, 3, 4, 100, 3, 4, 100, 3, 4, 100, 6, 102, 5, 9, 1, 0, 100, 100, 100, 100]
def Zsl : List Nat := [0, 9, 11, 3, 6, 3, 2, 1728, 3, 2, 1728, 3, 2, 1728, 3, 2, 1728, 3, 2, 1728, 3, 2, 1728, 3, 2, 1728, 11, 3, 6, 3, 2, 1728, 3, 2, 1728, 3, 2, 1728, 3, 2, 1728, 3, 2, 1728, 3, 2, 1728, 3, 2, 1728, 3, 5, 11, 3, 6, 3, 2, 1728, 3, 2, 1728, 3, 2, 1728, 3, 2, 1728, 3, 2, 1728, 3, 2, 1728, 3, 2, 1728, 11, 3, 6, 3, 2, 1728, 3, 2, 1728, 3, 2, 1728, 3, 2, 1728, 3, 2, 1728, 3, 2, 1728, 3, 2, 1728, 11, 3, 6, 3, 2, 1728, 3, 2, 1728, 3, 2, 1728, 3, 2, 1728, 3, 2, 1728, 3, 2, 1728, 3, 2, 1728, 11, 3, 6, 3, 2, 1728, 3, 2, 1728, 3, 2, 1728, 3, 2, 1728, 3, 2, 1728, 3, 2, 1728, 3, 2, 1728, 11, 3, 6, 3, 2, 1728, 3, 2, 1728, 3, 2, 1728, 3, 2, 1728, 3, 2, 1728, 3, 2, 1728, 3, 2, 1728, 2, 60, 0, 0, 4, 4, 36, 6, 48, 60]
def Prl : List (List Nat) := [[], [2, 26, 50, 172, 174, 175, 176, 177], [3, 4, 5], [], [8, 11, 14, 17, 20, 23], [6], [7], [], [9], [10], [], [12], [13], [], [15], [16], [], [18], [19], [], [21], [22], [], [24], [25], [], [27, 28, 29], [], [32, 35, 38, 41, 44, 47], [30], [31], [], [33], [34], [], [36], [37], [], [39], [40], [], [42], [43], [], [45], [46], [], [48], [49], [], [51], [52, 76, 100, 124, 148], [53, 54, 55], [], [58, 61, 64, 67, 70, 73], [56], [57], [], [59], [60], [], [62], [63], [], [65], [66], [], [68], [69], [], [71], [72], [], [74], [75], [], [77, 78, 79], [], [82, 85, 88, 91, 94, 97], [80], [81], [], [83], [84], [], [86], [87], [], [89], [90], [], [92], [93], [], [95], [96], [], [98], [99], [], [101, 102, 103], [], [106, 109, 112, 115, 118, 121], [104], [105], [], [107], [108], [], [110], [111], [], [113], [114], [], [116], [117], [], [119], [120], [], [122], [123], [], [125, 126, 127], [], [130, 133, 136, 139, 142, 145], [128], [129], [], [131], [132], [], [134], [135], [], [137], [138], [], [140], [141], [], [143], [144], [], [146], [147], [], [149, 150, 151], [], [154, 157, 160, 163, 166, 169], [152], [153], [], [155], [156], [], [158], [159], [], [161], [162], [], [164], [165], [], [167], [168], [], [170], [171], [], [173], [], [], [], [], [178, 179, 180, 181], [], [], [], []]
def Tg (r : Nat) : Nat := Tgl.getD r 999
def Zs (r : Nat) : Nat := Zsl.getD r 0
def Pr (r k : Nat) : Nat := (Prl.getD r []).getD k 0
def G0 : xG := (181, 85294, Tg, Zs, Pr)
theorem Tg_lt {r t : Nat} (h : Tg r = t) (ht : t ≠ 999) : 1 ≤ r ∧ r ≤ 181 := by
  rcases Nat.lt_or_ge r 182 with q | q
  · cases r with
    | zero => exact absurd h.symm ht
    | succ r => omega
  · exfalso
    unfold Tg at h
    rw [List.getD_eq_getElem?_getD, List.getElem?_eq_none (show Tgl.length ≤ r from q)] at h
    exact ht h.symm
theorem xobj_of {r t : Nat} (h : Tg r = t) (ht : t ≠ 999) : xobj G0 r t := ⟨(Tg_lt h ht).1, (Tg_lt h ht).2, h⟩
/-- what is decided for each object -/
theorem Tg_dec {P : Nat → Prop} [DecidablePred P] (h : (List.range 182).all (fun r => decide (P r)) = true) {r t : Nat} (hr : Tg r = t) (ht : t ≠ 999) : P r :=
  of_decide_eq_true (List.all_eq_true.mp h r (List.mem_range.mpr (by have := (Tg_lt hr ht).2; omega)))
theorem pf_0_0 {r : Nat} (h : Tg r = 0) : Tg (Pr r 0) = 100 := Tg_dec (P := fun r => Tg r = 0 → Tg (Pr r 0) = 100) (by decide +kernel) h (by decide) h
theorem pz_0_0 {r : Nat} (h : Tg r = 0) : Zs (Pr r 0) = 36 := Tg_dec (P := fun r => Tg r = 0 → Zs (Pr r 0) = 36) (by decide +kernel) h (by decide) h
theorem pf_0_1 {r : Nat} (h : Tg r = 0) : Tg (Pr r 1) = 100 := Tg_dec (P := fun r => Tg r = 0 → Tg (Pr r 1) = 100) (by decide +kernel) h (by decide) h
theorem pz_0_1 {r : Nat} (h : Tg r = 0) : Zs (Pr r 1) = 6 := Tg_dec (P := fun r => Tg r = 0 → Zs (Pr r 1) = 6) (by decide +kernel) h (by decide) h
theorem pf_0_2 {r : Nat} (h : Tg r = 0) : Tg (Pr r 2) = 100 := Tg_dec (P := fun r => Tg r = 0 → Tg (Pr r 2) = 100) (by decide +kernel) h (by decide) h
theorem pz_0_2 {r : Nat} (h : Tg r = 0) : Zs (Pr r 2) = 48 := Tg_dec (P := fun r => Tg r = 0 → Zs (Pr r 2) = 48) (by decide +kernel) h (by decide) h
theorem pf_0_3 {r : Nat} (h : Tg r = 0) : Tg (Pr r 3) = 100 := Tg_dec (P := fun r => Tg r = 0 → Tg (Pr r 3) = 100) (by decide +kernel) h (by decide) h
theorem pz_0_3 {r : Nat} (h : Tg r = 0) : Zs (Pr r 3) = 60 := Tg_dec (P := fun r => Tg r = 0 → Zs (Pr r 3) = 60) (by decide +kernel) h (by decide) h
theorem pf_2_0 {r : Nat} (h : Tg r = 2) : Tg (Pr r 0) = 103 := Tg_dec (P := fun r => Tg r = 2 → Tg (Pr r 0) = 103) (by decide +kernel) h (by decide) h
theorem pz_2_0 {r : Nat} (h : Tg r = 2) : Zs (Pr r 0) = 5 := Tg_dec (P := fun r => Tg r = 2 → Zs (Pr r 0) = 5) (by decide +kernel) h (by decide) h
theorem pf_3_0 {r : Nat} (h : Tg r = 3) : Tg (Pr r 0) = 4 := Tg_dec (P := fun r => Tg r = 3 → Tg (Pr r 0) = 4) (by decide +kernel) h (by decide) h
theorem pf_4_0 {r : Nat} (h : Tg r = 4) : Tg (Pr r 0) = 100 := Tg_dec (P := fun r => Tg r = 4 → Tg (Pr r 0) = 100) (by decide +kernel) h (by decide) h
theorem pz_4_0 {r : Nat} (h : Tg r = 4) : Zs (Pr r 0) = 1728 := Tg_dec (P := fun r => Tg r = 4 → Zs (Pr r 0) = 1728) (by decide +kernel) h (by decide) h
theorem pf_6_0 {r : Nat} (h : Tg r = 6) : Tg (Pr r 0) = 102 := Tg_dec (P := fun r => Tg r = 6 → Tg (Pr r 0) = 102) (by decide +kernel) h (by decide) h
theorem pz_6_0 {r : Nat} (h : Tg r = 6) : Zs (Pr r 0) = 60 := Tg_dec (P := fun r => Tg r = 6 → Zs (Pr r 0) = 60) (by decide +kernel) h (by decide) h
theorem pf_7_0 {r : Nat} (h : Tg r = 7) : Tg (Pr r 0) = 100 := Tg_dec (P := fun r => Tg r = 7 → Tg (Pr r 0) = 100) (by decide +kernel) h (by decide) h
theorem pz_7_0 {r : Nat} (h : Tg r = 7) : Zs (Pr r 0) = 3 := Tg_dec (P := fun r => Tg r = 7 → Zs (Pr r 0) = 3) (by decide +kernel) h (by decide) h
theorem pf_7_1 {r : Nat} (h : Tg r = 7) : Tg (Pr r 1) = 104 := Tg_dec (P := fun r => Tg r = 7 → Tg (Pr r 1) = 104) (by decide +kernel) h (by decide) h
theorem pz_7_1 {r : Nat} (h : Tg r = 7) : Zs (Pr r 1) = 6 := Tg_dec (P := fun r => Tg r = 7 → Zs (Pr r 1) = 6) (by decide +kernel) h (by decide) h
theorem pf_7_2 {r : Nat} (h : Tg r = 7) : Tg (Pr r 2) = 8 := Tg_dec (P := fun r => Tg r = 7 → Tg (Pr r 2) = 8) (by decide +kernel) h (by decide) h
theorem pf_8_0 {r : Nat} (h : Tg r = 8) : Tg (Pr r 0) = 4 := Tg_dec (P := fun r => Tg r = 8 → Tg (Pr r 0) = 4) (by decide +kernel) h (by decide) h
theorem pf_10_0 {r : Nat} (h : Tg r = 10) : Tg (Pr r 0) = 7 := Tg_dec (P := fun r => Tg r = 10 → Tg (Pr r 0) = 7) (by decide +kernel) h (by decide) h
theorem pf_10_1 {r : Nat} (h : Tg r = 10) : Tg (Pr r 1) = 7 := Tg_dec (P := fun r => Tg r = 10 → Tg (Pr r 1) = 7) (by decide +kernel) h (by decide) h
theorem pf_10_2 {r : Nat} (h : Tg r = 10) : Tg (Pr r 2) = 2 := Tg_dec (P := fun r => Tg r = 10 → Tg (Pr r 2) = 2) (by decide +kernel) h (by decide) h
theorem pf_10_3 {r : Nat} (h : Tg r = 10) : Tg (Pr r 3) = 6 := Tg_dec (P := fun r => Tg r = 10 → Tg (Pr r 3) = 6) (by decide +kernel) h (by decide) h
theorem pf_10_4 {r : Nat} (h : Tg r = 10) : Tg (Pr r 4) = 5 := Tg_dec (P := fun r => Tg r = 10 → Tg (Pr r 4) = 5) (by decide +kernel) h (by decide) h
theorem pf_10_5 {r : Nat} (h : Tg r = 10) : Tg (Pr r 5) = 9 := Tg_dec (P := fun r => Tg r = 10 → Tg (Pr r 5) = 9) (by decide +kernel) h (by decide) h
theorem pf_10_6 {r : Nat} (h : Tg r = 10) : Tg (Pr r 6) = 1 := Tg_dec (P := fun r => Tg r = 10 → Tg (Pr r 6) = 1) (by decide +kernel) h (by decide) h
theorem pf_10_7 {r : Nat} (h : Tg r = 10) : Tg (Pr r 7) = 0 := Tg_dec (P := fun r => Tg r = 10 → Tg (Pr r 7) = 0) (by decide +kernel) h (by decide) h
theorem pe_104 {r : Nat} (h : Tg r = 104) : ∀ j, j < 6 → Tg (Pr r j) = 3 := Tg_dec (P := fun r => Tg r = 104 → ∀ j, j < 6 → Tg (Pr r j) = 3) (by decide +kernel) h (by decide) h
theorem pe_103 {r : Nat} (h : Tg r = 103) : ∀ j, j < 5 → Tg (Pr r j) = 7 := Tg_dec (P := fun r => Tg r = 103 → ∀ j, j < 5 → Tg (Pr r j) = 7) (by decide +kernel) h (by decide) h
