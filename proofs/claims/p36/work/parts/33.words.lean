/-! MEANING, 4: nine forces in a word -/
theorem i64_nat {n : Nat} (h : n < 9223372036854775808) : (Int64.ofInt (n : Int)).toInt = n := Int64.toInt_ofInt_of_le (by omega) (by omega)
theorem i64_tn {n : Nat} (h : n < 9223372036854775808) : (Int64.ofInt (n : Int)).toBitVec.toNat = n := by
  show (BitVec.ofInt 64 (n : Int)).toNat = n
  rw [BitVec.ofInt_natCast, BitVec.toNat_ofNat, Nat.mod_eq_of_lt (by omega)]
theorem i64_of_tn {x : Int64} {n : Nat} (h : n < 9223372036854775808) (hx : x.toBitVec.toNat = n) : x.toInt = n := by
  show x.toBitVec.toInt = n
  rw [BitVec.toInt_eq_toNat_cond, if_pos (by omega), hx]
theorem w_shl : ∀ k : Nat, k < 9 → ∀ v : Nat, v < 128 → xlshl (v : Int) ((7 * k : Nat) : Int) = ((v * 2 ^ (7 * k) : Nat) : Int) := by decide +kernel
theorem w_S : ∀ k : Nat, k < 9 → (((Int32.ofInt ((7 * k : Nat) : Int)).toInt64 &&& 63).toBitVec.smod 64).toNat = 7 * k := by decide +kernel
theorem w_shr {n k : Nat} (h : n < 9223372036854775808) (hk : k < 9) : xlshr (n : Int) ((7 * k : Nat) : Int) = ((n / 2 ^ (7 * k) : Nat) : Int) := by
  unfold xlshr
  show ((Int64.ofInt (n : Int)).toBitVec.sshiftRight' (((Int32.ofInt ((7 * k : Nat) : Int)).toInt64 &&& 63).toBitVec.smod 64)).toInt = _
  rw [BitVec.sshiftRight_eq', w_S k hk, BitVec.toInt_sshiftRight]
  show (Int64.ofInt (n : Int)).toInt >>> (7 * k) = _
  rw [i64_nat h, Int.shiftRight_eq_div_pow]
  norm_cast
theorem w_and {n m : Nat} (h : n < 9223372036854775808) (hm : m < 9223372036854775808) : xland (n : Int) (m : Int) = ((n &&& m : Nat) : Int) := by
  unfold xland
  refine i64_of_tn (Nat.lt_of_le_of_lt Nat.and_le_left h) ?_
  show ((Int64.ofInt (n : Int)).toBitVec &&& (Int64.ofInt (m : Int)).toBitVec).toNat = _
  rw [BitVec.toNat_and, i64_tn h, i64_tn hm]
/-- a digit's place is written over -/
theorem w_put {n m v : Nat} (h : n < 9223372036854775808) (hm : m < 9223372036854775808) (hv : v < 9223372036854775808) : xlor (xland (n : Int) (xlxor (m : Int) (-1))) (v : Int) = (((n &&& (m ^^^ 18446744073709551615)) ||| v : Nat) : Int) := by
  have hb : (n &&& (m ^^^ 18446744073709551615)) ||| v < 9223372036854775808 := by
    show _ < 2 ^ 63
    exact Nat.or_lt_two_pow (Nat.lt_of_le_of_lt Nat.and_le_left h) hv
  unfold xlor xland xlxor
  refine i64_of_tn hb ?_
  rw [Int64.ofInt_toInt, Int64.ofInt_toInt]
  show (((Int64.ofInt (n : Int)).toBitVec &&& ((Int64.ofInt (m : Int)).toBitVec ^^^ (Int64.ofInt (-1)).toBitVec)) ||| (Int64.ofInt (v : Int)).toBitVec).toNat = _
  rw [BitVec.toNat_or, BitVec.toNat_and, BitVec.toNat_xor, i64_tn h, i64_tn hm, i64_tn hv]
  rfl
theorem w_tb {lo x s j : Nat} (h : lo < 2 ^ s) : (lo + 2 ^ s * x).testBit j = if j < s then lo.testBit j else x.testBit (j - s) := by
  rw [Nat.add_comm]; exact Nat.testBit_two_pow_mul_add x h j
theorem w_tb0 {x s j : Nat} : (x * 2 ^ s).testBit j = if j < s then false else x.testBit (j - s) := by
  have := w_tb (lo := 0) (x := x) (s := s) (j := j) (Nat.two_pow_pos s)
  rw [Nat.zero_add, Nat.mul_comm] at this
  rw [this]; simp
theorem w_ones {j : Nat} : Nat.testBit 18446744073709551615 j = decide (j < 64) := by
  show Nat.testBit (2 ^ 64 - 1) j = _
  rw [Nat.testBit_two_pow_sub_one]
theorem w_over {lo d v hi s : Nat} (hs : s + 7 ≤ 64) (h1 : lo < 2 ^ s) (h2 : d < 128) (h3 : v < 128) (hn : lo + 2 ^ s * (d + 128 * hi) < 9223372036854775808) : ((lo + 2 ^ s * (d + 128 * hi)) &&& (127 * 2 ^ s ^^^ 18446744073709551615)) ||| v * 2 ^ s = lo + 2 ^ s * (v + 128 * hi) := by
  refine Nat.eq_of_testBit_eq (fun j => ?_)
  rw [Nat.testBit_or, Nat.testBit_and, Nat.testBit_xor, w_tb h1, w_tb h1, w_tb0, w_tb0, w_ones]
  by_cases q : j < s
  · rw [if_pos q, if_pos q, if_pos q, if_pos q]
    simp [show j < 64 by omega]
  · rw [if_neg q, if_neg q, if_neg q, if_neg q]
    have e1 : (d + 128 * hi).testBit (j - s) = if j - s < 7 then d.testBit (j - s) else hi.testBit (j - s - 7) := w_tb (s := 7) (by omega)
    have e2 : (v + 128 * hi).testBit (j - s) = if j - s < 7 then v.testBit (j - s) else hi.testBit (j - s - 7) := w_tb (s := 7) (by omega)
    have e3 : Nat.testBit 127 (j - s) = decide (j - s < 7) := by
      show Nat.testBit (2 ^ 7 - 1) _ = _
      rw [Nat.testBit_two_pow_sub_one]
    rw [e1, e2, e3]
    by_cases q2 : j - s < 7
    · rw [if_pos q2, if_pos q2]
      simp [q2, show j < 64 by omega]
    · rw [if_neg q2, if_neg q2]
      have e4 : v.testBit (j - s) = false := Nat.testBit_lt_two_pow (Nat.lt_of_lt_of_le h3 (Nat.pow_le_pow_right (n := 2) (by decide) (show 7 ≤ j - s by omega)))
      rw [e4]
      by_cases q3 : j < 64
      · simp [q2, q3]
      · have e5 : hi.testBit (j - s - 7) = false := by
          have : (lo + 2 ^ s * (d + 128 * hi)).testBit j = false := Nat.testBit_lt_two_pow (Nat.lt_of_lt_of_le hn (Nat.pow_le_pow_right (n := 2) (i := 63) (by decide) (by omega)))
          rw [w_tb h1, if_neg q, e1, if_neg q2] at this
          exact this
        simp [e5]
/-- the word of nine numbers below 128 -/
def packN : Nat → (Nat → Nat) → Nat
  | 0, _ => 0
  | n + 1, f => packN n f + 2 ^ (7 * n) * f n
theorem packN_lt {f : Nat → Nat} : ∀ (n : Nat), (∀ j, j < n → f j < 128) → packN n f < 2 ^ (7 * n)
  | 0, _ => by show 0 < 1; decide
  | n + 1, h => by
    have h1 := packN_lt n (fun j hj => h j (by omega))
    have h2 := h n (by omega)
    have e : 2 ^ (7 * (n + 1)) = 2 ^ (7 * n) * 128 := by rw [show 7 * (n + 1) = 7 * n + 7 by omega, Nat.pow_add]
    unfold packN
    rw [e]
    calc packN n f + 2 ^ (7 * n) * f n < 2 ^ (7 * n) + 2 ^ (7 * n) * f n := by omega
      _ = 2 ^ (7 * n) * (f n + 1) := by rw [Nat.mul_add, Nat.mul_one, Nat.add_comm]
      _ ≤ 2 ^ (7 * n) * 128 := Nat.mul_le_mul_left _ (by omega)
theorem packN_c {f g : Nat → Nat} : ∀ (n : Nat), (∀ j, j < n → f j = g j) → packN n f = packN n g
  | 0, _ => rfl
  | n + 1, h => by unfold packN; rw [packN_c n (fun j hj => h j (by omega)), h n (by omega)]
/-- a word is cut at its digit k -/
theorem packN_cut {k : Nat} : ∀ (n : Nat), k < n → ∃ hi : (Nat → Nat) → Nat, (∀ f g, (∀ j, k < j → f j = g j) → hi f = hi g) ∧ ∀ f, packN n f = packN k f + 2 ^ (7 * k) * (f k + 128 * hi f)
  | 0, h => by omega
  | n + 1, h => by
    rcases Nat.lt_or_ge k n with q | q
    · obtain ⟨hi, h1, h2⟩ := packN_cut (k := k) n q
      refine ⟨fun f => hi f + 2 ^ (7 * (n - k - 1)) * f n, fun f g hfg => ?_, fun f => ?_⟩
      · show hi f + _ * f n = hi g + _ * g n
        rw [h1 f g hfg, hfg n q]
      · show packN n f + 2 ^ (7 * n) * f n = packN k f + 2 ^ (7 * k) * (f k + 128 * (hi f + 2 ^ (7 * (n - k - 1)) * f n))
        rw [h2 f]
        have e : 2 ^ (7 * n) = 2 ^ (7 * k) * (128 * 2 ^ (7 * (n - k - 1))) := by
          rw [show (128 : Nat) = 2 ^ 7 from rfl, ← Nat.pow_add, ← Nat.pow_add]; congr 1; omega
        rw [e]
        simp only [Nat.mul_add, Nat.mul_assoc, Nat.add_assoc]
    · have : k = n := by omega
      subst this
      exact ⟨fun _ => 0, fun _ _ _ => rfl, fun f => by show packN k f + 2 ^ (7 * k) * f k = packN k f + 2 ^ (7 * k) * (f k + 128 * 0); rw [Nat.mul_zero, Nat.add_zero]⟩
def pack9 (f : Nat → Int) : Int := (packN 9 (fun j => (f j).toNat) : Nat)
theorem pack9_get {f : Nat → Int} (hf : ∀ j, j < 9 → 0 ≤ f j ∧ f j < 128) {k : Nat} (hk : k < 9) : xland (xlshr (pack9 f) ((7 * k : Nat) : Int)) 127 = f k := by
  have hlt := packN_lt (f := fun j => (f j).toNat) 9 (fun j hj => by have := hf j hj; show (f j).toNat < 128; omega)
  have hlk := packN_lt (f := fun j => (f j).toNat) k (fun j hj => by have := hf j (by omega); show (f j).toNat < 128; omega)
  obtain ⟨hi, -, h2⟩ := packN_cut (k := k) 9 hk
  unfold pack9
  rw [w_shr hlt hk, h2]
  have e1 : (packN k (fun j => (f j).toNat) + 2 ^ (7 * k) * ((f k).toNat + 128 * hi (fun j => (f j).toNat))) / 2 ^ (7 * k) = (f k).toNat + 128 * hi (fun j => (f j).toNat) := by
    rw [Nat.add_mul_div_left _ _ (Nat.two_pow_pos _), Nat.div_eq_of_lt hlk, Nat.zero_add]
  rw [e1]
  have hb : (f k).toNat + 128 * hi (fun j => (f j).toNat) < 9223372036854775808 := by
    rw [← e1, ← h2]; exact Nat.lt_of_le_of_lt (Nat.div_le_self _ _) hlt
  show xland (((f k).toNat + 128 * hi (fun j => (f j).toNat) : Nat) : Int) ((127 : Nat) : Int) = _
  rw [w_and hb (by decide), show (127 : Nat) = 2 ^ 7 - 1 from rfl, Nat.and_two_pow_sub_one_eq_mod]
  have := hf k hk
  omega
theorem pack9_put {f : Nat → Int} (hf : ∀ j, j < 9 → 0 ≤ f j ∧ f j < 128) {k : Nat} (hk : k < 9) {v : Int} (hv : 0 ≤ v ∧ v < 128) : xlor (xland (pack9 f) (xlxor (xlshl 127 ((7 * k : Nat) : Int)) (-1))) (xlshl v ((7 * k : Nat) : Int)) = pack9 (fun j => if j = k then v else f j) := by
  have hlt := packN_lt (f := fun j => (f j).toNat) 9 (fun j hj => by have := hf j hj; show (f j).toNat < 128; omega)
  have hlk := packN_lt (f := fun j => (f j).toNat) k (fun j hj => by have := hf j (by omega); show (f j).toNat < 128; omega)
  obtain ⟨hi, h1, h2⟩ := packN_cut (k := k) 9 hk
  have hp : 2 ^ (7 * k) ≤ 2 ^ 56 := Nat.pow_le_pow_right (by decide) (by omega)
  have s1 := w_shl k hk 127 (by decide)
  have s2 := w_shl k hk v.toNat (by omega)
  rw [show ((v.toNat : Nat) : Int) = v by omega] at s2
  rw [show ((127 : Nat) : Int) = 127 from rfl] at s1
  unfold pack9
  rw [s1, s2]
  have b1 : 127 * 2 ^ (7 * k) < 9223372036854775808 := Nat.lt_of_le_of_lt (Nat.mul_le_mul_left 127 hp) (by decide)
  have b2 : v.toNat * 2 ^ (7 * k) < 9223372036854775808 := Nat.lt_of_le_of_lt (Nat.mul_le_mul (show v.toNat ≤ 127 by omega) hp) (by decide)
  rw [w_put hlt b1 b2]
  have hlt2 := hlt
  rw [h2] at hlt2 ⊢
  rw [w_over (by omega) hlk (by have := hf k hk; omega) (by omega) hlt2, h2]
  show _ = ((packN k (fun j => (if j = k then v else f j).toNat) + 2 ^ (7 * k) * ((if k = k then v else f k).toNat + 128 * hi (fun j => (if j = k then v else f j).toNat)) : Nat) : Int)
  rw [if_pos rfl, packN_c (g := fun j => (if j = k then v else f j).toNat) k (fun j hj => by show (f j).toNat = _; rw [if_neg (by omega)]), h1 (fun j => (f j).toNat) (fun j => (if j = k then v else f j).toNat) (fun j hj => by show (f j).toNat = _; rw [if_neg (by omega)])]
theorem pack9_c {f g : Nat → Int} (h : ∀ j, j < 9 → f j = g j) : pack9 f = pack9 g := by
  unfold pack9
  rw [packN_c (g := fun j => (g j).toNat) 9 (fun j hj => by show (f j).toNat = _; rw [h j hj])]
theorem pack9_0 : pack9 (fun _ => 0) = 0 := by decide +kernel
