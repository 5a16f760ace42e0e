/-! MEANING, 29: buried; loudness -/
section BU
variable {M A : xM} {T : Int} {P : Nat → xM} {n o : Nat} {S : xM} {sv : Int} {pd : Nat → Int} {len : Nat} {st : Nat → Int} {stp : Int}
def ind (A : xM) (k i cell key : Nat) : Int := if 0 < aAdd A i cell key ∧ 2 * aAdd A i cell key < aRing A k cell key then 1 else 0
def bur (A : xM) (k i cell : Nat) : Int := if (i : Int) < A 0 7 then sumN 36 (ind A k i cell) else 0
theorem ind_b {k i cell key : Nat} : 0 ≤ ind A k i cell key ∧ ind A k i cell key ≤ 1 := by unfold ind; split <;> omega
theorem bur_b {k i cell : Nat} : 0 ≤ bur A k i cell ∧ bur A k i cell ≤ 36 := by
  unfold bur
  split
  · have := sumN_b (f := ind A k i cell) (lo := 0) (hi := 1) 36 (fun j _ => ind_b)
    omega
  · omega
theorem sumN_flat {g : Nat → Nat → Int} : ∀ c k, k ≤ 36 → sumN (36 * c + k) (fun x => g (x / 36) (x % 36)) = sumN c (fun cell => sumN 36 (g cell)) + sumN k (g c)
  | 0, 0, _ => rfl
  | c + 1, 0, _ => by
    have := sumN_flat (g := g) c 36 (by decide)
    rw [show 36 * (c + 1) + 0 = 36 * c + 36 by omega, this]
    show _ = sumN c _ + sumN 36 (g c) + 0
    omega
  | c, k + 1, h => by
    have ih := sumN_flat (g := g) c k (by omega)
    show sumN (36 * c + k) (fun x => g (x / 36) (x % 36)) + g ((36 * c + k) / 36) ((36 * c + k) % 36) = _ + (sumN k (g c) + g c k)
    rw [ih, show (36 * c + k) / 36 = c by omega, show (36 * c + k) % 36 = k by omega]
    omega
theorem fnd_pad {R : Nat → Int} {k : Nat} (hb : ∀ i, 0 ≤ R i) : ∀ m, (∀ i, k ≤ i → R i = 0) → fnd 4 R (k + m) = fnd 4 R k
  | 0, _ => rfl
  | m + 1, h => by
    show fnd 4 R ((k + m) + 1) = _
    rw [fnd_4 (by decide) (by decide), h (k + m) (by omega), if_neg (by have := maxN_0 (f := R) (k + m); omega)]
    exact fnd_pad hb m h
/-! doubles -/
theorem nnan_iff (x : UInt64) : nnan x ↔ FP.Core.dIsNaN x = false := by
  have h := FP.Core.isNaN_bits x
  have e : (x &&& 0x7fffffffffffffff).toNat = x.toNat % 2 ^ 63 := by
    rw [UInt64.toNat_and]
    exact Nat.and_two_pow_sub_one_eq_mod x.toNat 63
  have e2 : nnan x ↔ x.toNat % 2 ^ 63 ≤ 9218868437227405312 := by
    unfold nnan
    rw [UInt64.le_iff_toNat_le, e]
    exact Iff.rfl
  rw [e2]
  constructor
  · intro w
    cases q : FP.Core.dIsNaN x with
    | false => rfl
    | true => have := h.mp q; omega
  · intro w
    rcases Nat.lt_or_ge 9218868437227405312 (x.toNat % 2 ^ 63) with q | q
    · have := h.mpr q; rw [this] at w; cases w
    · exact q
theorem xi2d_fin (s : Int) : FP.Core.dIsNaN (xi2d s) = false := (FP.Core.i2d_fin (Int32.ofInt s)).notNaN
theorem gn_pos {α : Type} {x : UInt64} {k : Option α} (h : nnan x) : gn x k = k := by unfold gn; rw [if_pos h]
theorem ddiv_ok {s l : Int} (hl : 1 ≤ l ∧ l ≤ 48) : nnan (FP.ddiv (xi2d s) (xi2d l)) := by
  rw [nnan_iff]
  refine FP.Core.ddiv_out (xi2d_fin s) (FP.Core.i2d_fin _) ?_
  rw [FP.Core.zero_bits2]
  refine FP.Core.i2d_ne_zero (v := Int32.ofInt l) (fun w => ?_)
  have : wr l = 0 := by unfold wr; rw [w]; rfl
  rw [wri l (by omega) (by omega)] at this
  omega
theorem dmul_1 (s : Int) : FP.dmul (xi2d s) FP.dconst1 = xi2d s := FP.Core.dmul_one ((FP.Core.notNaN_iff _).mp (xi2d_fin s))
end BU
