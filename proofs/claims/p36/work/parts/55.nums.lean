/-! MEANING, 26: count, drift, meets, silentIn -/
section NU
variable {M A : xM} {T : Int} {P : Nat → xM} {n o : Nat} {S : xM} {sv : Int} {pd : Nat → Int} {len : Nat} {st : Nat → Int} {stp : Int}
theorem sumN_ext {f : Nat → Int} {k : Nat} : ∀ m, (∀ i, k ≤ i → i < k + m → f i = 0) → sumN (k + m) f = sumN k f
  | 0, _ => rfl
  | m + 1, h => by
    have ih := sumN_ext (f := f) (k := k) m (fun i a b => h i a (by omega))
    show sumN (k + m) f + f (k + m) = _
    rw [ih, h (k + m) (by omega) (by omega), Int.add_zero]
theorem len_pos (hX : WX T A) (h : A 0 7 ≠ 0) : 1 ≤ aLen A (A 0 7).toNat ∧ aLen A (A 0 7).toNat ≤ 48 := by
  have h7 := hX.1.1.2.2.2.2.2.1
  have a := aLen_b hX.1 (n := (A 0 7).toNat) (by omega)
  have b := aLen_two hX.1 (by omega) (n := (A 0 7).toNat) (by omega) (by omega)
  have c := hX.1.2.1.2.2.1 (by omega)
  omega
theorem len_0 (h : A 0 7 = 0) : aLen A (A 0 7).toNat = 0 := by rw [h]; rfl
theorem until_lt {x d : Int} {i : Int} (hd : 1 ≤ d) (hi : 0 ≤ i) (h : i < (if x % d = 0 then 0 else d - x % d)) : (x + i) % d ≠ 0 := by
  have a := Int.emod_nonneg x (show d ≠ 0 by omega)
  have b := Int.emod_lt_of_pos x (show 0 < d by omega)
  have e : (x + i) % d = (x % d + i) % d := (Int.emod_add_emod x d i).symm
  by_cases q : x % d = 0
  · rw [if_pos q] at h; omega
  · rw [if_neg q] at h
    rw [e, Int.emod_eq_of_lt (by omega) (by omega)]; omega
theorem until_eq {x d : Int} (hd : 1 ≤ d) : (x + (if x % d = 0 then 0 else d - x % d)) % d = 0 := by
  by_cases q : x % d = 0
  · rw [if_pos q, Int.add_zero]; exact q
  · rw [if_neg q]
    have e : x + (d - x % d) = d * (x / d + 1) := by
      have := Int.emod_add_mul_ediv x d
      rw [Int.mul_add, Int.mul_one]; omega
    rw [e, Int.mul_emod_right]
theorem least {p : Nat → Prop} : ∀ (m : Nat), p m → ∃ k, k ≤ m ∧ p k ∧ ∀ i, i < k → ¬ p i
  | 0, h => ⟨0, Nat.le_refl _, h, fun i hi => by omega⟩
  | m + 1, h => by
    by_cases q : ∃ k, k ≤ m ∧ p k
    · obtain ⟨k, h1, h2⟩ := q
      obtain ⟨k', a, b, c⟩ := least k h2
      exact ⟨k', by omega, b, c⟩
    · exact ⟨m + 1, Nat.le_refl _, h, fun i hi w => q ⟨i, by omega, w⟩⟩
end NU
