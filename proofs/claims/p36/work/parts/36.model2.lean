/-! MEANING, 7: the reference's doings -/
section M2
variable {M A : xM} {T : Int}
theorem WFf_lay (hF : WFf A) {cells on : Nat} (hc : cells + on ≤ 48) {x : Nat} (hx : x < 36 * cells) : 0 ≤ layF A on x ∧ layF A on x ≤ 99 := by
  have h1 : 0 ≤ A 7 x ∧ A 7 x ≤ 99 := hF 6 x (by decide) (by omega)
  unfold layF both
  by_cases q : on = 0
  · rw [if_pos q]; split <;> omega
  · rw [if_neg q]
    have h2 : 0 ≤ A 7 (x + 36 * on) ∧ A 7 (x + 36 * on) ≤ 99 := hF 6 (x + 36 * on) (by decide) (by omega)
    split <;> omega
theorem fstCells_b (hW : WFs T A) (h1 : 1 ≤ A 0 11) : 1 ≤ fstCells A ∧ fstCells A ≤ 24 := by
  have := hW.2.2.2.2.2.2.2.2.2.1
  unfold fstCells
  split <;> omega
theorem aLays_sc {cells on k : Nat} (h : k ≠ 7 ∧ k ≠ 8 ∧ k ≠ 13 ∧ k ≠ 14 + (A 0 7).toNat ∧ k ≠ 20 + (A 0 7).toNat ∧ k ≠ 26 + (A 0 7).toNat) : aLays A cells on 0 k = A 0 k := by
  unfold aLays
  rw [xset_j (by omega), xset_j (by omega), xset_j (by omega), xset_j (by omega), xset_j (by omega), xset_j (by omega), rowU_ne (by omega), rowU_ne (by omega)]
end M2
