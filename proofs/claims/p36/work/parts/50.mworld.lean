/-! MEANING, 21: the reference's world -/
section MW
variable {M : xM} {T : Int}
def blk (M : xM) (r off n : Nat) (f : Nat → Int) : xM := fun a c => if a = r ∧ off ≤ c ∧ c < off + n then f (c - off) else M a c
theorem blk_0 {r off : Nat} {f : Nat → Int} : blk M r off 0 f = M := by
  funext a c; unfold blk; rw [if_neg (by omega)]
theorem blk_s {r off i : Nat} {f : Nat → Int} : xset (blk M r off i f) r (off + i) (f i) = blk M r off (i + 1) f := by
  funext a c
  rw [xset_d]
  unfold blk
  by_cases q : a = r ∧ c = off + i
  · rw [if_pos q, if_pos (by omega)]; congr 1; omega
  · rw [if_neg q]
    by_cases q2 : a = r ∧ off ≤ c ∧ c < off + i
    · rw [if_pos q2, if_pos (by omega)]
    · rw [if_neg q2, if_neg (by omega)]
theorem blk_ne {r off n a : Nat} {f : Nat → Int} (h : a ≠ r) : blk M r off n f a = M a := by funext c; unfold blk; rw [if_neg (by omega)]
theorem blk_at {r off n k : Nat} {f : Nat → Int} (h : k < n) : blk M r off n f r (off + k) = f k := by unfold blk; rw [if_pos (by omega)]; congr 1; omega
theorem blk_out {r off n c : Nat} {f : Nat → Int} (h : c < off ∨ off + n ≤ c) : blk M r off n f r c = M r c := by unfold blk; rw [if_neg (by omega)]
end MW
