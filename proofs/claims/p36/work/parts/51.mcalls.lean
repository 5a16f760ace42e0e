/-! MEANING, 22: the reference's changes -/
section MC
variable {M A : xM} {T : Int}
variable {P : Nat → xM} {n : Nat} {S : xM} {sv : Int} {pd : Nat → Int} {len : Nat} {st : Nat → Int} {stp : Int}
theorem why_ge {w : Int} (h : ¬ w < 0) (h2 : w ≤ 0) : w = 0 := by omega
end MC
