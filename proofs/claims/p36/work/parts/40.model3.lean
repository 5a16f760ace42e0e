/-! MEANING, 11: the reference's ticks and small changes -/
section M3
variable {M A : xM} {T : Int}
theorem aTick_04 (h : A 0 0 = 0 ∨ A 0 0 = 4) : aTick A = (0, A) := by unfold aTick; rw [if_pos h]
theorem aTick_1 (h : A 0 0 = 1) : aTick A = (0, if 48 ≤ (aTakeOn A) 0 11 then aEndFirst (aTakeOn A) else aTakeOn A) := by unfold aTick; rw [if_neg (by omega), if_pos h]
theorem aTick_2 (h : A 0 0 = 2) : aTick A = aLoop A := by unfold aTick; rw [if_neg (by omega), if_neg (by omega), if_pos h]
theorem aTick_3 (h : A 0 0 = 3) : aTick A = ((aLoop (aTakeOn A)).1, aOver (aLoop (aTakeOn A)).2) := by unfold aTick; rw [if_neg (by omega), if_neg (by omega), if_neg (by omega)]
end M3
