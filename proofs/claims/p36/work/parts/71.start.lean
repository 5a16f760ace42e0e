/-! P36, 9: the object as it is made -/
section BG
def A0 : xM := fun r c => if r = 0 then (if c = 3 then 8 else if c = 4 then 1 else 0) else 0
def M0 : xM := fun r c => if r = 3 ∨ r = 27 ∨ r = 53 ∨ r = 77 ∨ r = 101 ∨ r = 125 ∨ r = 149 then (if c = 0 then 8 else if c = 1 then 1 else 0) else 0
theorem A0_f {r c : Nat} (h : r ≠ 0) : A0 r c = 0 := by unfold A0; rw [if_neg h]
theorem A0_W : WX 0 A0 := by
  refine ⟨⟨by unfold WFs; decide, ?_, ?_, ?_, ?_⟩, fun w => absurd w (by decide), fun w => absurd w (by decide)⟩
  · unfold WFm; decide
  · intro i hi hl
    have e : A0 0 7 + A0 0 8 = 0 := by decide
    omega
  · intro l x h1 h2; rw [A0_f (by omega)]; decide
  · intro x h1 h2; exact A0_f (by decide)
theorem A0_RC : RC M0 2 A0 := by
  refine ⟨by unfold RCs; decide, fun i hi hl => ?_, fun w => ?_⟩
  · have e : A0 0 7 + A0 0 8 = 0 := by decide
    omega
  · have t : ¬ tkr A0 := by unfold tkr; decide
    exact absurd w t
theorem KX_0 : KX 0 M0 A0 (fun _ => A0) 0 0 A0 0 := by
  refine ⟨A0_RC, ?_, A0_W, ?_⟩
  · exact ⟨⟨by decide, by decide, by decide, by decide⟩, fun i hi => absurd hi (Nat.not_lt_zero i), by decide, fun w => absurd w (by decide), ⟨by decide, fun j hj => absurd hj (Nat.not_lt_zero j)⟩, by decide, fun w => absurd w (by decide)⟩
  · exact ⟨fun i hi => absurd hi (Nat.not_lt_zero i), fun w => absurd w (by decide), Or.inl rfl, by decide, fun j hj => absurd hj (Nat.not_lt_zero j), Or.inl rfl⟩
end BG
