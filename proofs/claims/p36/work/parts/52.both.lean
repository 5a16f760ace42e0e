/-! MEANING, 23: both worlds; the calls that change -/
section BO
variable {M A : xM} {T : Int} {P : Nat → xM} {n o : Nat} {S : xM} {sv : Int} {pd : Nat → Int} {len : Nat} {st : Nat → Int} {stp : Int}
abbrev CUT : Int := 6100
/-- the same, the answer's bounds asked for only where there is one -/
theorem c_change' {A' M1 : xM} {why good : Int} {r : Int × xM} (hR1 : RC M1 2 A) (h : CWr M1 P n o S sv pd len st stp) (hF : RC M1 (52 + 24 * ((o + n) % 5)) A) (hfr : ∀ r, 182 ≤ r → M1 r = M r) (hr : AN M1 2 why good A' r) (hg : why = 0 → 0 ≤ good ∧ good < 2147483648) (hw : -2147483648 ≤ why) : CAns M why good A A' P n o S sv pd len st stp (f_130 r.2 r.1) := by
  by_cases w : why = 0
  · exact c_change hR1 h hF hfr hr (hg w) hw
  · have j2' : AN M1 2 why 0 A' r := by
      rcases hr with q | ⟨q, _⟩
      · exact Or.inl q
      · exact absurd q w
    have ca := c_change (M := M) hR1 h hF hfr j2' (by decide) hw
    refine ⟨ca.1, ?_⟩
    rcases ca.2 with q | ⟨q, _⟩
    · exact Or.inl q
    · exact absurd q w
theorem whyHit_0 {k f : Int} (w : whyHit A k f = 0) : (0 ≤ k ∧ k ≤ 23 ∧ 1 ≤ f ∧ f ≤ 99) ∧ tkr A := by
  unfold whyHit at w
  by_cases q : 0 ≤ k ∧ k ≤ 23 ∧ 1 ≤ f ∧ f ≤ 99
  · rw [if_pos q] at w
    by_cases t : tkr A
    · exact ⟨q, t⟩
    · rw [if_neg t] at w; omega
  · rw [if_neg q] at w; omega
theorem aHitV_b {k f : Int} (hX : WX T A) (w : whyHit A k f = 0) : 0 ≤ aHitV A k f ∧ aHitV A k f ≤ 99 := by
  obtain ⟨q, t⟩ := whyHit_0 w
  have hat := hitAt_b hX t (k := k) (by omega)
  exact both_b (hX.1.2.2.2.1 6 _ (by decide) hat.1) (by omega)
theorem whyPeel_0 (w : whyPeel A = 0) : ¬ tkr A ∧ 2 ≤ A 0 7 := by
  unfold whyPeel at w
  by_cases q : tkr A ∨ A 0 7 < 2
  · rw [if_pos q] at w; omega
  · exact ⟨fun x => q (Or.inl x), by omega⟩
theorem whyBack_0 (w : whyBack A = 0) : ¬ tkr A ∧ A 0 8 ≠ 0 := by
  unfold whyBack at w
  by_cases q : tkr A ∨ A 0 8 = 0
  · rw [if_pos q] at w; omega
  · exact ⟨fun x => q (Or.inl x), fun x => q (Or.inr x)⟩
end BO
