/-! THE CONSTRUCTORS, 6: what they made -/
section LM
variable {rom : xRom}
def ls0 : xLs := [some (vS 2), some (vR 1), none, none, none, none]
/-- what is looked at at the loop's head -/
def cA (x : xLs × List xV × List lOp) : Bool := decide (x.1 = ls0) && decide (x.2.1 = []) && cN 181 x.2.2 && cV x.2.2 && cP (hl x.2.2) && cM (hl x.2.2) && decide (gW (hl x.2.2).1 = 85294)
theorem ev_ok : (match ltop rom0 8 3000 8 115 (0, xentry 115 [vS 2], [], []) with
  | some x => cA x
  | none => false) = true := by decide +kernel
theorem law_head {out : Option xV × xH} (k : Rn rom 8 115 (8, [some (vS 2), some (vR 1), none, none, none, none], [], (G0, M0)) out) : Rn rom 8 115 (0, xentry 115 [vS 2], [], hE) out := by
  have h := ev_ok
  cases e : ltop rom0 8 3000 8 115 (0, xentry 115 [vS 2], [], []) with
  | none => rw [e] at h; cases h
  | some x =>
    rw [e] at h
    obtain ⟨ls, st, l⟩ := x
    unfold cA at h
    simp only [Bool.and_eq_true, decide_eq_true_eq] at h
    obtain ⟨⟨⟨⟨⟨⟨h1, h2⟩, h3⟩, h4⟩, h5⟩, h6⟩, h7⟩ := h
    subst h1 h2
    refine ltop_ok 3000 (ltop_rom 3000 e) ?_
    rw [hl_eq h3 h4 h5 h6 h7]
    exact k
end LM
