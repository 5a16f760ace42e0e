/-! THE CONSTRUCTORS, 4: evaluation -/
section LE
def rom0 : xRom := fun _ => (0, fun _ => 0)
theorem ev_some : (ltop rom0 18 3000 9 221 (0, xentry 221 [vS 2], [], [])).isSome = true := by decide +kernel
end LE
