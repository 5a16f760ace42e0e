/-! THE INTERPRETER IS SOUND, 8: the dispatched calls; the whole -/
section X8
variable {p : Program} {l : Launch} {e : Env} {R : Room} {s : State} {m : MethodId} {args : Array Value} {below : List Frame} {meth : Method} {c : Code} {Q : State → Prop} {B : Nat} {ra : Nat → Nat} {dA : Nat → ClassId} {D : va_G} {rom : xRom} {d y n0 w0 : Nat}
/-- all that the tables say -/
def xAll : Prop := xclA ∧ xarA ∧ xjdA ∧ xdsA ∧ (∀ y, y < 116 → xckP y) ∧ ∀ y, y < 115 → xmP y
theorem xcode_ok {y pc : Nat} {q : xQ} (hA : xAll) (h : xcode y pc = some q) : y < 116 ∧ decode (xinfo y).2.1 pc = .ok (q.1, q.2.1) ∧ (xlen q.1 = 0 ∨ xlen q.1 = q.2.1) ∧ xsq (xinfo y).1.cls q = true := by
  have hy : y < 116 := by
    rcases Nat.lt_or_ge y 116 with z | z
    · exact z
    · have hl : xkall.length ≤ y := Nat.le_trans (by decide +kernel) z
      unfold xcode at h
      rw [List.getD_eq_getElem?_getD, List.getD_eq_getElem?_getD, List.getElem?_eq_none hl] at h
      cases h
  have h1 := hA.2.2.2.2.1 y hy pc
  have h : (xkall.getD y []).getD pc none = some q := h
  rw [h] at h1
  unfold xchk at h1
  simp only [Bool.and_eq_true, Bool.or_eq_true, decide_eq_true_eq] at h1
  exact ⟨hy, h1.1.1, h1.1.2, h1.2⟩
end X8
