/-! THE CONSTRUCTORS, 2: a run that keeps the log -/
section LH
variable {rom : xRom}
def lnext (q : xQ) (st : List xV) (l : List lOp) : List lOp := if xcls q.1 = 5 then lup q st l else l
theorem xjmp_h {pc : Nat} {ins : ClassFile.Instr} {ls : xLs} {st : List xV} {h : xH} {s : xF} (e : xjmp pc ins ls st h = some (.inl s)) : s.2.2.2 = h := by
  unfold xjmp at e
  split at e <;> (try split at e) <;> (try split at e) <;> (try split at e) <;> simp_all [nx] <;> (subst e; rfl)
theorem xinv_h {y' k : Nat} {st : List xV} {s : xF} : xinv y' k st ≠ some (.inl s) := by
  unfold xinv
  split <;> simp
theorem xret_h {y : Nat} {ins : ClassFile.Instr} {st : List xV} {s : xF} : xret y ins st ≠ some (.inl s) := by
  unfold xret
  split <;> (try split) <;> (try split) <;> simp_all
theorem ite_n {α : Type} {c : Prop} {dc : Decidable c} {x : Option α} {s : α} (h : x ≠ some s) : @ite _ c dc x none ≠ some s := by
  cases dc with
  | isTrue w => rw [if_pos w]; exact h
  | isFalse w => rw [if_neg w]; exact fun z => by cases z
theorem xcall_h {d pc : Nat} {q : xQ} {ls : xLs} {st : List xV} {h : xH} {s : xF} (g : q.2.2.1 ≤ 6) (e : xcall d pc q ls st h = some (.inl s)) : s.2.2.2 = h := by
  unfold xcall at e
  by_cases q1 : q.2.2.1 ≤ 1
  · rw [if_pos q1] at e
    dsimp only at e
    split at e
    · exact absurd e xinv_h
    · exact absurd e (ite_n xinv_h)
  · rw [if_neg q1] at e
    by_cases q2 : d = 0
    · rw [if_pos q2] at e; cases e
    · rw [if_neg q2] at e
      split at e <;> (try split at e) <;> simp_all [nx] <;> (try (subst e; rfl))
theorem xstep_h {d y pc : Nat} {q : xQ} {ls : xLs} {st : List xV} {l : List lOp} {s : xF} (g : xcls q.1 = 6 → q.2.2.1 ≤ 6) (e : xstep rom d y pc q ls st (hl l) = some (.inl s)) : s.2.2.2 = hl (lnext q st l) := by
  unfold xstep at e
  unfold lnext
  split at e
  · rename_i hc
    rw [hc, if_neg (by decide)]
    split at e
    · cases e; rfl
    · cases e
  · rename_i hc
    rw [hc, if_neg (by decide)]
    exact xjmp_h e
  · rename_i hc
    rw [hc, if_neg (by decide)]
    split at e
    · split at e
      · split at e
        · cases e; rfl
        · cases e
      · cases e
    · cases e
  · rename_i hc
    rw [hc, if_neg (by decide)]
    split at e
    · split at e
      · cases e; rfl
      · cases e
    · cases e
  · rename_i hc
    rw [hc, if_neg (by decide)]
    split at e
    · split at e
      · cases e; rfl
      · cases e
    · cases e
  · rename_i hc
    rw [hc, if_pos rfl]
    obtain ⟨pc', ls', st', h⟩ := xheap_log e
    cases h; rfl
  · rename_i hc
    rw [if_neg (by rw [hc]; decide)]
    have g' := g hc
    by_cases w : q.2.2.1 = 11
    · omega
    · rw [if_neg w] at e
      exact xcall_h g' e
  · exact absurd e xret_h
/-- asks how long a static array is -/
def xbad (q : xQ) (st : List xV) : Bool := match q.1, st with
  | .arraylength, .inr (.inr (.inr (.inl _))) :: _ => true
  | _, _ => false
/-- a whole call, with the log -/
def lrun (rom : xRom) : Nat → Nat → Nat → Nat × xLs × List xV × List lOp → Option (Option xV × List lOp)
  | 0, _, _, _ => none
  | f + 1, d, y, (pc, ls, st, l) => match xcode y pc with
    | none => none
    | some q => if (xcls q.1 = 6 ∧ 6 < q.2.2.1) ∨ xbad q st = true then none else match xstep rom d y pc q ls st (hl l) with
      | none => none
      | some (.inl s) => lrun rom f d y (s.1, s.2.1, s.2.2.1, lnext q st l)
      | some (.inr (.inl v)) => some (v, l)
      | some (.inr (.inr (y', as, rest))) => match d with
        | 0 => none
        | d' + 1 => match lrun rom f d' y' (0, xentry y' as, [], l) with
          | none => none
          | some (v, l') => lrun rom f (d' + 1) y (pc + 3, ls, v.toList ++ rest, l')
theorem lrun_ok : ∀ (f : Nat) {d y pc : Nat} {ls : xLs} {st : List xV} {l l' : List lOp} {v : Option xV}, lrun rom f d y (pc, ls, st, l) = some (v, l') → Rn rom d y (pc, ls, st, hl l) (v, hl l')
  | 0, _, _, _, _, _, _, _, _, e => by cases e
  | f + 1, d, y, pc, ls, st, l, l', v, e => by
    unfold lrun at e
    split at e
    · cases e
    · rename_i q hq
      split at e
      · cases e
      · rename_i g
        have g' : xcls q.1 = 6 → q.2.2.1 ≤ 6 := fun w => by
          by_cases z : 6 < q.2.2.1
          · exact absurd (Or.inl ⟨w, z⟩) g
          · omega
        split at e
        · cases e
        · rename_i s hs
          have hh := xstep_h g' hs
          refine Rn_next hq hs ?_
          have r := lrun_ok f e
          rw [← hh] at r
          exact r
        · rename_i v' hs
          cases e
          exact Rn_fin hq hs
        · rename_i y' as rest hs
          split at e
          · cases e
          · split at e
            · cases e
            · rename_i v1 l1 hc
              exact Rn_inv hq hs (lrun_ok f hc) (lrun_ok f e)
end LH
