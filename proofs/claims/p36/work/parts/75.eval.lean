/-! THE CONSTRUCTORS, 4: evaluation; the static arrays play no part -/
section LE
variable {rom : xRom}
def rom0 : xRom := fun _ => (0, fun _ => 0)
theorem ev_some : (ltop rom0 8 3000 8 115 (0, xentry 115 [vS 2], [], [])).isSome = true := by decide +kernel
theorem ite_c {α : Type} {c : Prop} {dc : Decidable c} {x : Option α} {s : α} (h : @ite _ c dc x none = some s) : c := by
  cases dc with
  | isTrue w => exact w
  | isFalse w => rw [if_neg w] at h; cases h
theorem xheap_rom {y pc : Nat} {q : xQ} {ls : xLs} {st : List xV} {h : xH} {r : xR} (g : ¬ xbad q st = true) (e : xheap rom0 y pc q ls st h = some r) : xheap rom y pc q ls st h = some r := by
  unfold xheap at e ⊢
  unfold xbad at g
  split at e
  all_goals first
    | exact e
    | (rename_i hc
       split at e
       all_goals first
         | exact e
         | (exfalso; rw [hc] at g; exact g rfl)
         | (exfalso; simp only [hc] at g; exact g trivial)
         | (exfalso
            have w := ite_c e
            have w3 := w.2.2
            have w4 := w.2.1
            dsimp only [rom0] at w3
            omega))
theorem xstep_rom {d y pc : Nat} {q : xQ} {ls : xLs} {st : List xV} {h : xH} {r : xR} (g : ¬ xbad q st = true) (e : xstep rom0 d y pc q ls st h = some r) : xstep rom d y pc q ls st h = some r := by
  unfold xstep at e ⊢
  split at e
  all_goals first
    | exact e
    | (rename_i hc; rw [hc]; exact e)
    | exact xheap_rom g e
theorem lrun_rom : ∀ (f : Nat) {d y pc : Nat} {ls : xLs} {st : List xV} {l : List lOp} {x : Option xV × List lOp}, lrun rom0 f d y (pc, ls, st, l) = some x → lrun rom f d y (pc, ls, st, l) = some x
  | 0, _, _, _, _, _, _, _, e => by cases e
  | f + 1, d, y, pc, ls, st, l, x, e => by
    unfold lrun at e ⊢
    split at e
    · cases e
    · rename_i q hq
      split at e
      · cases e
      · rename_i g
        have gb : ¬ xbad q st = true := fun w => g (Or.inr w)
        rw [if_neg g]
        split at e
        · cases e
        · rename_i s hs
          rw [xstep_rom gb hs]
          exact lrun_rom f e
        · rename_i v' hs
          rw [xstep_rom gb hs]
          exact e
        · rename_i y' as rest hs
          rw [xstep_rom gb hs]
          dsimp only
          split at e
          · cases e
          · split at e
            · cases e
            · rename_i v1 l1 hc
              rw [lrun_rom f hc]
              exact lrun_rom f e
theorem ltop_rom {stop : Nat} : ∀ (f : Nat) {d y pc : Nat} {ls : xLs} {st : List xV} {l : List lOp} {x : xLs × List xV × List lOp}, ltop rom0 stop f d y (pc, ls, st, l) = some x → ltop rom stop f d y (pc, ls, st, l) = some x
  | 0, _, _, _, _, _, _, _, e => by cases e
  | f + 1, d, y, pc, ls, st, l, x, e => by
    unfold ltop at e ⊢
    by_cases p : pc = stop
    · rw [if_pos p] at e ⊢
      exact e
    · rw [if_neg p] at e ⊢
      split at e
      · cases e
      · rename_i q hq
        split at e
        · cases e
        · rename_i g
          have gb : ¬ xbad q st = true := fun w => g (Or.inr w)
          rw [if_neg g]
          split at e
          · cases e
          · rename_i s hs
            rw [xstep_rom gb hs]
            exact ltop_rom f e
          · cases e
          · rename_i y' as rest hs
            rw [xstep_rom gb hs]
            dsimp only
            split at e
            · cases e
            · split at e
              · cases e
              · rename_i v1 l1 hc
                rw [lrun_rom f hc]
                exact ltop_rom f e
end LE
