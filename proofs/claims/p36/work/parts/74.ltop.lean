/-! THE CONSTRUCTORS, 3: the law up to its loop -/
section LT
variable {rom : xRom}
def ltop (rom : xRom) (stop : Nat) : Nat → Nat → Nat → Nat × xLs × List xV × List lOp → Option (xLs × List xV × List lOp)
  | 0, _, _, _ => none
  | f + 1, d, y, (pc, ls, st, l) => if pc = stop then some (ls, st, l) else match xcode y pc with
    | none => none
    | some q => if (xcls q.1 = 6 ∧ 6 < q.2.2.1) ∨ xbad q st = true then none else match xstep rom d y pc q ls st (hl l) with
      | none => none
      | some (.inl s) => ltop rom stop f d y (s.1, s.2.1, s.2.2.1, lnext q st l)
      | some (.inr (.inl _)) => none
      | some (.inr (.inr (y', as, rest))) => match d with
        | 0 => none
        | d' + 1 => match lrun rom f d' y' (0, xentry y' as, [], l) with
          | none => none
          | some (v, l') => ltop rom stop f (d' + 1) y (pc + 3, ls, v.toList ++ rest, l')
theorem ltop_ok {stop : Nat} {out : Option xV × xH} : ∀ (f : Nat) {d y pc : Nat} {ls ls' : xLs} {st st' : List xV} {l l' : List lOp}, ltop rom stop f d y (pc, ls, st, l) = some (ls', st', l') → Rn rom d y (stop, ls', st', hl l') out → Rn rom d y (pc, ls, st, hl l) out
  | 0, _, _, _, _, _, _, _, _, _, e, _ => by cases e
  | f + 1, d, y, pc, ls, ls', st, st', l, l', e, k => by
    unfold ltop at e
    by_cases p : pc = stop
    · rw [if_pos p] at e
      cases e
      rw [p]; exact k
    · rw [if_neg p] at e
      split at e
      · cases e
      · rename_i q hq
        split at e
        · cases e
        · rename_i g
          have g' : xcls q.1 = 6 → q.2.2.1 ≤ 6 := fun w => by
            by_cases z : 6 < q.2.2.1
            · exact absurd (Or.inl ⟨w, z⟩) g
            · omega
          split at e
          · cases e
          · rename_i s hs
            have hh := xstep_h g' hs
            refine Rn_next hq hs ?_
            have r := ltop_ok f e k
            rw [← hh] at r
            exact r
          · cases e
          · rename_i y' as rest hs
            split at e
            · cases e
            · split at e
              · cases e
              · rename_i v1 l1 hc
                exact Rn_inv hq hs (lrun_ok f hc) (ltop_ok f e k)
end LT
