/-! THE CONSTRUCTORS, 5: the heap that the log makes -/
section LF
/-- numbers, kinds and sizes agree -/
def cN : Nat → List lOp → Bool
  | n, [] => n == 0
  | n, o :: l => if o.1 = 0 then (match n with
    | 0 => false
    | n' + 1 => decide (o.2.1 = Tg (n' + 1)) && decide (o.2.2.1 = Zs (n' + 1)) && cN n' l) else cN n l
theorem cN_ok : ∀ (l : List lOp) {n : Nat}, cN n l = true → gN (hl l).1 = n ∧ ∀ r, (gT (hl l).1 r = if 1 ≤ r ∧ r ≤ n then Tg r else 999) ∧ (gZ (hl l).1 r = if 1 ≤ r ∧ r ≤ n then Zs r else 0)
  | [], n, h => by
    have h0 : n = 0 := by unfold cN at h; exact beq_iff_eq.mp h
    subst h0
    refine ⟨rfl, fun r => ?_⟩
    rw [if_neg (by omega), if_neg (by omega)]
    exact ⟨rfl, rfl⟩
  | o :: l, n, h => by
    unfold cN at h
    unfold hl hop
    by_cases q : o.1 = 0
    · rw [if_pos q] at h ⊢
      cases n with
      | zero => cases h
      | succ n =>
        simp only [Bool.and_eq_true, decide_eq_true_eq] at h
        obtain ⟨⟨h1, h2⟩, h3⟩ := h
        obtain ⟨e1, e2⟩ := cN_ok l h3
        refine ⟨by show gN (hl l).1 + 1 = n + 1; rw [e1], fun r => ?_⟩
        show xrow (gT (hl l).1) (gN (hl l).1 + 1) o.2.1 r = _ ∧ xrow (gZ (hl l).1) (gN (hl l).1 + 1) o.2.2.1 r = _
        unfold xrow
        rw [e1]
        by_cases z : r = n + 1
        · subst z
          rw [if_pos rfl, if_pos rfl, if_pos ⟨by omega, by omega⟩, if_pos ⟨by omega, by omega⟩]
          exact ⟨h1, h2⟩
        · rw [if_neg z, if_neg z, (e2 r).1, (e2 r).2]
          by_cases y : 1 ≤ r ∧ r ≤ n
          · rw [if_pos y, if_pos y, if_pos ⟨y.1, by omega⟩, if_pos ⟨y.1, by omega⟩]
            exact ⟨rfl, rfl⟩
          · rw [if_neg y, if_neg y, if_neg (by omega), if_neg (by omega)]
            exact ⟨rfl, rfl⟩
    · rw [if_neg q] at h ⊢
      obtain ⟨e1, e2⟩ := cN_ok l h
      by_cases q1 : o.1 = 1
      · rw [if_pos q1]; exact ⟨e1, e2⟩
      · rw [if_neg q1]; exact ⟨e1, e2⟩
/-- what is put is what stands there at the end -/
def cV (l : List lOp) : Bool := l.all fun o => if o.1 = 0 then true else if o.1 = 1 then decide (o.2.2.2 = M0 o.2.1 o.2.2.1) else decide (o.2.2.2.toNat = Pr o.2.1 o.2.2.1)
theorem cV_ok : ∀ (l : List lOp), cV l = true → ∀ r c, ((hl l).2 r c = 0 ∨ (hl l).2 r c = M0 r c) ∧ (gP (hl l).1 r c = 0 ∨ gP (hl l).1 r c = Pr r c)
  | [], _, r, c => ⟨Or.inl rfl, Or.inl rfl⟩
  | o :: l, h, r, c => by
    unfold cV at h
    rw [List.all_cons, Bool.and_eq_true] at h
    obtain ⟨h1, h2⟩ := h
    have ih := cV_ok l h2 r c
    unfold hl hop
    by_cases q : o.1 = 0
    · rw [if_pos q]
      show (xrow (hl l).2 (gN (hl l).1 + 1) (fun _ => 0) r c = 0 ∨ xrow (hl l).2 (gN (hl l).1 + 1) (fun _ => 0) r c = M0 r c) ∧ (xrow (gP (hl l).1) (gN (hl l).1 + 1) (fun _ => 0) r c = 0 ∨ xrow (gP (hl l).1) (gN (hl l).1 + 1) (fun _ => 0) r c = Pr r c)
      unfold xrow
      by_cases z : r = gN (hl l).1 + 1
      · rw [if_pos z, if_pos z]; exact ⟨Or.inl rfl, Or.inl rfl⟩
      · rw [if_neg z, if_neg z]; exact ih
    · rw [if_neg q] at h1 ⊢
      by_cases q1 : o.1 = 1
      · rw [if_pos q1] at h1 ⊢
        have h1 := of_decide_eq_true h1
        refine ⟨?_, ih.2⟩
        show xset (hl l).2 o.2.1 o.2.2.1 o.2.2.2 r c = 0 ∨ xset (hl l).2 o.2.1 o.2.2.1 o.2.2.2 r c = M0 r c
        unfold xset
        by_cases z : r = o.2.1 ∧ c = o.2.2.1
        · rw [if_pos z, z.1, z.2]; exact Or.inr h1
        · rw [if_neg z]; exact ih.1
      · rw [if_neg q1] at h1 ⊢
        have h1 := of_decide_eq_true h1
        refine ⟨ih.1, ?_⟩
        show xset (gP (hl l).1) o.2.1 o.2.2.1 o.2.2.2.toNat r c = 0 ∨ xset (gP (hl l).1) o.2.1 o.2.2.1 o.2.2.2.toNat r c = Pr r c
        unfold xset
        by_cases z : r = o.2.1 ∧ c = o.2.2.1
        · rw [if_pos z, z.1, z.2]; exact Or.inr h1
        · rw [if_neg z]; exact ih.2
/-- the cells that must have been put -/
def cP (h : xH) : Bool := (List.range 182).all fun r => (List.range 9).all fun c => (Pr r c == 0) || (gP h.1 r c == Pr r c)
def cM (h : xH) : Bool := [3, 27, 53, 77, 101, 125, 149].all (fun r => h.2 r 0 == 8 && h.2 r 1 == 1)
theorem Pr_big {r c : Nat} (h : 182 ≤ r ∨ 9 ≤ c) : Pr r c = 0 := by
  rcases Nat.lt_or_ge r 182 with q | q
  · have hc : 9 ≤ c := by omega
    have w : (Prl.getD r []).length ≤ 9 := by
      have a : (List.range 182).all (fun r => decide ((Prl.getD r []).length ≤ 9)) = true := by decide +kernel
      exact of_decide_eq_true (List.all_eq_true.mp a r (List.mem_range.mpr q))
    unfold Pr
    rw [List.getD_eq_getElem?_getD, List.getElem?_eq_none (by omega)]; rfl
  · unfold Pr
    have e : Prl.getD r [] = [] := by
      rw [List.getD_eq_getElem?_getD, List.getElem?_eq_none (show Prl.length ≤ r from q)]; rfl
    rw [e]; rfl
theorem hl_eq {l : List lOp} (h1 : cN 181 l = true) (h2 : cV l = true) (h3 : cP (hl l) = true) (h4 : cM (hl l) = true) (h5 : gW (hl l).1 = 85294) : hl l = (G0, M0) := by
  obtain ⟨a1, a2⟩ := cN_ok l h1
  have b := cV_ok l h2
  have eT : gT (hl l).1 = Tg := funext fun r => by
    rw [(a2 r).1]
    by_cases q : 1 ≤ r ∧ r ≤ 181
    · rw [if_pos q]
    · rw [if_neg q]
      rcases Nat.eq_zero_or_pos r with z | z
      · rw [z]; rfl
      · unfold Tg
        rw [List.getD_eq_getElem?_getD, List.getElem?_eq_none (show Tgl.length ≤ r from by have : Tgl.length = 182 := by decide +kernel
                                                                                           omega)]
        rfl
  have eZ : gZ (hl l).1 = Zs := funext fun r => by
    rw [(a2 r).2]
    by_cases q : 1 ≤ r ∧ r ≤ 181
    · rw [if_pos q]
    · rw [if_neg q]
      rcases Nat.eq_zero_or_pos r with z | z
      · rw [z]; rfl
      · unfold Zs
        rw [List.getD_eq_getElem?_getD, List.getElem?_eq_none (show Zsl.length ≤ r from by have : Zsl.length = 182 := by decide +kernel
                                                                                           omega)]
        rfl
  have eP : gP (hl l).1 = Pr := funext fun r => funext fun c => by
    rcases (b r c).2 with z | z
    · by_cases w : 182 ≤ r ∨ 9 ≤ c
      · rw [z, Pr_big w]
      · unfold cP at h3
        have h := List.all_eq_true.mp (List.all_eq_true.mp h3 r (List.mem_range.mpr (by omega))) c (List.mem_range.mpr (by omega))
        rw [Bool.or_eq_true, beq_iff_eq, beq_iff_eq] at h
        rcases h with h | h
        · rw [z, h]
        · exact h
    · exact z
  have eM : (hl l).2 = M0 := funext fun r => funext fun c => by
    rcases (b r c).1 with z | z
    · unfold cM at h4
      simp only [List.all_cons, List.all_nil, Bool.and_eq_true, beq_iff_eq, Bool.and_true] at h4
      by_cases w : M0 r c = 0
      · rw [z, w]
      · exfalso
        unfold M0 at w
        by_cases q : r = 3 ∨ r = 27 ∨ r = 53 ∨ r = 77 ∨ r = 101 ∨ r = 125 ∨ r = 149
        · rw [if_pos q] at w
          by_cases c0 : c = 0
          · subst c0
            rcases q with q | q | q | q | q | q | q <;> subst q <;> omega
          · rw [if_neg c0] at w
            by_cases c1 : c = 1
            · subst c1
              rcases q with q | q | q | q | q | q | q <;> subst q <;> omega
            · rw [if_neg c1] at w
              exact w rfl
        · rw [if_neg q] at w
          exact w rfl
    · exact z
  have e1 : (hl l).1 = G0 := by
    show (gN (hl l).1, gW (hl l).1, gT (hl l).1, gZ (hl l).1, gP (hl l).1) = G0
    rw [a1, h5, eT, eZ, eP]
    rfl
  show ((hl l).1, (hl l).2) = (G0, M0)
  rw [e1, eM]
end LF
