/-! MEANING, 8: what holds of each state is kept -/
section KP
variable {A : xM} {T : Int}
theorem aLen_c {A B : xM} {n : Nat} (h : ∀ i, i < n → A 0 (14 + i) = B 0 (14 + i)) : aLen A n = aLen B n := maxN_c n h
theorem WF_mono {T' : Int} (h : WF T A) (ht : T ≤ T') : WF T' A := by
  obtain ⟨⟨s1, s2, s3, s4, s5, s6, s7, s8, s9, s10, s11, s12⟩, h2, h3, h4, h5⟩ := h
  refine ⟨⟨s1, s2, s3, s4, s5, s6, by omega, by omega, by omega, s10, s11, s12⟩, h2, fun i hi hl => ?_, h4, h5⟩
  obtain ⟨a, b, c⟩ := h3 i hi hl
  exact ⟨a, b, by omega⟩
theorem WX_mono {T' : Int} (h : WX T A) (ht : T ≤ T') : WX T' A := ⟨WF_mono h.1 ht, h.2⟩
theorem aFadeN_sc : ∀ (n k : Nat), k < 26 → aFadeN n A 0 k = A 0 k
  | 0, _, _ => rfl
  | n + 1, k, h => by
    show aFadeL (aFadeN n A) n 0 k = _
    unfold aFadeL
    rw [rowU_ne (by omega), xset_j (by omega)]
    exact aFadeN_sc n k h
theorem aFadeN_age : ∀ (n i : Nat), aFadeN n A 0 (26 + i) = if i < n then A 0 (26 + i) + 1 else A 0 (26 + i)
  | 0, i => by rw [if_neg (by omega)]; rfl
  | n + 1, i => by
    show aFadeL (aFadeN n A) n 0 (26 + i) = _
    unfold aFadeL
    rw [rowU_ne (by omega), xset_d]
    by_cases q : i = n
    · rw [if_pos ⟨rfl, by omega⟩, aFadeN_age n n, if_neg (by omega), if_pos (by omega), q]
    · rw [if_neg (by omega), aFadeN_age n i]
      by_cases q2 : i < n
      · rw [if_pos q2, if_pos (by omega)]
      · rw [if_neg q2, if_neg (by omega)]
theorem aFadeN_row : ∀ (n i x : Nat), aFadeN n A (i + 1) x = if i < n ∧ x < 36 * (A 0 (14 + i)).toNat ∧ i < 12 then A (i + 1) x * (100 - A 0 5) / 100 else if i < n ∧ x < 36 * (aFadeN i A 0 (14 + i)).toNat then A (i + 1) x * (100 - A 0 5) / 100 else A (i + 1) x
  | 0, i, x => by rw [if_neg (by omega), if_neg (by omega)]; rfl
  | n + 1, i, x => by
    show aFadeL (aFadeN n A) n (i + 1) x = _
    have ih := aFadeN_row n i x
    unfold aFadeL
    by_cases q : i = n
    · subst q
      rw [if_neg (show ¬ (i < i ∧ x < 36 * (A 0 (14 + i)).toNat ∧ i < 12) by omega), if_neg (show ¬ (i < i ∧ x < 36 * (aFadeN i A 0 (14 + i)).toNat) by omega)] at ih
      by_cases q2 : x < 36 * (aFadeN i A 0 (14 + i)).toNat
      · rw [rowU_at q2, ih, aFadeN_sc i 5 (by omega), if_pos (show i < i + 1 ∧ x < 36 * (aFadeN i A 0 (14 + i)).toNat by omega)]
        split <;> rfl
      · rw [rowU_ge (by omega), xset_r (by omega), ih, if_neg (show ¬ (i < i + 1 ∧ x < 36 * (aFadeN i A 0 (14 + i)).toNat) by omega)]
        by_cases q3 : i < 12
        · rw [aFadeN_sc i (14 + i) (by omega)] at q2
          rw [if_neg (by omega)]
        · rw [if_neg (by omega)]
    · rw [rowU_ne (by omega), xset_r (by omega), ih]
      by_cases q2 : i < n
      · simp only [q2, show i < n + 1 by omega, true_and]
      · simp only [q2, show ¬ i < n + 1 by omega, false_and]
theorem aFade_row {i x : Nat} (hi : i < 6) : aFade A (i + 1) x = if i < (A 0 7).toNat ∧ x < 36 * (A 0 (14 + i)).toNat then A (i + 1) x * (100 - A 0 5) / 100 else A (i + 1) x := by
  unfold aFade
  rw [aFadeN_row, aFadeN_sc i (14 + i) (by omega)]
  by_cases q : i < (A 0 7).toNat ∧ x < 36 * (A 0 (14 + i)).toNat
  · rw [if_pos (by omega), if_pos q]
  · rw [if_neg (by omega), if_neg q]
theorem aFade_take {x : Nat} (h : A 0 7 ≤ 6) : aFade A 7 x = A 7 x := by
  have e := aFadeN_row (A := A) (A 0 7).toNat 6 x
  rw [if_neg (by omega), if_neg (by omega)] at e
  exact e
theorem aFade_sc {k : Nat} (h : k < 26) : aFade A 0 k = A 0 k := aFadeN_sc _ k h
theorem fade_b {f d : Int} (hf : 0 ≤ f ∧ f ≤ 99) (hd : 0 ≤ d ∧ d ≤ 100) : 0 ≤ f * d ∧ f * d ≤ 9900 ∧ 0 ≤ f * d / 100 ∧ f * d / 100 ≤ f := by
  have h1 : 0 ≤ f * d := Int.mul_nonneg hf.1 hd.1
  have h2 : f * d ≤ f * 100 := Int.mul_le_mul_of_nonneg_left hd.2 hf.1
  omega
theorem WFf_fadeN (hF : WFf A) (h5 : 0 ≤ A 0 5 ∧ A 0 5 ≤ 100) (n : Nat) : WFf (aFadeN n A) := by
  intro l x hl hx
  have h1 := hF l x hl hx
  have h2 := fade_b h1 (d := 100 - A 0 5) (by omega)
  rw [aFadeN_row]
  split
  · omega
  · split <;> omega
/-- a state with other numbers -/
theorem WF_move (hW : WF T A) (h2 : 2 ≤ A 0 0) : WF (T + 2) (aLoop A).2 ∧ (∀ k, k < 20 → k ≠ 1 → k ≠ 9 → k ≠ 10 → (aLoop A).2 0 k = A 0 k) := by
  obtain ⟨⟨s1, s2, s3, s4, s5, s6, s7, s8, s9, s10, s11, s12⟩, ⟨m1, m2, m3, m4, m5⟩, h3, h4, h5⟩ := hW
  have hby : aBy A = 1 ∨ aBy A = 2 := by unfold aBy; omega
  have hm := m2 h2
  have hA : ∀ k, k ≠ 1 → k ≠ 10 → aMove A 0 k = A 0 k := fun k h1 h10 => by unfold aMove; rw [xset_j h10, xset_j h1]
  have hr : ∀ l x, aMove A (l + 1) x = A (l + 1) x := fun l x => by unfold aMove; rw [xset_r (by omega), xset_r (by omega)]
  have e1 : aMove A 0 1 = A 0 1 + aBy A := by unfold aMove; rw [xset_j (by decide), xset_eq]
  have e10 : aMove A 0 10 = A 0 10 + aBy A := by unfold aMove; rw [xset_eq]
  have hlen : aLen (aMove A) ((aMove A) 0 7).toNat = aLen A (A 0 7).toNat := by
    rw [hA 7 (by decide) (by decide)]
    exact aLen_c (fun i hi => hA _ (by omega) (by omega))
  have hlb : 1 ≤ aLen A (A 0 7).toNat ∧ aLen A (A 0 7).toNat ≤ 48 := by
    have q := aLen_b (T := T) (A := A) ⟨⟨s1, s2, s3, s4, s5, s6, s7, s8, s9, s10, s11, s12⟩, ⟨m1, m2, m3, m4, m5⟩, h3, h4, h5⟩ (n := (A 0 7).toNat) (by omega)
    have q2 : A 0 (14 + 0) ≤ aLen A (A 0 7).toNat := maxN_ge (f := fun i => A 0 (14 + i)) _ 0 (by omega)
    have q3 := m3 hm.1
    have q4 : A 0 (14 + 0) = A 0 14 := rfl
    omega
  unfold aLoop
  by_cases q : 2 * aLen (aMove A) ((aMove A) 0 7).toNat ≤ (aMove A) 0 1
  · rw [if_pos q]
    dsimp only
    rw [hlen, e1] at q
    -- the state behind the turn
    have hs : ∀ k, k < 26 → k ≠ 1 → k ≠ 9 → k ≠ 10 → aTurn (aMove A) 0 k = A 0 k := fun k hk h1 h9 h10 => by
      unfold aTurn
      rw [aFade_sc hk, xset_j h9, xset_j h1, hA k h1 h10]
    have t1 : aTurn (aMove A) 0 1 = A 0 1 + aBy A - 2 * aLen A (A 0 7).toNat := by
      unfold aTurn
      rw [aFade_sc (by decide), xset_j (by decide), xset_eq, hlen, e1]
    have t9 : aTurn (aMove A) 0 9 = A 0 9 + 1 := by
      unfold aTurn
      rw [aFade_sc (by decide), xset_eq, hA 9 (by decide) (by decide)]
    have t10 : aTurn (aMove A) 0 10 = A 0 10 + aBy A := by
      unfold aTurn
      rw [aFade_sc (by decide), xset_j (by decide), xset_j (by decide), e10]
    have tl : aLen (aTurn (aMove A)) (A 0 7).toNat = aLen A (A 0 7).toNat := aLen_c (fun i hi => hs _ (by omega) (by omega) (by omega) (by omega))
    have hX : ∀ l x, xset (xset (aMove A) 0 1 ((aMove A) 0 1 - 2 * aLen (aMove A) ((aMove A) 0 7).toNat)) 0 9 ((aMove A) 0 9 + 1) (l + 1) x = A (l + 1) x := fun l x => by rw [xset_r (by omega), xset_r (by omega), hr]
    have tt : ∀ x, aTurn (aMove A) 7 x = A 7 x := fun x => by
      unfold aTurn
      rw [aFade_take (by rw [xset_j (by decide), xset_j (by decide), hA 7 (by decide) (by decide)]; omega)]
      exact hX 6 x
    refine ⟨⟨?_, ?_, ?_, ?_, ?_⟩, fun k hk h1 h9 h10 => hs k (by omega) h1 h9 h10⟩
    · unfold WFs
      rw [t1, t9, t10, hs 0 (by decide) (by decide) (by decide) (by decide), hs 2 (by decide) (by decide) (by decide) (by decide), hs 3 (by decide) (by decide) (by decide) (by decide), hs 4 (by decide) (by decide) (by decide) (by decide), hs 5 (by decide) (by decide) (by decide) (by decide), hs 7 (by decide) (by decide) (by decide) (by decide), hs 8 (by decide) (by decide) (by decide) (by decide), hs 11 (by decide) (by decide) (by decide) (by decide), hs 12 (by decide) (by decide) (by decide) (by decide), hs 13 (by decide) (by decide) (by decide) (by decide)]
      omega
    · unfold WFm tkr
      rw [t1, hs 0 (by decide) (by decide) (by decide) (by decide), hs 7 (by decide) (by decide) (by decide) (by decide), hs 8 (by decide) (by decide) (by decide) (by decide), hs 6 (by decide) (by decide) (by decide) (by decide), hs 14 (by decide) (by decide) (by decide) (by decide), hs 12 (by decide) (by decide) (by decide) (by decide), hs 11 (by decide) (by decide) (by decide) (by decide), tl]
      exact ⟨fun w => by omega, fun _ => ⟨hm.1, by omega⟩, m3, m4, m5⟩
    · intro i hi hl
      have ha : aTurn (aMove A) 0 (26 + i) = A 0 (26 + i) ∨ aTurn (aMove A) 0 (26 + i) = A 0 (26 + i) + 1 := by
        unfold aTurn aFade
        rw [aFadeN_age]
        have e : xset (xset (aMove A) 0 1 ((aMove A) 0 1 - 2 * aLen (aMove A) ((aMove A) 0 7).toNat)) 0 9 ((aMove A) 0 9 + 1) 0 (26 + i) = A 0 (26 + i) := by rw [xset_j (by omega), xset_j (by omega), hA _ (by omega) (by omega)]
        rw [e]
        split
        · exact Or.inr rfl
        · exact Or.inl rfl
      rw [hs 7 (by decide) (by decide) (by decide) (by decide), hs 8 (by decide) (by decide) (by decide) (by decide)] at hl
      obtain ⟨a, b, c⟩ := h3 i hi hl
      rw [hs (14 + i) (by omega) (by omega) (by omega) (by omega), hs (20 + i) (by omega) (by omega) (by omega) (by omega), hs 6 (by decide) (by decide) (by decide) (by decide)]
      exact ⟨a, b, by omega⟩
    · unfold aTurn aFade
      refine WFf_fadeN (fun l x hl hx => by rw [hX]; exact h4 l x hl hx) ?_ _
      rw [xset_j (by decide), xset_j (by decide), hA 5 (by decide) (by decide)]; exact s5
    · intro x hx hq
      unfold tkr tkc at hq
      rw [hs 0 (by decide) (by decide) (by decide) (by decide), hs 6 (by decide) (by decide) (by decide) (by decide)] at hq
      show aTurn (aMove A) 7 x = 0
      rw [tt]; exact h5 x hx hq
  · rw [if_neg q]
    dsimp only
    rw [hlen, e1] at q
    refine ⟨⟨?_, ?_, ?_, ?_, ?_⟩, fun k hk h1 h9 h10 => hA k h1 h10⟩
    · unfold WFs
      rw [e1, e10, hA 0 (by decide) (by decide), hA 2 (by decide) (by decide), hA 3 (by decide) (by decide), hA 4 (by decide) (by decide), hA 5 (by decide) (by decide), hA 7 (by decide) (by decide), hA 8 (by decide) (by decide), hA 9 (by decide) (by decide), hA 11 (by decide) (by decide), hA 12 (by decide) (by decide), hA 13 (by decide) (by decide)]
      omega
    · have tl : aLen (aMove A) (A 0 7).toNat = aLen A (A 0 7).toNat := aLen_c (fun i hi => hA _ (by omega) (by omega))
      unfold WFm tkr
      rw [e1, hA 0 (by decide) (by decide), hA 7 (by decide) (by decide), hA 8 (by decide) (by decide), hA 6 (by decide) (by decide), hA 14 (by decide) (by decide), hA 12 (by decide) (by decide), hA 11 (by decide) (by decide), tl]
      exact ⟨fun w => by omega, fun _ => ⟨hm.1, by omega⟩, m3, m4, m5⟩
    · intro i hi hl
      rw [hA 7 (by decide) (by decide), hA 8 (by decide) (by decide)] at hl
      obtain ⟨a, b, c⟩ := h3 i hi hl
      rw [hA (14 + i) (by omega) (by omega), hA (20 + i) (by omega) (by omega), hA (26 + i) (by omega) (by omega), hA 6 (by decide) (by decide)]
      exact ⟨a, b, by omega⟩
    · intro l x hl hx
      rw [hr]; exact h4 l x hl hx
    · intro x hx hq
      unfold tkr tkc at hq
      rw [hA 0 (by decide) (by decide), hA 6 (by decide) (by decide)] at hq
      exact (hr 6 x).trans (h5 x hx hq)
end KP
