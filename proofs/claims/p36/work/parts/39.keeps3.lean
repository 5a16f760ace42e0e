/-! MEANING, 10: ticks and small changes keep what holds -/
section KR
variable {A : xM} {T : Int}
theorem W_takeOn (hW : WX T A) (ht : tkr A) : WF T (aTakeOn A) ∧ 1 ≤ aTakeOn A 0 11 ∧ aTakeOn A 0 0 = A 0 0 := by
  obtain ⟨⟨⟨s1, s2, s3, s4, s5, s6, s7, s8, s9, s10, s11, s12⟩, ⟨m1, m2, m3, m4, m5, m6⟩, h3, h4, h5⟩, x1, x2⟩ := hW
  have hb : aBy A = 1 ∨ aBy A = 2 := by unfold aBy; omega
  have e11 : aTakeOn A 0 11 = A 0 11 + aBy A := by unfold aTakeOn; rw [xset_eq]
  have hs : ∀ k, k ≠ 11 → aTakeOn A 0 k = A 0 k := fun k h => by unfold aTakeOn; rw [xset_j h]
  have hr : ∀ r x, r ≠ 0 → aTakeOn A r x = A r x := fun r x h => by unfold aTakeOn; rw [xset_r h]
  have hl : aLen (aTakeOn A) (A 0 7).toNat = aLen A (A 0 7).toNat := aLen_c (fun i hi => hs _ (by omega))
  have h11 : A 0 11 < 96 := by
    rcases ht with h | h
    · have := x1 h; omega
    · have a := x2 h
      have b := m3 (m2 (by omega)).1
      omega
  refine ⟨⟨?_, ?_, ?_, ?_, ?_⟩, by omega, hs 0 (by decide)⟩
  · clear m1 m2 m3 m4 m5 m6 x1 x2
    unfold WFs
    rw [e11, hs 0 (by decide), hs 1 (by decide), hs 2 (by decide), hs 3 (by decide), hs 4 (by decide), hs 5 (by decide), hs 7 (by decide), hs 8 (by decide), hs 9 (by decide), hs 10 (by decide), hs 12 (by decide), hs 13 (by decide)]
    omega
  · unfold WFm tkr
    rw [e11, hs 0 (by decide), hs 1 (by decide), hs 6 (by decide), hs 7 (by decide), hs 8 (by decide), hs 12 (by decide), hs 14 (by decide), hl]
    exact ⟨m1, m2, m3, m4, m5, fun w => absurd ht w⟩
  · intro i hi hil
    rw [hs 7 (by decide), hs 8 (by decide)] at hil
    rw [hs (14 + i) (by omega), hs (20 + i) (by omega), hs (26 + i) (by omega), hs 6 (by decide)]
    exact h3 i hi hil
  · intro l x hlx hx
    rw [hr _ _ (by omega)]; exact h4 l x hlx hx
  · intro x hx hq
    unfold tkr tkc at hq
    rw [hs 0 (by decide), hs 6 (by decide)] at hq
    rw [hr 7 x (by decide)]; exact h5 x hx hq
theorem W_tick (hW : WX T A) : WX (T + 3) (aTick A).2 ∧ (A 0 0 = 0 ∨ A 0 0 = 1 ∨ A 0 0 = 2 ∨ A 0 0 = 3 ∨ A 0 0 = 4) := by
  have h0 := hW.1.1.1
  refine ⟨?_, by omega⟩
  unfold aTick
  by_cases q1 : A 0 0 = 0 ∨ A 0 0 = 4
  · rw [if_pos q1]; exact WX_mono hW (by omega)
  · rw [if_neg q1]
    by_cases q2 : A 0 0 = 1
    · rw [if_pos q2]
      obtain ⟨w1, w2, w3⟩ := W_takeOn hW (Or.inl q2)
      show WX (T + 3) (if 48 ≤ (aTakeOn A) 0 11 then aEndFirst (aTakeOn A) else aTakeOn A)
      by_cases q3 : 48 ≤ (aTakeOn A) 0 11
      · rw [if_pos q3]
        exact WX_mono (W_endFirst w1 (by omega) w2).1 (by omega)
      · rw [if_neg q3]
        exact WX_mono (T := T) ⟨w1, fun _ => by omega, fun w => by omega⟩ (by omega)
    · rw [if_neg q2]
      by_cases q3 : A 0 0 = 2
      · rw [if_pos q3]
        obtain ⟨w1, w2⟩ := WF_move hW.1 (by omega)
        have e0 := w2 0 (by decide) (by decide) (by decide) (by decide)
        exact WX_mono (T := T + 2) ⟨w1, fun w => by omega, fun w => by omega⟩ (by omega)
      · rw [if_neg q3]
        have q4 : A 0 0 = 3 := by omega
        obtain ⟨v1, v2, v3⟩ := W_takeOn hW (Or.inr q4)
        obtain ⟨w1, w2⟩ := WF_move v1 (by omega)
        have e0 := w2 0 (by decide) (by decide) (by decide) (by decide)
        show WX (T + 3) (aOver (aLoop (aTakeOn A)).2)
        unfold aOver
        by_cases q5 : 4 * (aLoop (aTakeOn A)).2 0 6 ≤ (aLoop (aTakeOn A)).2 0 11
        · rw [if_pos q5]
          exact WX_mono (W_endOver w1 (by omega)).1 (by omega)
        · rw [if_neg q5]
          exact WX_mono (T := T + 2) ⟨w1, fun w => by omega, fun w => by omega⟩ (by omega)
theorem W_pass (hW : WX T A) : ∀ n : Nat, WX (T + 3 * n) (aPass n A).2
  | 0 => WX_mono hW (by omega)
  | n + 1 => by
    have := (W_tick (W_pass hW n)).1
    exact WX_mono this (by omega)
theorem pass_b (n : Nat) : 0 ≤ (aPass n A).1 ∧ (aPass n A).1 ≤ n := by
  induction n with
  | zero => show (0 : Int) ≤ 0 ∧ (0 : Int) ≤ (0 : Nat); omega
  | succ n ih =>
    have h : 0 ≤ (aTick (aPass n A).2).1 ∧ (aTick (aPass n A).2).1 ≤ 1 := by
      have hl : ∀ B : xM, 0 ≤ (aLoop B).1 ∧ (aLoop B).1 ≤ 1 := fun B => by
        unfold aLoop
        split
        · show (0 : Int) ≤ 1 ∧ (1 : Int) ≤ 1; decide
        · show (0 : Int) ≤ 0 ∧ (0 : Int) ≤ 1; decide
      unfold aTick
      split
      · show (0 : Int) ≤ 0 ∧ (0 : Int) ≤ 1; decide
      · split
        · show (0 : Int) ≤ 0 ∧ (0 : Int) ≤ 1; decide
        · split
          · exact hl _
          · exact hl _
    show 0 ≤ (aPass n A).1 + (aTick (aPass n A).2).1 ∧ (aPass n A).1 + (aTick (aPass n A).2).1 ≤ ((n + 1 : Nat) : Int)
    omega
/-- a change of some numbers and nothing else -/
theorem W_nums {D : xM} {U : Int} (hW : WX T A) (hT : T ≤ U) (hr : ∀ r x, r ≠ 0 → D r x = A r x) (hl : ∀ k, 14 ≤ k → k < 20 → D 0 k = A 0 k) (ha : ∀ k, 26 ≤ k → k < 32 → D 0 k = A 0 k) (hm : ∀ i : Nat, i < 6 → D 0 (20 + i) = A 0 (20 + i) ∨ (D 0 (20 + i) = 0 ∨ D 0 (20 + i) = 1)) (h11 : D 0 11 = A 0 11) (h12 : D 0 12 = A 0 12) (h13 : D 0 13 = A 0 13) (h6 : D 0 6 = A 0 6)
    (h2 : D 0 2 = 0 ∨ D 0 2 = 1) (h3 : 2 ≤ D 0 3 ∧ D 0 3 ≤ 16) (h4 : 0 ≤ D 0 4 ∧ D 0 4 ≤ 8) (h5 : 0 ≤ D 0 5 ∧ D 0 5 ≤ 100) (h0r : 0 ≤ D 0 0 ∧ D 0 0 ≤ 4) (h0a : D 0 0 ≤ 1 ∨ D 0 0 = 3 → D 0 0 = A 0 0) (h0b : 2 ≤ D 0 0 → 2 ≤ A 0 0) (h0e : ¬ tkr D → ¬ tkr A) (h78 : D 0 7 + D 0 8 = A 0 7 + A 0 8 ∧ 0 ≤ D 0 7 ∧ 0 ≤ D 0 8) (h71 : 1 ≤ A 0 7 → 1 ≤ D 0 7) (h35 : A 0 0 = 3 → D 0 7 = A 0 7) (h9 : 0 ≤ D 0 9 ∧ D 0 9 ≤ U) (h10 : 0 ≤ D 0 10 ∧ D 0 10 ≤ U)
    (h1 : 0 ≤ D 0 1 ∧ D 0 1 ≤ 96) (h1a : A 0 0 ≤ 1 → D 0 1 = A 0 1) (h1b : 2 ≤ A 0 0 → D 0 1 < 2 * aLen A (D 0 7).toNat) : WX U D := by
  have hlen : aLen D (D 0 7).toNat = aLen A (D 0 7).toNat := aLen_c (fun i hi => by
    have := hW.1.1.2.2.2.2.2.1
    clear h0a h0b h71 h35 h1a h1b h2
    exact hl _ (by omega) (by omega))
  have e14 := hl 14 (by decide) (by decide)
  have hD : tkr D → D 0 0 = A 0 0 := fun h => h0a (by rcases h with h | h <;> omega)
  refine ⟨⟨?_, ?_, ?_, ?_, ?_⟩, fun w => ?_, fun w => ?_⟩
  · obtain ⟨⟨s1, s2, s3, s4, s5, s6, s7, s8, s9, s10, s11, s12⟩, -⟩ := hW.1
    unfold WFs
    rw [h11, h12, h13]
    clear h0a h0b h71 h35 h1a h1b hD
    exact ⟨h0r, h2, h3, h4, h5, ⟨h78.2.1, h78.2.2, by omega⟩, h9, h10, ⟨s9.1, by omega⟩, s10, s11, h1⟩
  · obtain ⟨-, ⟨m1, m2, m3, m4, m5, m6⟩, -⟩ := hW.1
    unfold WFm
    rw [hlen, h11, h12, e14, h6]
    refine ⟨fun w => ?_, fun w => ?_, fun w => m3 ?_, fun w => m4 ?_, fun w => ?_, fun w => m6 (h0e w)⟩
    · have q := h0a (Or.inl w)
      have p1 := m1 (by rw [← q]; exact w)
      have p2 := h1a (by rw [← q]; exact w)
      clear h0a h0b h71 h35 h1a h1b hD m1 m2 m3 m4 m5 m6 h2
      omega
    · have q := h0b w
      exact ⟨h71 (m2 q).1, h1b q⟩
    · rcases Int.lt_or_le (A 0 0) 2 with q | q
      · have p1 := m1 (by omega)
        clear h0a h0b h71 h35 h1a h1b hD m1 m2 m3 m4 m5 m6 h2
        omega
      · exact (m2 q).1
    · rw [← hD (Or.inl w)]; exact w
    · have q := hD (Or.inr w)
      have q2 : A 0 0 = 3 := by rw [← q]; exact w
      rw [h35 q2]; exact m5 q2
  · intro i hi hil
    rw [h78.1] at hil
    obtain ⟨a, b, c⟩ := hW.1.2.2.1 i hi hil
    clear h0a h0b h71 h35 h1a h1b hD h2
    rw [hl (14 + i) (by omega) (by omega), ha (26 + i) (by omega) (by omega), h6]
    refine ⟨a, ?_, c.1, by omega⟩
    rcases hm i hi with h | h
    · rw [h]; exact b
    · exact h
  · intro l x hlx hx
    rw [hr _ _ (by omega)]; exact hW.1.2.2.2.1 l x hlx hx
  · intro x hx hq
    rw [hr 7 x (by decide)]
    refine hW.1.2.2.2.2 x hx ?_
    by_cases q : tkr D
    · have q2 := hD q
      rcases hq with h | h
      · exact absurd q h
      · unfold tkc at h ⊢
        rw [q2, h6] at h
        exact Or.inr h
    · exact Or.inl (h0e q)
  · have q := hD (Or.inl w)
    rw [h11]; exact hW.2.1 (by rw [← q]; exact w)
  · have q := hD (Or.inr w)
    rw [h11, h6]; exact hW.2.2 (by rw [← q]; exact w)
end KR
