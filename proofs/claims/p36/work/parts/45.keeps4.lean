/-! MEANING, 16: calls keep what holds -/
section KS
variable {A : xM} {T : Int}
theorem aBegin_sc {k : Nat} (h0 : k ≠ 0) (h11 : k ≠ 11) (h12 : k ≠ 12) : aBegin A 0 k = A 0 k := by unfold aBegin; rw [rowU_ne (by omega), xset_j h11, xset_j h12, xset_j h0]
theorem aBegin_0 : aBegin A 0 0 = if A 0 0 = 0 then 1 else 3 := by unfold aBegin; rw [rowU_ne (by omega), xset_j (by decide), xset_j (by decide), xset_eq]
theorem aBegin_11 : aBegin A 0 11 = 0 := by unfold aBegin; rw [rowU_ne (by omega), xset_eq]
theorem aBegin_12 : aBegin A 0 12 = A 0 1 := by unfold aBegin; rw [rowU_ne (by omega), xset_j (by decide), xset_eq]
theorem aBegin_row {r x : Nat} (h0 : r ≠ 0) (h7 : r ≠ 7) : aBegin A r x = A r x := by unfold aBegin; rw [rowU_ne h7, xset_r h0, xset_r h0, xset_r h0]
theorem aBegin_7 {x : Nat} (hx : x < 1728) : aBegin A 7 x = 0 := by unfold aBegin; rw [rowU_at hx]
theorem W_begin (hW : WX T A) (h : A 0 0 = 0 ∨ (A 0 0 = 2 ∧ A 0 7 ≤ 5)) : WX T (aBegin A) := by
  have e0 : aBegin A 0 0 = 1 ∧ A 0 0 = 0 ∨ aBegin A 0 0 = 3 ∧ A 0 0 = 2 ∧ A 0 7 ≤ 5 := by
    rcases h with h | h
    · exact Or.inl ⟨by rw [aBegin_0, if_pos h], h⟩
    · exact Or.inr ⟨by rw [aBegin_0, if_neg (by omega)], h⟩
  have s7 := hW.1.1.2.2.2.2.2.1
  have hl : aLen (aBegin A) (A 0 7).toNat = aLen A (A 0 7).toNat := aLen_c (fun i hi => aBegin_sc (by omega) (by omega) (by omega))
  refine ⟨⟨?_, ?_, ?_, ?_, ?_⟩, fun w => ?_, fun w => ?_⟩
  · obtain ⟨s1, s2, s3, s4, s5, s6, s7, s8, s9, s10, s11, s12⟩ := hW.1.1
    unfold WFs
    rw [aBegin_11, aBegin_12, aBegin_sc (k := 1) (by decide) (by decide) (by decide), aBegin_sc (k := 2) (by decide) (by decide) (by decide), aBegin_sc (k := 3) (by decide) (by decide) (by decide), aBegin_sc (k := 4) (by decide) (by decide) (by decide), aBegin_sc (k := 5) (by decide) (by decide) (by decide), aBegin_sc (k := 7) (by decide) (by decide) (by decide), aBegin_sc (k := 8) (by decide) (by decide) (by decide), aBegin_sc (k := 9) (by decide) (by decide) (by decide), aBegin_sc (k := 10) (by decide) (by decide) (by decide), aBegin_sc (k := 13) (by decide) (by decide) (by decide)]
    exact ⟨by omega, s2, s3, s4, s5, s6, s7, s8, s9, by decide, s12, s12⟩
  · have hm := hW.1.2.1
    unfold WFm
    rw [aBegin_11, aBegin_12, aBegin_sc (k := 1) (by decide) (by decide) (by decide), aBegin_sc (k := 6) (by decide) (by decide) (by decide), aBegin_sc (k := 7) (by decide) (by decide) (by decide), aBegin_sc (k := 8) (by decide) (by decide) (by decide), aBegin_sc (k := 14) (by decide) (by decide) (by decide), hl]
    exact ⟨fun w => hm.1 (by omega), fun w => hm.2.1 (by omega), hm.2.2.1, fun w => (hm.1 (by omega)).2.2, fun w => by omega, fun _ => rfl⟩
  · intro i hi hil
    rw [aBegin_sc (k := 7) (by decide) (by decide) (by decide), aBegin_sc (k := 8) (by decide) (by decide) (by decide)] at hil
    rw [aBegin_sc (k := 14 + i) (by omega) (by omega) (by omega), aBegin_sc (k := 20 + i) (by omega) (by omega) (by omega), aBegin_sc (k := 26 + i) (by omega) (by omega) (by omega), aBegin_sc (k := 6) (by decide) (by decide) (by decide)]
    exact hW.1.2.2.1 i hi hil
  · intro l x hl hx
    by_cases q : l + 1 = 7
    · rw [q, aBegin_7 hx]; omega
    · rw [aBegin_row (by omega) q]; exact hW.1.2.2.2.1 l x hl hx
  · intro x hx _; exact aBegin_7 hx
  · rw [aBegin_11]; decide
  · rw [aBegin_11, aBegin_sc (k := 6) (by decide) (by decide) (by decide)]
    have := hW.1.2.1.2.2.1
    have h2 := (hW.1.2.1.2.1 (by omega)).1
    have := this h2
    omega
theorem aStop_sc {k : Nat} (h0 : k ≠ 0) (h11 : k ≠ 11) : aStop A 0 k = A 0 k := by unfold aStop; rw [aClr_sc h11, xset_j h0]
theorem aStop_0 : aStop A 0 0 = if A 0 0 = 1 then 0 else 4 := by unfold aStop; rw [aClr_sc (by decide), xset_eq]
theorem aStop_11 : aStop A 0 11 = 0 := by unfold aStop; rw [aClr_11]
theorem aStop_row {r x : Nat} (h0 : r ≠ 0) (h7 : r ≠ 7) : aStop A r x = A r x := by unfold aStop; rw [aClr_row h0 h7, xset_r h0]
theorem aStop_7 {x : Nat} (hx : x < 1728) : aStop A 7 x = 0 := by unfold aStop; rw [aClr_7 hx]
theorem W_stop (hW : WX T A) (h : A 0 0 ≠ 0 ∧ A 0 0 ≠ 4) : WX T (aStop A) := by
  have s0 := hW.1.1.1
  have e0 : aStop A 0 0 = 0 ∧ A 0 0 = 1 ∨ aStop A 0 0 = 4 ∧ 2 ≤ A 0 0 := by
    by_cases q : A 0 0 = 1
    · exact Or.inl ⟨by rw [aStop_0, if_pos q], q⟩
    · exact Or.inr ⟨by rw [aStop_0, if_neg q], by omega⟩
  have hl : aLen (aStop A) (A 0 7).toNat = aLen A (A 0 7).toNat := aLen_c (fun i hi => aStop_sc (by omega) (by have := hW.1.1.2.2.2.2.2.1; omega))
  refine ⟨⟨?_, ?_, ?_, ?_, ?_⟩, fun w => by omega, fun w => by omega⟩
  · obtain ⟨s1, s2, s3, s4, s5, s6, s7, s8, s9, s10, s11, s12⟩ := hW.1.1
    unfold WFs
    rw [aStop_11, aStop_sc (k := 1) (by decide) (by decide), aStop_sc (k := 2) (by decide) (by decide), aStop_sc (k := 3) (by decide) (by decide), aStop_sc (k := 4) (by decide) (by decide), aStop_sc (k := 5) (by decide) (by decide), aStop_sc (k := 7) (by decide) (by decide), aStop_sc (k := 8) (by decide) (by decide), aStop_sc (k := 9) (by decide) (by decide), aStop_sc (k := 10) (by decide) (by decide), aStop_sc (k := 12) (by decide) (by decide), aStop_sc (k := 13) (by decide) (by decide)]
    exact ⟨by omega, s2, s3, s4, s5, s6, s7, s8, s9, by decide, s11, s12⟩
  · have hm := hW.1.2.1
    unfold WFm
    rw [aStop_11, aStop_sc (k := 1) (by decide) (by decide), aStop_sc (k := 6) (by decide) (by decide), aStop_sc (k := 7) (by decide) (by decide), aStop_sc (k := 8) (by decide) (by decide), aStop_sc (k := 12) (by decide) (by decide), aStop_sc (k := 14) (by decide) (by decide), hl]
    exact ⟨fun w => hm.1 (by omega), fun w => hm.2.1 (by omega), hm.2.2.1, fun w => by omega, fun w => by omega, fun _ => rfl⟩
  · intro i hi hil
    rw [aStop_sc (k := 7) (by decide) (by decide), aStop_sc (k := 8) (by decide) (by decide)] at hil
    rw [aStop_sc (k := 14 + i) (by omega) (by omega), aStop_sc (k := 20 + i) (by omega) (by omega), aStop_sc (k := 26 + i) (by omega) (by omega), aStop_sc (k := 6) (by decide) (by decide)]
    exact hW.1.2.2.1 i hi hil
  · intro l x hl hx
    by_cases q : l + 1 = 7
    · rw [q, aStop_7 hx]; omega
    · rw [aStop_row (by omega) q]; exact hW.1.2.2.2.1 l x hl hx
  · intro x hx _; exact aStop_7 hx
theorem aEmpty_sc {k : Nat} (h0 : k ≠ 0) (h1 : k ≠ 1) (h6 : k ≠ 6) (h7 : k ≠ 7) (h8 : k ≠ 8) (h9 : k ≠ 9) (h10 : k ≠ 10) (h11 : k ≠ 11) : aEmpty A 0 k = A 0 k := by
  unfold aEmpty aStarts; rw [xset_j h6, xset_j h8, xset_j h7, xset_j h0, aClr_sc h11, xset_j h10, xset_j h9, xset_j h1, xset_j h0]
theorem aEmpty_0 {k : Nat} (h : k = 0 ∨ k = 1 ∨ k = 6 ∨ k = 7 ∨ k = 8 ∨ k = 9 ∨ k = 10 ∨ k = 11) : aEmpty A 0 k = 0 := by
  unfold aEmpty aStarts
  rcases h with h | h | h | h | h | h | h | h <;> subst h
  · rw [xset_j (by decide), xset_j (by decide), xset_j (by decide), xset_eq]
  · rw [xset_j (by decide), xset_j (by decide), xset_j (by decide), xset_j (by decide), aClr_sc (by decide), xset_j (by decide), xset_j (by decide), xset_eq]
  · rw [xset_eq]
  · rw [xset_j (by decide), xset_j (by decide), xset_eq]
  · rw [xset_j (by decide), xset_eq]
  · rw [xset_j (by decide), xset_j (by decide), xset_j (by decide), xset_j (by decide), aClr_sc (by decide), xset_j (by decide), xset_eq]
  · rw [xset_j (by decide), xset_j (by decide), xset_j (by decide), xset_j (by decide), aClr_sc (by decide), xset_eq]
  · rw [xset_j (by decide), xset_j (by decide), xset_j (by decide), xset_j (by decide), aClr_11]
theorem aEmpty_row {r x : Nat} (h0 : r ≠ 0) (h7 : r ≠ 7) : aEmpty A r x = A r x := by
  unfold aEmpty aStarts; rw [xset_r h0, xset_r h0, xset_r h0, xset_r h0, aClr_row h0 h7, xset_r h0, xset_r h0, xset_r h0, xset_r h0]
theorem aEmpty_7 {x : Nat} (hx : x < 1728) : aEmpty A 7 x = 0 := by
  unfold aEmpty; rw [xset_r (by decide), xset_r (by decide), xset_r (by decide), xset_r (by decide), aClr_7 hx]
theorem W_empty (hW : WX T A) : WX T (aEmpty A) := by
  have z0 := aEmpty_0 (A := A) (k := 0) (by decide)
  have z1 := aEmpty_0 (A := A) (k := 1) (by decide)
  have z7 := aEmpty_0 (A := A) (k := 7) (by decide)
  have z8 := aEmpty_0 (A := A) (k := 8) (by decide)
  have z11 := aEmpty_0 (A := A) (k := 11) (by decide)
  refine ⟨⟨?_, ?_, ?_, ?_, ?_⟩, fun w => by omega, fun w => by omega⟩
  · obtain ⟨s1, s2, s3, s4, s5, s6, s7, s8, s9, s10, s11, s12⟩ := hW.1.1
    unfold WFs
    rw [z0, z1, z7, z8, z11, aEmpty_0 (k := 9) (by decide), aEmpty_0 (k := 10) (by decide), aEmpty_sc (k := 2) (by decide) (by decide) (by decide) (by decide) (by decide) (by decide) (by decide) (by decide), aEmpty_sc (k := 3) (by decide) (by decide) (by decide) (by decide) (by decide) (by decide) (by decide) (by decide), aEmpty_sc (k := 4) (by decide) (by decide) (by decide) (by decide) (by decide) (by decide) (by decide) (by decide), aEmpty_sc (k := 5) (by decide) (by decide) (by decide) (by decide) (by decide) (by decide) (by decide) (by decide), aEmpty_sc (k := 12) (by decide) (by decide) (by decide) (by decide) (by decide) (by decide) (by decide) (by decide), aEmpty_sc (k := 13) (by decide) (by decide) (by decide) (by decide) (by decide) (by decide) (by decide) (by decide)]
    exact ⟨by decide, s2, s3, s4, s5, by decide, by omega, by omega, s9, by decide, s11, by decide⟩
  · unfold WFm tkr
    rw [z0, z1, z7, z8, z11]
    exact ⟨fun _ => ⟨rfl, rfl, rfl⟩, fun w => by omega, fun w => by omega, fun w => by omega, fun w => by omega, fun _ => rfl⟩
  · intro i hi hil
    omega
  · intro l x hl hx
    by_cases q : l + 1 = 7
    · rw [q, aEmpty_7 hx]; omega
    · rw [aEmpty_row (by omega) q]; exact hW.1.2.2.2.1 l x hl hx
  · intro x hx _; exact aEmpty_7 hx
theorem hitCell_b (hW : WX T A) (ht : tkr A) : 0 ≤ hitCell A ∧ 36 * hitCell A + 36 ≤ 36 * tkc A ∧ hitCell A < 48 := by
  have s11 := hW.1.1.2.2.2.2.2.2.2.2.2.1
  have s12 := hW.1.1.2.2.2.2.2.2.2.2.2.2.1
  unfold hitCell tkc
  rcases ht with h | h
  · have := hW.2.1 h
    rw [if_pos h, if_pos h]; omega
  · have h1 := (hW.1.2.1.2.1 (by omega)).1
    have h6 := hW.1.2.1.2.2.1 h1
    rw [if_neg (by omega), if_neg (by omega)]
    have p1 := Int.emod_nonneg ((A 0 12 + A 0 11) / 2) (show 2 * A 0 6 ≠ 0 by omega)
    have p2 := Int.emod_lt_of_pos ((A 0 12 + A 0 11) / 2) (show 0 < 2 * A 0 6 by omega)
    omega
theorem hitAt_b (hW : WX T A) (ht : tkr A) {k : Int} (hk : 0 ≤ k ∧ k ≤ 23) : hitAt A k < 1728 ∧ (hitAt A k : Int) < 36 * tkc A := by
  have h := hitCell_b hW ht
  have s2 := hW.1.1.2.1
  unfold hitAt
  omega
theorem W_hit (hW : WX T A) (ht : tkr A) {k f : Int} (hk : 0 ≤ k ∧ k ≤ 23) (hf : 1 ≤ f ∧ f ≤ 99) : WX T (aHit A k f) := by
  have hb := hitAt_b hW ht hk
  have hv : 0 ≤ aHitV A k f ∧ aHitV A k f ≤ 99 := by
    have h1 : 0 ≤ A 7 (hitAt A k) ∧ A 7 (hitAt A k) ≤ 99 := hW.1.2.2.2.1 6 _ (by decide) hb.1
    exact both_b h1 (by omega)
  have e : ∀ k', aHit A k f 0 k' = A 0 k' := fun k' => by unfold aHit; rw [xset_r (by decide)]
  have er : aHit A k f 0 = A 0 := funext e
  obtain ⟨⟨w1, w2, w3, w4, w5⟩, x1⟩ := hW
  refine ⟨⟨?_, ?_, ?_, WFf_set w4 hv, fun x hx hq => ?_⟩, ?_⟩
  · unfold WFs at w1 ⊢; rw [er]; exact w1
  · have hl : aLen (aHit A k f) (A 0 7).toNat = aLen A (A 0 7).toNat := aLen_c (fun i _ => e _)
    unfold WFm tkr at w2 ⊢; rw [er, hl]; exact w2
  · unfold WFl at w3 ⊢; rw [er]; exact w3
  · unfold tkr tkc at hq
    rw [er] at hq
    have hx2 : x ≠ hitAt A k := by
      intro w
      rcases hq with q | q
      · exact q ht
      · have : 36 * tkc A ≤ x := q
        omega
    unfold aHit
    rw [xset_j hx2]; exact w5 x hx hq
  · rw [er]; exact x1
theorem W_starts (hW : WX T A) (h : A 0 0 = 4) : WX T (aStarts A) := by
  have d2 : ∀ k, k ≠ 0 → k ≠ 1 → k ≠ 9 → k ≠ 10 → aStarts A 0 k = A 0 k := fun k a b c d => by
    unfold aStarts; rw [xset_j d, xset_j c, xset_j b, xset_j a]
  have d0 : aStarts A 0 0 = 2 := by unfold aStarts; rw [xset_j (by decide), xset_j (by decide), xset_j (by decide), xset_eq]
  have d1 : aStarts A 0 1 = 0 := by unfold aStarts; rw [xset_j (by decide), xset_j (by decide), xset_eq]
  have d9 : aStarts A 0 9 = 0 := by unfold aStarts; rw [xset_j (by decide), xset_eq]
  have d10 : aStarts A 0 10 = 0 := by unfold aStarts; rw [xset_eq]
  have dr : ∀ r x, r ≠ 0 → aStarts A r x = A r x := fun r x h => by unfold aStarts; rw [xset_r h, xset_r h, xset_r h, xset_r h]
  have s := hW.1.1
  have hm := (hW.1.2.1.2.1 (by omega))
  have sT := hW.1.1.2.2.2.2.2.2.1
  refine W_nums hW (Int.le_refl _) dr (fun k _ _ => d2 k (by omega) (by omega) (by omega) (by omega)) (fun k _ _ => d2 k (by omega) (by omega) (by omega) (by omega)) (fun i _ => Or.inl (d2 _ (by omega) (by omega) (by omega) (by omega))) (d2 11 (by decide) (by decide) (by decide) (by decide)) (d2 12 (by decide) (by decide) (by decide) (by decide)) (d2 13 (by decide) (by decide) (by decide) (by decide)) (d2 6 (by decide) (by decide) (by decide) (by decide)) ?_ ?_ ?_ ?_ (by omega) (fun w => by omega) (fun _ => by omega) (fun _ => by unfold tkr; omega) ?_ ?_ (fun w => by omega) (by omega) (by omega) (by omega) (fun w => by omega) (fun _ => ?_)
  · rw [d2 2 (by decide) (by decide) (by decide) (by decide)]; exact s.2.1
  · rw [d2 3 (by decide) (by decide) (by decide) (by decide)]; exact s.2.2.1
  · rw [d2 4 (by decide) (by decide) (by decide) (by decide)]; exact s.2.2.2.1
  · rw [d2 5 (by decide) (by decide) (by decide) (by decide)]; exact s.2.2.2.2.1
  · rw [d2 7 (by decide) (by decide) (by decide) (by decide), d2 8 (by decide) (by decide) (by decide) (by decide)]; exact ⟨rfl, s.2.2.2.2.2.1.1, s.2.2.2.2.2.1.2.1⟩
  · rw [d2 7 (by decide) (by decide) (by decide) (by decide)]; exact fun w => w
  · rw [d1, d2 7 (by decide) (by decide) (by decide) (by decide)]
    have := (hW.1.1.2.2.2.2.2.2.2.2.2.2.2).1
    omega
/-- changes of a few numbers -/
theorem W_few {D : xM} (hW : WX T A) (hr : ∀ r x, r ≠ 0 → D r x = A r x) (hk : ∀ k, k ≠ 1 → k ≠ 2 → k ≠ 3 → k ≠ 4 → k ≠ 5 → k ≠ 7 → k ≠ 8 → (k < 20 ∨ 26 ≤ k) → D 0 k = A 0 k) (hm : ∀ i : Nat, i < 6 → D 0 (20 + i) = A 0 (20 + i) ∨ (D 0 (20 + i) = 0 ∨ D 0 (20 + i) = 1)) (h2 : D 0 2 = 0 ∨ D 0 2 = 1) (h3 : 2 ≤ D 0 3 ∧ D 0 3 ≤ 16) (h4 : 0 ≤ D 0 4 ∧ D 0 4 ≤ 8) (h5 : 0 ≤ D 0 5 ∧ D 0 5 ≤ 100) (h78 : D 0 7 + D 0 8 = A 0 7 + A 0 8 ∧ 0 ≤ D 0 7 ∧ 0 ≤ D 0 8) (h71 : 1 ≤ A 0 7 → 1 ≤ D 0 7) (h35 : A 0 0 = 3 → D 0 7 = A 0 7)
    (h1 : 0 ≤ D 0 1 ∧ D 0 1 ≤ 96) (h1a : A 0 0 ≤ 1 → D 0 1 = A 0 1) (h1b : 2 ≤ A 0 0 → D 0 1 < 2 * aLen A (D 0 7).toNat) : WX T D := by
  have e0 := hk 0 (by decide) (by decide) (by decide) (by decide) (by decide) (by decide) (by decide) (by decide)
  refine W_nums hW (Int.le_refl _) hr (fun k _ _ => hk k (by omega) (by omega) (by omega) (by omega) (by omega) (by omega) (by omega) (by omega)) (fun k _ _ => hk k (by omega) (by omega) (by omega) (by omega) (by omega) (by omega) (by omega) (by omega)) hm (hk 11 (by decide) (by decide) (by decide) (by decide) (by decide) (by decide) (by decide) (by decide)) (hk 12 (by decide) (by decide) (by decide) (by decide) (by decide) (by decide) (by decide) (by decide)) (hk 13 (by decide) (by decide) (by decide) (by decide) (by decide) (by decide) (by decide) (by decide)) (hk 6 (by decide) (by decide) (by decide) (by decide) (by decide) (by decide) (by decide) (by decide)) h2 h3 h4 h5 (by rw [e0]; exact hW.1.1.1) (fun _ => e0) (fun w => by rw [← e0]; exact w) (fun w => by unfold tkr at w ⊢; rw [← e0]; exact w) h78 h71 h35 ?_ ?_ h1 h1a h1b
  · rw [hk 9 (by decide) (by decide) (by decide) (by decide) (by decide) (by decide) (by decide) (by decide)]; exact hW.1.1.2.2.2.2.2.2.1
  · rw [hk 10 (by decide) (by decide) (by decide) (by decide) (by decide) (by decide) (by decide) (by decide)]; exact hW.1.1.2.2.2.2.2.2.2.1
theorem W_h1b (hW : WX T A) : 2 ≤ A 0 0 → A 0 1 < 2 * aLen A (A 0 7).toNat := fun w => (hW.1.2.1.2.1 w).2
theorem W_peel (hW : WX T A) (h : ¬ tkr A ∧ 2 ≤ A 0 7) : WX T (aPeel A) := by
  have s := hW.1.1
  have hm2 : 2 ≤ A 0 0 := by
    rcases Int.lt_or_le (A 0 0) 2 with q | q
    · have := hW.1.2.1.1 (by omega); omega
    · exact q
  have hm := hW.1.2.1.2.1 hm2
  have s7 := s.2.2.2.2.2.1
  have s1 := s.2.2.2.2.2.2.2.2.2.2.2
  have hle : 1 ≤ aLen A ((A 0 7).toNat - 1) ∧ aLen A ((A 0 7).toNat - 1) ≤ 48 := by
    have a := aLen_b hW.1 (n := (A 0 7).toNat - 1) (by omega)
    have b := aLen_two hW.1 hm.1 (n := (A 0 7).toNat - 1) (by omega) (by omega)
    have c := hW.1.2.1.2.2.1 hm.1
    omega
  have p1 := Int.emod_nonneg (A 0 1) (show 2 * aLen A ((A 0 7).toNat - 1) ≠ 0 by omega)
  have p2 := Int.emod_lt_of_pos (A 0 1) (show 0 < 2 * aLen A ((A 0 7).toNat - 1) by omega)
  have d7 : aPeel A 0 7 = A 0 7 - 1 := by
    unfold aPeel; split
    · rw [xset_j (by decide), xset_j (by decide), xset_eq]
    · rw [xset_j (by decide), xset_eq]
  have d8 : aPeel A 0 8 = A 0 8 + 1 := by
    unfold aPeel; split
    · rw [xset_j (by decide), xset_eq]
    · rw [xset_eq]
  have d1 : 0 ≤ aPeel A 0 1 ∧ aPeel A 0 1 < 2 * aLen A ((A 0 7).toNat - 1) := by
    unfold aPeel
    by_cases q : aLen A ((A 0 7).toNat - 1) < aLen A (A 0 7).toNat
    · rw [if_pos q, xset_eq]; omega
    · rw [if_neg q, xset_j (by decide), xset_j (by decide)]
      have := hm.2
      omega
  have dk : ∀ k, k ≠ 1 → k ≠ 7 → k ≠ 8 → aPeel A 0 k = A 0 k := fun k a b c => by
    unfold aPeel; split
    · rw [xset_j a, xset_j c, xset_j b]
    · rw [xset_j c, xset_j b]
  refine W_few hW (fun r x hr => ?_) (fun k a _ _ _ _ b c _ => dk k a b c) (fun i _ => Or.inl (dk _ (by omega) (by omega) (by omega))) (by rw [dk 2 (by decide) (by decide) (by decide)]; exact s.2.1) (by rw [dk 3 (by decide) (by decide) (by decide)]; exact s.2.2.1) (by rw [dk 4 (by decide) (by decide) (by decide)]; exact s.2.2.2.1) (by rw [dk 5 (by decide) (by decide) (by decide)]; exact s.2.2.2.2.1) (by omega) (fun _ => by omega) (fun w => absurd (Or.inr w) h.1) (by omega) (fun w => by omega) (fun _ => ?_)
  · unfold aPeel; split
    · rw [xset_r hr, xset_r hr, xset_r hr]
    · rw [xset_r hr, xset_r hr]
  · rw [d7, show (A 0 7 - 1).toNat = (A 0 7).toNat - 1 by omega]; exact d1.2
theorem maxN_mono {f : Nat → Int} : ∀ (m n : Nat), m ≤ n → maxN m f ≤ maxN n f := fun m n h => by
  induction h with
  | refl => exact Int.le_refl _
  | @step n _ ih =>
    show maxN m f ≤ if maxN n f < f n then f n else maxN n f
    split <;> omega
theorem W_back (hW : WX T A) (h : ¬ tkr A ∧ A 0 8 ≠ 0) : WX T (aBack A) := by
  have s := hW.1.1
  have s7 := s.2.2.2.2.2.1
  have s1 := s.2.2.2.2.2.2.2.2.2.2.2
  have d7 : aBack A 0 7 = A 0 7 + 1 := by unfold aBack; rw [xset_j (by decide), xset_eq]
  have d8 : aBack A 0 8 = A 0 8 - 1 := by unfold aBack; rw [xset_eq]
  have dk : ∀ k, k ≠ 7 → k ≠ 8 → aBack A 0 k = A 0 k := fun k b c => by unfold aBack; rw [xset_j c, xset_j b]
  refine W_few hW (fun r x hr => ?_) (fun k a _ _ _ _ b c _ => dk k b c) (fun i _ => Or.inl (dk _ (by omega) (by omega))) (by rw [dk 2 (by decide) (by decide)]; exact s.2.1) (by rw [dk 3 (by decide) (by decide)]; exact s.2.2.1) (by rw [dk 4 (by decide) (by decide)]; exact s.2.2.2.1) (by rw [dk 5 (by decide) (by decide)]; exact s.2.2.2.2.1) (by omega) (fun _ => by omega) (fun w => absurd (Or.inr w) h.1) (by rw [dk 1 (by decide) (by decide)]; exact s1) (fun w => dk 1 (by decide) (by decide)) (fun w => ?_)
  · unfold aBack; rw [xset_r hr, xset_r hr]
  · rw [d7, dk 1 (by decide) (by decide), show (A 0 7 + 1).toNat = (A 0 7).toNat + 1 by omega]
    have a := W_h1b hW w
    have b : aLen A (A 0 7).toNat ≤ aLen A ((A 0 7).toNat + 1) := maxN_mono _ _ (by omega)
    omega
theorem W_mute (hW : WX T A) {l : Nat} (hl : (l : Int) < A 0 7) : WX T (aMute A l) := by
  have s := hW.1.1
  have s7 := s.2.2.2.2.2.1
  have s1 := s.2.2.2.2.2.2.2.2.2.2.2
  have dk : ∀ k, k ≠ 20 + l → aMute A l 0 k = A 0 k := fun k b => by unfold aMute; rw [xset_j b]
  refine W_few hW (fun r x hr => ?_) (fun k a _ _ _ _ b c d => dk k (by omega)) (fun i hi => ?_) (by rw [dk 2 (by omega)]; exact s.2.1) (by rw [dk 3 (by omega)]; exact s.2.2.1) (by rw [dk 4 (by omega)]; exact s.2.2.2.1) (by rw [dk 5 (by omega)]; exact s.2.2.2.2.1) (by rw [dk 7 (by omega), dk 8 (by omega)]; omega) (fun _ => by rw [dk 7 (by omega)]; omega) (fun w => dk 7 (by omega)) (by rw [dk 1 (by omega)]; exact s1) (fun w => dk 1 (by omega)) (fun w => ?_)
  · unfold aMute; rw [xset_r hr]
  · by_cases q : i = l
    · subst q
      have := (hW.1.2.2.1 i hi (by omega)).2.1
      right
      unfold aMute
      rw [xset_eq]; omega
    · exact Or.inl (dk _ (by omega))
  · rw [dk 1 (by omega), dk 7 (by omega)]; exact W_h1b hW w
theorem W_speed (hW : WX T A) : WX T (aSpeed A) := by
  have s := hW.1.1
  have s2 := s.2.1
  have s7 := s.2.2.2.2.2.1
  have s1 := s.2.2.2.2.2.2.2.2.2.2.2
  have dk : ∀ k, k ≠ 2 → aSpeed A 0 k = A 0 k := fun k b => by unfold aSpeed; rw [xset_j b]
  refine W_few hW (fun r x hr => ?_) (fun k _ a _ _ _ b c d => dk k a) (fun i hi => Or.inl (dk _ (by omega))) ?_ (by rw [dk 3 (by omega)]; exact s.2.2.1) (by rw [dk 4 (by omega)]; exact s.2.2.2.1) (by rw [dk 5 (by omega)]; exact s.2.2.2.2.1) (by rw [dk 7 (by omega), dk 8 (by omega)]; exact ⟨rfl, s7.1, s7.2.1⟩) (fun w => by rw [dk 7 (by omega)]; exact w) (fun w => dk 7 (by omega)) (by rw [dk 1 (by omega)]; exact s1) (fun w => dk 1 (by omega)) (fun w => ?_)
  · unfold aSpeed; rw [xset_r hr]
  · unfold aSpeed; rw [xset_eq]; omega
  · rw [dk 1 (by omega), dk 7 (by omega)]; exact W_h1b hW w
def setOk (w : Nat) (v : Int) : Prop := (w = 0 ∧ 2 ≤ v ∧ v ≤ 16) ∨ (w = 1 ∧ 0 ≤ v ∧ v ≤ 8) ∨ (w = 2 ∧ 0 ≤ v ∧ v ≤ 100)
theorem W_set (hW : WX T A) {w : Nat} {v : Int} (h : setOk w v) : WX T (aSet A w v) := by
  have s := hW.1.1
  have s7 := s.2.2.2.2.2.1
  have s1 := s.2.2.2.2.2.2.2.2.2.2.2
  have hw : w < 3 := by unfold setOk at h; omega
  have dk : ∀ k, k ≠ 3 + w → aSet A w v 0 k = A 0 k := fun k b => by unfold aSet; rw [xset_j b]
  have de : aSet A w v 0 (3 + w) = v := by unfold aSet; rw [xset_eq]
  have g3 : 2 ≤ aSet A w v 0 3 ∧ aSet A w v 0 3 ≤ 16 := by
    rcases h with ⟨h, h1⟩ | ⟨h, h1⟩ | ⟨h, h1⟩ <;> subst h
    · rw [show aSet A 0 v 0 3 = v from de]; exact h1
    · rw [dk 3 (by omega)]; exact s.2.2.1
    · rw [dk 3 (by omega)]; exact s.2.2.1
  have g4 : 0 ≤ aSet A w v 0 4 ∧ aSet A w v 0 4 ≤ 8 := by
    rcases h with ⟨h, h1⟩ | ⟨h, h1⟩ | ⟨h, h1⟩ <;> subst h
    · rw [dk 4 (by omega)]; exact s.2.2.2.1
    · rw [show aSet A 1 v 0 4 = v from de]; exact h1
    · rw [dk 4 (by omega)]; exact s.2.2.2.1
  have g5 : 0 ≤ aSet A w v 0 5 ∧ aSet A w v 0 5 ≤ 100 := by
    rcases h with ⟨h, h1⟩ | ⟨h, h1⟩ | ⟨h, h1⟩ <;> subst h
    · rw [dk 5 (by omega)]; exact s.2.2.2.2.1
    · rw [dk 5 (by omega)]; exact s.2.2.2.2.1
    · rw [show aSet A 2 v 0 5 = v from de]; exact h1
  clear h
  refine W_few hW (fun r x hr => ?_) (fun k a1 a2 a3 a4 a5 a7 a8 d => dk k (by omega)) (fun i hi => Or.inl (dk _ (by omega))) (by rw [dk 2 (by omega)]; exact s.2.1) g3 g4 g5 (by rw [dk 7 (by omega), dk 8 (by omega)]; exact ⟨rfl, s7.1, s7.2.1⟩) (fun w' => by rw [dk 7 (by omega)]; exact w') (fun w' => dk 7 (by omega)) (by rw [dk 1 (by omega)]; exact s1) (fun w' => dk 1 (by omega)) (fun w' => ?_)
  · unfold aSet; rw [xset_r hr]
  · rw [dk 1 (by omega), dk 7 (by omega)]; exact W_h1b hW w'
end KS
