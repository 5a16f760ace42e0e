/-! MEANING, 9: what holds of each state is kept, a take's end -/
section KQ
variable {A : xM} {T : Int}
theorem aLays_7 {cells on : Nat} : aLays A cells on 0 7 = A 0 7 + 1 := by unfold aLays; rw [xset_j (by omega), xset_j (by omega), xset_eq]
theorem aLays_8 {cells on : Nat} : aLays A cells on 0 8 = 0 := by unfold aLays; rw [xset_j (by omega), xset_eq]
theorem aLays_13 {cells on : Nat} : aLays A cells on 0 13 = A 0 13 + 1 := by unfold aLays; rw [xset_eq]
theorem aLays_len {cells on i : Nat} : aLays A cells on 0 (14 + i) = if i = (A 0 7).toNat then (cells : Int) else if i = 6 + (A 0 7).toNat ∨ i = 12 + (A 0 7).toNat then 0 else A 0 (14 + i) := by
  unfold aLays
  rw [xset_j (by omega), xset_j (by omega), xset_j (by omega), xset_d]
  by_cases q : i = (A 0 7).toNat
  · rw [if_neg (by omega), if_pos q, q, xset_j (by omega), xset_eq]
  · rw [if_neg q, xset_d, xset_d, rowU_ne (by omega), rowU_ne (by omega)]
    by_cases q2 : i = 12 + (A 0 7).toNat
    · rw [if_pos (by omega), if_pos (Or.inr q2)]
    · rw [if_neg (by omega)]
      by_cases q3 : i = 6 + (A 0 7).toNat
      · rw [if_pos (by omega), if_pos (Or.inl q3)]
      · rw [if_neg (by omega), if_neg (by omega), if_neg (by omega)]
theorem aLays_mut {cells on i : Nat} (hi : i < 6) (hn : (A 0 7).toNat < 6) : aLays A cells on 0 (20 + i) = if i = (A 0 7).toNat then 0 else A 0 (20 + i) := by
  unfold aLays
  rw [xset_j (by omega), xset_j (by omega), xset_j (by omega), xset_j (by omega), xset_d]
  by_cases q : i = (A 0 7).toNat
  · rw [if_pos (by omega), if_pos q]
  · rw [if_neg (by omega), if_neg q, xset_j (by omega), rowU_ne (by omega), rowU_ne (by omega)]
theorem aLays_age {cells on i : Nat} (hi : i < 6) (hn : (A 0 7).toNat < 6) : aLays A cells on 0 (26 + i) = if i = (A 0 7).toNat then 0 else A 0 (26 + i) := by
  unfold aLays
  rw [xset_j (by omega), xset_j (by omega), xset_j (by omega), xset_d]
  by_cases q : i = (A 0 7).toNat
  · rw [if_pos (by omega), if_pos q]
  · rw [if_neg (by omega), if_neg q, xset_j (by omega), xset_j (by omega), rowU_ne (by omega), rowU_ne (by omega)]
theorem aLays_row {cells on r x : Nat} (hr : r ≠ 0) : aLays A cells on r x = if r = (A 0 7).toNat + 1 ∧ x < 36 * cells then layF A on x else if r = (A 0 7).toNat + 1 ∧ x < 1728 then 0 else A r x := by
  unfold aLays
  rw [xset_r hr, xset_r hr, xset_r hr, xset_r hr, xset_r hr, xset_r hr]
  rfl
theorem WFf_lays (hF : WFf A) {cells on : Nat} (hc : cells + on ≤ 48) : WFf (aLays A cells on) := by
  intro l x hl hx
  rw [aLays_row (by omega)]
  split
  · rename_i q; exact WFf_lay hF hc q.2
  · split
    · omega
    · exact hF l x hl hx
theorem WFf_clr (hF : WFf A) : WFf (aClr A) := WFf_row (WFf_sc hF) (fun _ _ => by omega)
theorem aClr_sc {k : Nat} (h : k ≠ 11) : aClr A 0 k = A 0 k := by unfold aClr; rw [rowU_ne (by omega), xset_j h]
theorem aClr_11 : aClr A 0 11 = 0 := by unfold aClr; rw [rowU_ne (by omega), xset_eq]
theorem aClr_row {r x : Nat} (h0 : r ≠ 0) (h7 : r ≠ 7) : aClr A r x = A r x := by unfold aClr; rw [rowU_ne h7, xset_r h0]
theorem aClr_7 {x : Nat} (hx : x < 1728) : aClr A 7 x = 0 := by unfold aClr; rw [rowU_at hx]
/-- the state behind a take that was laid -/
theorem W_laid {D : xM} {f : Int} {cells : Nat} (hW : WF T A) (h7 : A 0 7 ≤ 5) (hf : 1 ≤ f ∧ f ≤ 24) (hc : (cells : Int) = f ∨ (cells : Int) = 2 * f) (hf0 : A 0 7 = 0 → (cells : Int) = f) (hf1 : 1 ≤ A 0 7 → f = A 0 6)
    (d0 : D 0 0 = 2) (d2 : D 0 2 = A 0 2) (d3 : D 0 3 = A 0 3) (d4 : D 0 4 = A 0 4) (d5 : D 0 5 = A 0 5) (d6 : D 0 6 = f) (d7 : D 0 7 = A 0 7 + 1) (d8 : D 0 8 = 0) (d9 : 0 ≤ D 0 9 ∧ D 0 9 ≤ T) (d10 : 0 ≤ D 0 10 ∧ D 0 10 ≤ T) (d11 : D 0 11 = 0) (d12 : D 0 12 = A 0 12) (d13 : D 0 13 = A 0 13 + 1)
    (dl : ∀ i : Nat, i < 6 → D 0 (14 + i) = aLays A cells 0 0 (14 + i)) (dm : ∀ i : Nat, i < 6 → D 0 (20 + i) = aLays A cells 0 0 (20 + i)) (da : ∀ i : Nat, i < 6 → D 0 (26 + i) = aLays A cells 0 0 (26 + i))
    (d1 : 0 ≤ D 0 1 ∧ (D 0 1 = 0 ∨ D 0 1 < 2 * cells ∨ (1 ≤ A 0 7 ∧ D 0 1 < 2 * aLen A (A 0 7).toNat))) (hF : WFf D) (ht : ∀ x, x < 1728 → D 7 x = 0) : WX (T + 1) D ∧ aLen D (D 0 7).toNat = if aLen A (A 0 7).toNat < cells then (cells : Int) else aLen A (A 0 7).toNat := by
  have hl := aLen_b hW (n := (A 0 7).toNat) (by have := hW.1.2.2.2.2.2.1; omega)
  obtain ⟨⟨s1, s2, s3, s4, s5, s6, s7, s8, s9, s10, s11, s12⟩, ⟨m1, m2, m3, m4, m5, m6⟩, h3, h4, h5⟩ := hW
  have hlen : aLen D (D 0 7).toNat = if aLen A (A 0 7).toNat < cells then (cells : Int) else aLen A (A 0 7).toNat := by
    rw [d7, show (A 0 7 + 1).toNat = (A 0 7).toNat + 1 by omega]
    have e1 : aLen D (A 0 7).toNat = aLen A (A 0 7).toNat := aLen_c (fun i hi => by rw [dl i (by omega), aLays_len, if_neg (by omega), if_neg (by omega)])
    have e2 : D 0 (14 + (A 0 7).toNat) = cells := by rw [dl _ (by omega), aLays_len, if_pos rfl]
    show (if aLen D (A 0 7).toNat < D 0 (14 + (A 0 7).toNat) then D 0 (14 + (A 0 7).toNat) else aLen D (A 0 7).toNat) = _
    rw [e1, e2]
  refine ⟨⟨⟨?_, ?_, ?_, hF, fun x hx _ => ht x hx⟩, fun w => by omega, fun w => by omega⟩, hlen⟩
  · unfold WFs
    rw [d0, d2, d3, d4, d5, d7, d8, d11, d12, d13]
    omega
  · unfold WFm tkr
    rw [hlen, d0, d7, d8, d6, d11, d12]
    have e14 : D 0 14 = f := by
      have := dl 0 (by decide)
      rw [aLays_len] at this
      have e : D 0 (14 + 0) = D 0 14 := rfl
      by_cases q : 0 = (A 0 7).toNat
      · rw [if_pos q] at this
        have := hf0 (by omega); omega
      · rw [if_neg q, if_neg (by omega)] at this
        have e' : A 0 (14 + 0) = A 0 14 := rfl
        have a := hf1 (by omega)
        have b := (m3 (by omega)).2.2
        omega
    rw [e14]
    exact ⟨fun w => by omega, fun _ => ⟨by omega, by split <;> omega⟩, fun _ => ⟨hf.1, hf.2, rfl⟩, fun w => by omega, fun w => by omega, fun _ => rfl⟩
  · intro i hi hil
    rw [d7, d8] at hil
    rw [dl i hi, dm i hi, da i hi, d6, aLays_len, aLays_mut hi (by omega), aLays_age hi (by omega)]
    by_cases q : i = (A 0 7).toNat
    · rw [if_pos q, if_pos q, if_pos q]; omega
    · rw [if_neg q, if_neg q, if_neg q, if_neg (by omega)]
      obtain ⟨a, b, c⟩ := h3 i hi (by omega)
      have := hf1 (by omega)
      exact ⟨by omega, b, by omega⟩
theorem fstLen_b (hW : WFs T A) (h1 : 1 ≤ A 0 11) : 1 ≤ fstLen A ∧ fstLen A ≤ 24 := by
  obtain ⟨-, -, r1, r2⟩ := rnd_ok hW.2.2.1 hW.2.2.2.1 (fstCells_b hW h1)
  exact ⟨r1, r2⟩
theorem W_endFirst (hW : WF T A) (h0 : A 0 0 = 1) (h1 : 1 ≤ A 0 11) : WX (T + 1) (aEndFirst A) ∧ (aEndFirst A) 0 0 = 2 := by
  have hm := hW.2.1.1 (by omega)
  have hb := fstLen_b hW.1 h1
  have h13 := hW.1.2.2.2.2.2.2.2.2.1
  have hs : ∀ k, k ≠ 0 → k ≠ 1 → k ≠ 9 → k ≠ 10 → k ≠ 11 → k ≠ 6 → aEndFirst A 0 k = aLays A (fstLen A).toNat 0 0 k := fun k a b c d e f => by
    unfold aEndFirst aStarts
    rw [xset_j d, xset_j c, xset_j b, xset_j a, aClr_sc e, xset_j f]
  have g : ∀ k, (k = 0 → aEndFirst A 0 k = 2) ∧ (k = 1 → aEndFirst A 0 k = 0) ∧ (k = 9 → aEndFirst A 0 k = 0) ∧ (k = 10 → aEndFirst A 0 k = 0) := fun k => by
    unfold aEndFirst aStarts
    refine ⟨fun h => ?_, fun h => ?_, fun h => ?_, fun h => ?_⟩ <;> subst h
    · rw [xset_j (by decide), xset_j (by decide), xset_j (by decide), xset_eq]
    · rw [xset_j (by decide), xset_j (by decide), xset_eq]
    · rw [xset_j (by decide), xset_eq]
    · rw [xset_eq]
  have g11 : aEndFirst A 0 11 = 0 := by
    unfold aEndFirst aStarts
    rw [xset_j (by decide), xset_j (by decide), xset_j (by decide), xset_j (by decide), aClr_11]
  have g6 : aEndFirst A 0 6 = fstLen A := by
    unfold aEndFirst aStarts
    rw [xset_j (by decide), xset_j (by decide), xset_j (by decide), xset_j (by decide), aClr_sc (by decide), xset_eq]
  have gr : ∀ r x, r ≠ 0 → aEndFirst A r x = aClr (aLays A (fstLen A).toNat 0) r x := fun r x hr => by
    unfold aEndFirst aStarts
    rw [xset_r hr, xset_r hr, xset_r hr, xset_r hr]
    unfold aClr
    by_cases q : r = 7 ∧ x < 1728
    · rw [q.1, rowU_at q.2, rowU_at q.2]
    · unfold rowU; rw [if_neg q, if_neg q, xset_r hr, xset_r hr, xset_r hr]
  have n0 : (A 0 7).toNat = 0 := by omega
  have sc : ∀ k, k ≠ 7 → k ≠ 8 → k ≠ 13 → k ≠ 14 → k ≠ 20 → k ≠ 26 → aLays A (fstLen A).toNat 0 0 k = A 0 k := fun k a b c d e f => aLays_sc (by omega)
  refine ⟨(W_laid (A := A) (cells := (fstLen A).toNat) (f := fstLen A) hW (by omega) hb (Or.inl (by omega)) (fun _ => by omega) (fun w => by omega) ((g 0).1 rfl) ?_ ?_ ?_ ?_ g6 ?_ ?_ (by rw [(g 9).2.2.1 rfl]; omega) (by rw [(g 10).2.2.2 rfl]; omega) g11 ?_ ?_ (fun i hi => hs _ (by omega) (by omega) (by omega) (by omega) (by omega) (by omega)) (fun i hi => hs _ (by omega) (by omega) (by omega) (by omega) (by omega) (by omega)) (fun i hi => hs _ (by omega) (by omega) (by omega) (by omega) (by omega) (by omega)) (by rw [(g 1).2.1 rfl]; omega) ?_ (fun x hx => by rw [gr 7 x (by decide), aClr_7 hx])).1, (g 0).1 rfl⟩
  · rw [hs 2 (by decide) (by decide) (by decide) (by decide) (by decide) (by decide), sc 2 (by decide) (by decide) (by decide) (by decide) (by decide) (by decide)]
  · rw [hs 3 (by decide) (by decide) (by decide) (by decide) (by decide) (by decide), sc 3 (by decide) (by decide) (by decide) (by decide) (by decide) (by decide)]
  · rw [hs 4 (by decide) (by decide) (by decide) (by decide) (by decide) (by decide), sc 4 (by decide) (by decide) (by decide) (by decide) (by decide) (by decide)]
  · rw [hs 5 (by decide) (by decide) (by decide) (by decide) (by decide) (by decide), sc 5 (by decide) (by decide) (by decide) (by decide) (by decide) (by decide)]
  · rw [hs 7 (by decide) (by decide) (by decide) (by decide) (by decide) (by decide), aLays_7]
  · rw [hs 8 (by decide) (by decide) (by decide) (by decide) (by decide) (by decide), aLays_8]
  · rw [hs 12 (by decide) (by decide) (by decide) (by decide) (by decide) (by decide), sc 12 (by decide) (by decide) (by decide) (by decide) (by decide) (by decide)]
  · rw [hs 13 (by decide) (by decide) (by decide) (by decide) (by decide) (by decide), aLays_13]
  · intro l x hl hx
    rw [gr _ _ (by omega)]
    exact WFf_clr (WFf_lays hW.2.2.2.1 (by omega)) l x hl hx
theorem W_endOver (hW : WF T A) (h0 : A 0 0 = 3) : WX (T + 1) (aEndOver A) ∧ (aEndOver A) 0 0 = 2 := by
  have hb := (hW.2.1.2.1 (by omega))
  have h6 := hW.2.1.2.2.1 hb.1
  have h7 := hW.2.1.2.2.2.2.1 h0
  have h11 := hW.1.2.2.2.2.2.2.2.2.2.1
  have h12 := hW.1.2.2.2.2.2.2.2.2.2.2.1
  have s1 := hW.1.2.2.2.2.2.2.2.2.2.2.2
  have s9 := hW.1.2.2.2.2.2.2
  have g0 : aEndOver A 0 0 = 2 := by unfold aEndOver; rw [xset_eq]
  have g11 : aEndOver A 0 11 = 0 := by unfold aEndOver; rw [xset_j (by decide), aClr_11]
  refine ⟨?_, g0⟩
  by_cases q : aLen A (A 0 7).toNat = 2 * A 0 6 ∨ 2 * A 0 6 < A 0 11
  · have hs : ∀ k, k ≠ 0 → k ≠ 1 → k ≠ 11 → aEndOver A 0 k = aLays A (2 * (A 0 6).toNat) 0 0 k := fun k a b c => by
      unfold aEndOver
      rw [if_pos q, xset_j a, aClr_sc c, xset_j b]
    have g1 : aEndOver A 0 1 = (A 0 12 + A 0 11) % (4 * A 0 6) := by
      unfold aEndOver
      rw [if_pos q, xset_j (by decide), aClr_sc (by decide), xset_eq]
    have gr : ∀ r x, r ≠ 0 → aEndOver A r x = aClr (aLays A (2 * (A 0 6).toNat) 0) r x := fun r x hr => by
      unfold aEndOver
      rw [if_pos q, xset_r hr]
      unfold aClr
      by_cases q : r = 7 ∧ x < 1728
      · rw [q.1, rowU_at q.2, rowU_at q.2]
      · unfold rowU; rw [if_neg q, if_neg q, xset_r hr, xset_r hr, xset_r hr]
    have sc : ∀ k, k < 14 → k ≠ 7 → k ≠ 8 → k ≠ 13 → aLays A (2 * (A 0 6).toNat) 0 0 k = A 0 k := fun k a b c d => aLays_sc (by omega)
    have p1 := Int.emod_nonneg (A 0 12 + A 0 11) (show 4 * A 0 6 ≠ 0 by omega)
    have p2 := Int.emod_lt_of_pos (A 0 12 + A 0 11) (show 0 < 4 * A 0 6 by omega)
    refine (W_laid (A := A) (cells := 2 * (A 0 6).toNat) (f := A 0 6) hW h7 ⟨h6.1, h6.2.1⟩ (Or.inr (by omega)) (fun _ => by omega) (fun w => rfl) g0 ?_ ?_ ?_ ?_ ?_ ?_ ?_ ?_ ?_ g11 ?_ ?_ (fun i hi => hs _ (by omega) (by omega) (by omega)) (fun i hi => hs _ (by omega) (by omega) (by omega)) (fun i hi => hs _ (by omega) (by omega) (by omega)) (by rw [g1]; omega) ?_ (fun x hx => by rw [gr 7 x (by decide), aClr_7 hx])).1
    · rw [hs 2 (by decide) (by decide) (by decide), sc 2 (by decide) (by decide) (by decide) (by decide)]
    · rw [hs 3 (by decide) (by decide) (by decide), sc 3 (by decide) (by decide) (by decide) (by decide)]
    · rw [hs 4 (by decide) (by decide) (by decide), sc 4 (by decide) (by decide) (by decide) (by decide)]
    · rw [hs 5 (by decide) (by decide) (by decide), sc 5 (by decide) (by decide) (by decide) (by decide)]
    · rw [hs 6 (by decide) (by decide) (by decide), sc 6 (by decide) (by decide) (by decide) (by decide)]
    · rw [hs 7 (by decide) (by decide) (by decide), aLays_7]
    · rw [hs 8 (by decide) (by decide) (by decide), aLays_8]
    · rw [hs 9 (by decide) (by decide) (by decide), sc 9 (by decide) (by decide) (by decide) (by decide)]; omega
    · rw [hs 10 (by decide) (by decide) (by decide), sc 10 (by decide) (by decide) (by decide) (by decide)]; omega
    · rw [hs 12 (by decide) (by decide) (by decide), sc 12 (by decide) (by decide) (by decide) (by decide)]
    · rw [hs 13 (by decide) (by decide) (by decide), aLays_13]
    · intro l x hl hx
      rw [gr _ _ (by omega)]
      exact WFf_clr (WFf_lays hW.2.2.2.1 (by omega)) l x hl hx
  · have hs : ∀ k, k ≠ 0 → k ≠ 11 → aEndOver A 0 k = aLays A (A 0 6).toNat (A 0 6).toNat 0 k := fun k a c => by
      unfold aEndOver
      rw [if_neg q, xset_j a, aClr_sc c]
    have gr : ∀ r x, r ≠ 0 → aEndOver A r x = aClr (aLays A (A 0 6).toNat (A 0 6).toNat) r x := fun r x hr => by
      unfold aEndOver
      rw [if_neg q, xset_r hr]
    have sc : ∀ k, k < 14 → k ≠ 7 → k ≠ 8 → k ≠ 13 → aLays A (A 0 6).toNat (A 0 6).toNat 0 k = A 0 k := fun k a b c d => aLays_sc (by omega)
    have g1 : aEndOver A 0 1 = A 0 1 := by rw [hs 1 (by decide) (by decide), sc 1 (by decide) (by decide) (by decide) (by decide)]
    have lq : ∀ k, k ≠ 0 → aLays A (A 0 6).toNat (A 0 6).toNat 0 k = aLays A (A 0 6).toNat 0 0 k := fun k _ => rfl
    refine (W_laid (A := A) (cells := (A 0 6).toNat) (f := A 0 6) hW h7 ⟨h6.1, h6.2.1⟩ (Or.inl (by omega)) (fun _ => by omega) (fun w => rfl) g0 ?_ ?_ ?_ ?_ ?_ ?_ ?_ ?_ ?_ g11 ?_ ?_ (fun i hi => hs _ (by omega) (by omega)) (fun i hi => hs _ (by omega) (by omega)) (fun i hi => hs _ (by omega) (by omega)) (by rw [g1]; omega) ?_ (fun x hx => by rw [gr 7 x (by decide), aClr_7 hx])).1
    · rw [hs 2 (by decide) (by decide), sc 2 (by decide) (by decide) (by decide) (by decide)]
    · rw [hs 3 (by decide) (by decide), sc 3 (by decide) (by decide) (by decide) (by decide)]
    · rw [hs 4 (by decide) (by decide), sc 4 (by decide) (by decide) (by decide) (by decide)]
    · rw [hs 5 (by decide) (by decide), sc 5 (by decide) (by decide) (by decide) (by decide)]
    · rw [hs 6 (by decide) (by decide), sc 6 (by decide) (by decide) (by decide) (by decide)]
    · rw [hs 7 (by decide) (by decide), aLays_7]
    · rw [hs 8 (by decide) (by decide), aLays_8]
    · rw [hs 9 (by decide) (by decide), sc 9 (by decide) (by decide) (by decide) (by decide)]; omega
    · rw [hs 10 (by decide) (by decide), sc 10 (by decide) (by decide) (by decide) (by decide)]; omega
    · rw [hs 12 (by decide) (by decide), sc 12 (by decide) (by decide) (by decide) (by decide)]
    · rw [hs 13 (by decide) (by decide), aLays_13]
    · intro l x hl hx
      rw [gr _ _ (by omega)]
      exact WFf_clr (WFf_lays hW.2.2.2.1 (by omega)) l x hl hx
end KQ
