/-! MEANING, 28: all cells: loudest, buried, what would be, silence -/
section CE
variable {M A : xM} {T : Int} {P : Nat → xM} {n o : Nat} {S : xM} {sv : Int} {pd : Nat → Int} {len : Nat} {st : Nat → Int} {stp : Int}
/-- only the ear's rows were written -/
def EF (M M' : xM) : Prop := ∀ r, r ≠ 178 → r ≠ 179 → r ≠ 180 → r ≠ 181 → M' r = M r
theorem EF_rf : EF M M := fun _ _ _ _ _ => rfl
theorem EF_ring {M' : xM} {f : Nat → Int} (h : EF M M') : EF M (rowU M' 178 36 f) := fun r a b c d => by rw [rowU_ne a]; exact h r a b c d
theorem EF_RC {M' : xM} (h : EF M M') (hR : RC M 2 A) : RC M' 2 A := RC_frame (fun r a b => h r (by omega) (by omega) (by omega) (by omega)) hR
theorem EF_all {M' : xM} (h : EF M M') (hA : ALLx T M A P n o S sv pd len st stp) : ALLx T M' A P n o S sv pd len st stp := ALLx_frame (fun r a b => h r (by omega) (by omega) (by omega) (by omega)) hA
theorem c_1k (hR : RC M 2 A) (hX : WX T A) {k cell : Nat} (hk : (k : Int) ≤ A 0 7) (hc : cell < 48) : f_1 M 2 (k : Int) (cell : Int) = some (rowU M 178 36 (aRing A k cell)) := c_1 (b := 2) (by decide +kernel) hR hX.1 k cell hk hc
theorem c_8 (hR : RC M 2 A) (hX : WX T A) {k : Nat} (hk : (k : Int) ≤ A 0 7) : ∃ M', f_8 M 2 (k : Int) = some (sumN (aLen A k).toNat (aSum A k), M') ∧ EF M M' := by
  have h7 := hX.1.1.2.2.2.2.2.1
  have hl := aLen_b hX.1 (n := k) (by omega)
  unfold f_8
  rw [c_62 (b := 2) (by decide +kernel) hR hX.1 k (by omega), Option.bind_some]
  unfold f_8_L12
  have key := loop_inv (b := fun s => f_8_L12b 2 (k : Int) (aLen A k) s.1 s.2.1 s.2.2) (s := ((0 : Int), (0 : Int), M)) (fun i s => s.1 = sumN i (aSum A k) ∧ s.2.1 = (i : Int) ∧ EF M s.2.2) (Q := fun r => r.1 = sumN (aLen A k).toNat (aSum A k) ∧ EF M r.2) (aLen A k).toNat ⟨rfl, rfl, EF_rf⟩ (fun i s hi hs => ?_) (fun s hs => ?_) (by show (aLen A k).toNat < 1000000; omega)
  · obtain ⟨r, k1, k2, k3⟩ := key
    obtain ⟨z, M'⟩ := r
    dsimp only at k2
    exact ⟨M', by rw [k1, k2], k3⟩
  · obtain ⟨v, j, M2⟩ := s
    obtain ⟨rfl, rfl, p2⟩ := hs
    dsimp only at p2
    refine ⟨(sumN i (aSum A k) + aSum A k i, (i : Int) + 1, rowU M2 178 36 (aRing A k i)), ?_, rfl, by show (i : Int) + 1 = ((i + 1 : Nat) : Int); omega, EF_ring p2⟩
    show f_8_L12b 2 (k : Int) (aLen A k) (sumN i (aSum A k)) (i : Int) M2 = _
    unfold f_8_L12b
    rw [wri (aLen A k) (by omega) (by omega), wri (i : Int) (by omega) (by omega), if_neg (by omega), c_1k (EF_RC p2 hR) hX hk (by omega), Option.bind_some, c_4 (R := aRing A k i) (fun q hq => rowU_at hq)]
    rfl
  · obtain ⟨v, j, M2⟩ := s
    obtain ⟨rfl, rfl, p2⟩ := hs
    dsimp only at p2
    refine ⟨(sumN (aLen A k).toNat (aSum A k), M2), ?_, rfl, p2⟩
    show f_8_L12b 2 (k : Int) (aLen A k) _ (((aLen A k).toNat : Nat) : Int) M2 = _
    unfold f_8_L12b
    rw [wri (aLen A k) (by omega) (by omega), wri _ (by omega) (by omega), if_pos (by omega)]
def sil (A : xM) (k : Nat) (cell : Nat) : Int := if aSum A k cell = 0 then 1 else 0
theorem c_9 (hR : RC M 2 A) (hX : WX T A) {k : Nat} (hk : (k : Int) ≤ A 0 7) : ∃ M', f_9 M 2 (k : Int) = some (sumN (aLen A k).toNat (sil A k), M') ∧ EF M M' := by
  have h7 := hX.1.1.2.2.2.2.2.1
  have hl := aLen_b hX.1 (n := k) (by omega)
  unfold f_9
  rw [c_62 (b := 2) (by decide +kernel) hR hX.1 k (by omega), Option.bind_some]
  unfold f_9_L12
  have key := loop_inv (b := fun s => f_9_L12b 2 (k : Int) (aLen A k) s.1 s.2.1 s.2.2) (s := ((0 : Int), (0 : Int), M)) (fun i s => s.1 = sumN i (sil A k) ∧ s.2.1 = (i : Int) ∧ EF M s.2.2) (Q := fun r => r.1 = sumN (aLen A k).toNat (sil A k) ∧ EF M r.2) (aLen A k).toNat ⟨rfl, rfl, EF_rf⟩ (fun i s hi hs => ?_) (fun s hs => ?_) (by show (aLen A k).toNat < 1000000; omega)
  · obtain ⟨r, k1, k2, k3⟩ := key
    obtain ⟨z, M'⟩ := r
    dsimp only at k2
    exact ⟨M', by rw [k1, k2], k3⟩
  · obtain ⟨v, j, M2⟩ := s
    obtain ⟨rfl, rfl, p2⟩ := hs
    dsimp only at p2
    have hs := aSum_b hX.1 (n := k) (cell := i) (by omega)
    refine ⟨(sumN i (sil A k) + sil A k i, (i : Int) + 1, rowU M2 178 36 (aRing A k i)), ?_, rfl, by show (i : Int) + 1 = ((i + 1 : Nat) : Int); omega, EF_ring p2⟩
    show f_9_L12b 2 (k : Int) (aLen A k) (sumN i (sil A k)) (i : Int) M2 = _
    unfold f_9_L12b
    rw [wri (aLen A k) (by omega) (by omega), wri (i : Int) (by omega) (by omega), if_neg (by omega), c_1k (EF_RC p2 hR) hX hk (by omega), Option.bind_some, c_4 (R := aRing A k i) (fun q hq => rowU_at hq), Option.bind_some]
    show (if wr (aSum A k i) = 0 then _ else _) = _
    unfold sil
    rw [wri (aSum A k i) (by omega) (by omega)]
    by_cases q : aSum A k i = 0
    · rw [if_pos q, if_pos q]
    · rw [if_neg q, if_neg q, Int.add_zero]
  · obtain ⟨v, j, M2⟩ := s
    obtain ⟨rfl, rfl, p2⟩ := hs
    dsimp only at p2
    refine ⟨(sumN (aLen A k).toNat (sil A k), M2), ?_, rfl, p2⟩
    show f_9_L12b 2 (k : Int) (aLen A k) _ (((aLen A k).toNat : Nat) : Int) M2 = _
    unfold f_9_L12b
    rw [wri (aLen A k) (by omega) (by omega), wri _ (by omega) (by omega), if_pos (by omega)]
theorem m_209 (hX : WX T A) {k : Nat} (hk : (k : Int) ≤ A 0 7) : f_209 (mS M A) (k : Int) = some (sumN (aLen A k).toNat (aSum A k)) := by
  have h7 := hX.1.1.2.2.2.2.2.1
  have hl := aLen_b hX.1 (n := k) (by omega)
  unfold f_209 f_209_L4
  refine loop_to (fun i => (sumN i (aSum A k), (i : Int))) (aLen A k).toNat (fun i hi => ?_) ?_ (by show (aLen A k).toNat < 1000000; omega)
  · show f_209_L4b (mS M A) (k : Int) (sumN i (aSum A k)) (i : Int) = _
    unfold f_209_L4b
    rw [m_146 hX.1 k (by omega), Option.bind_some, wri (aLen A k) (by omega) (by omega), wri (i : Int) (by omega) (by omega), if_neg (by omega), m_198 hX.1 (by omega) (by omega)]
    rfl
  · show f_209_L4b (mS M A) (k : Int) _ (((aLen A k).toNat : Nat) : Int) = _
    unfold f_209_L4b
    rw [m_146 hX.1 k (by omega), Option.bind_some, wri (aLen A k) (by omega) (by omega), wri _ (by omega) (by omega), if_pos (by omega)]
theorem m_217L (hX : WX T A) {k : Nat} (hk : (k : Int) ≤ A 0 7) : f_217_L53 (mS M A) (k : Int) (0, 0) = some (sumN (aLen A k).toNat (sil A k)) := by
  have h7 := hX.1.1.2.2.2.2.2.1
  have hl := aLen_b hX.1 (n := k) (by omega)
  unfold f_217_L53
  refine loop_to (fun i => (sumN i (sil A k), (i : Int))) (aLen A k).toNat (fun i hi => ?_) ?_ (by show (aLen A k).toNat < 1000000; omega)
  · have hs := aSum_b hX.1 (n := k) (cell := i) (by omega)
    show f_217_L53b (mS M A) (k : Int) (sumN i (sil A k)) (i : Int) = some (Sum.inl (sumN i (sil A k) + (if aSum A k i = 0 then 1 else 0), ((i + 1 : Nat) : Int)))
    unfold f_217_L53b
    rw [m_146 hX.1 k (by omega), Option.bind_some, wri (aLen A k) (by omega) (by omega), wri (i : Int) (by omega) (by omega), if_neg (by omega), m_198 hX.1 (by omega) (by omega), Option.bind_some, wri (aSum A k i) (by omega) (by omega)]
    by_cases q : aSum A k i = 0
    · rw [if_pos q, if_pos q]; rfl
    · rw [if_neg q, if_neg q]; rfl
  · show f_217_L53b (mS M A) (k : Int) _ (((aLen A k).toNat : Nat) : Int) = _
    unfold f_217_L53b
    rw [m_146 hX.1 k (by omega), Option.bind_some, wri (aLen A k) (by omega) (by omega), wri _ (by omega) (by omega), if_pos (by omega)]
theorem step_ifPeeled (h : ALLx T M A P n o S sv pd len st stp) {k w : Int} (hk : -2147483648 ≤ k ∧ k < 2147483648) (hw : -2147483648 ≤ w ∧ w < 2147483648) : ∃ r1, f_126 M k w = some r1 ∧ ∃ r2, f_217 r1.2 k w = some r2 ∧ r1.1 = r2 ∧ ALL (T + 6100) r1.2 := by
  have hX := h.2.2.1
  have h7 := hX.1.1.2.2.2.2.2.1
  have em : ∀ X, ALLx T X A P n o S sv pd len st stp → f_217 X k w = if (1 ≤ k ∧ k ≤ A 0 7) ∧ (0 ≤ w ∧ w ≤ 2) then some (if w = 2 then sumN (aLen A k.toNat).toNat (sil A k.toNat) else if w = 0 then aLen A k.toNat else sumN (aLen A k.toNat).toNat (aSum A k.toNat)) else some (-1) := by
    intro X hx
    have e7 : f_139 X 7 = some (A 0 7) := by rw [← inS_mS hx.2.1.1]; exact m_7
    have q1 : wr (f_138 k 1 (A 0 7)) = 0 ↔ ¬ (1 ≤ k ∧ k ≤ A 0 7) := by
      rw [m_138w, wri k hk.1 hk.2, wri 1 (by decide) (by decide), wri (A 0 7) (by omega) (by omega)]
    have q2 : wr (f_138 w 0 2) = 0 ↔ ¬ (0 ≤ w ∧ w ≤ 2) := by
      rw [m_138w, wri w hw.1 hw.2, wr0, wri 2 (by decide) (by decide)]
    unfold f_217
    rw [e7, Option.bind_some, wri w hw.1 hw.2]
    by_cases p1 : 1 ≤ k ∧ k ≤ A 0 7
    · rw [if_neg (fun x => q1.mp x p1)]
      by_cases p2 : 0 ≤ w ∧ w ≤ 2
      · have a1 := m_217L (M := X) hX (k := k.toNat) (by omega)
        have a2 := m_146 (M := X) hX.1 k.toNat (by omega)
        have a3 := m_209 (M := X) hX (k := k.toNat) (by omega)
        rw [show ((k.toNat : Nat) : Int) = k by omega, inS_mS hx.2.1.1] at a1 a2 a3
        rw [if_neg (fun x => q2.mp x p2), a1, a2, a3, if_pos (show (1 ≤ k ∧ k ≤ A 0 7) ∧ (0 ≤ w ∧ w ≤ 2) from ⟨p1, p2⟩)]
        by_cases w2 : w = 2
        · rw [if_pos (by omega), if_pos w2]
        · rw [if_neg (show ¬ 2 ≤ w by omega), if_neg w2]
          by_cases w0 : w = 0
          · rw [if_pos w0, if_pos w0]; rfl
          · rw [if_neg w0, if_neg w0]; rfl
      · rw [if_pos (q2.mpr p2), if_neg (fun x => p2 x.2)]
    · rw [if_pos (q1.mpr p1), if_neg (fun x => p1 x.1)]
  have e5 : M 2 5 = A 0 7 := h.1.1.1.2.2.1
  unfold f_126
  rw [wri k hk.1 hk.2, wri w hw.1 hw.2, e5, wri (A 0 7) (by omega) (by omega)]
  have fail : ∀ X, X = M → ¬ ((1 ≤ k ∧ k ≤ A 0 7) ∧ (0 ≤ w ∧ w ≤ 2)) → ∃ r1, some ((-1 : Int), X) = some r1 ∧ ∃ r2, f_217 r1.2 k w = some r2 ∧ r1.1 = r2 ∧ ALL (T + 6100) r1.2 := fun X hx q => by
    subst hx
    exact ⟨_, rfl, _, (em X h).trans (if_neg q), rfl, ALL_of h⟩
  by_cases q1 : k < 1
  · rw [if_pos q1]; exact fail M rfl (by omega)
  · rw [if_neg q1]
    by_cases q2 : k ≤ A 0 7
    · rw [if_pos q2]
      obtain ⟨kk, rfl⟩ : ∃ kk : Nat, k = (kk : Int) := ⟨k.toNat, by omega⟩
      rw [Int.toNat_natCast] at em
      by_cases w0 : w = 0
      · rw [if_pos w0, c_62 (b := 2) (by decide +kernel) h.1.1 hX.1 kk (by omega)]
        exact ⟨_, rfl, _, (em M h).trans (if_pos (by omega)), by rw [if_neg (by omega), if_pos w0], ALL_of h⟩
      rw [if_neg w0]
      by_cases w1 : w = 1
      · obtain ⟨M', k1, k2⟩ := c_8 h.1.1 hX (k := kk) q2
        rw [if_pos w1, k1]
        exact ⟨_, rfl, _, (em M' (EF_all k2 h)).trans (if_pos (by omega)), by rw [if_neg (by omega), if_neg w0], ALL_of (EF_all k2 h)⟩
      rw [if_neg w1]
      by_cases w2 : w = 2
      · obtain ⟨M', k1, k2⟩ := c_9 h.1.1 hX (k := kk) q2
        rw [if_pos w2, k1]
        exact ⟨_, rfl, _, (em M' (EF_all k2 h)).trans (if_pos (by omega)), by rw [if_pos w2], ALL_of (EF_all k2 h)⟩
      rw [if_neg w2]
      exact fail M rfl (by omega)
    · rw [if_neg q2]; exact fail M rfl (by omega)
theorem step_loudest (h : ALLx T M A P n o S sv pd len st stp) : ∃ r1, f_116 M = some r1 ∧ ∃ r2, f_203 r1.2 = some r2 ∧ r1.1 = r2 ∧ ALL (T + 6100) r1.2 := by
  have hX := h.2.2.1
  have h7 := hX.1.1.2.2.2.2.2.1
  have e5 : M 2 5 = A 0 7 := h.1.1.1.2.2.1
  obtain ⟨k, hk⟩ : ∃ k : Nat, A 0 7 = (k : Int) := ⟨(A 0 7).toNat, by omega⟩
  have hkt : (A 0 7).toNat = k := by omega
  have hl := aLen_b hX.1 (n := k) (by omega)
  have hs : ∀ i, 0 ≤ aSum A k i ∧ aSum A k i ≤ 21384 := fun i => aSum_b hX.1 (by omega)
  have hmx : ∀ i, 0 ≤ maxN i (aSum A k) ∧ maxN i (aSum A k) ≤ 21384 := fun i => maxN_b (by decide) i (fun j _ => (hs j).2)
  have em : ∀ X, ALLx T X A P n o S sv pd len st stp → f_203 X = some (if A 0 7 = 0 then -2 else fnd 4 (aSum A k) (aLen A k).toNat) := by
    intro X hx
    have e7 : f_139 X 7 = some (A 0 7) := by rw [← inS_mS hx.2.1.1]; exact m_7
    have e147 := m_147' hx.2.1.1 hX.1
    rw [hkt] at e147
    unfold f_203
    rw [e7, Option.bind_some, wri (A 0 7) (by omega) (by omega)]
    by_cases q : A 0 7 = 0
    · rw [if_pos q, if_pos q]
    · rw [if_neg q, if_neg q]
      unfold f_203_L19
      refine loop_to (fun i => (fnd 4 (aSum A k) i, maxN i (aSum A k), (i : Int))) (aLen A k).toNat (fun i hi => ?_) ?_ (by show (aLen A k).toNat < 1000000; omega)
      · show f_203_L19b X (fnd 4 (aSum A k) i) (maxN i (aSum A k)) (i : Int) = some (Sum.inl (fnd 4 (aSum A k) (i + 1), (if maxN i (aSum A k) < aSum A k i then aSum A k i else maxN i (aSum A k)), ((i + 1 : Nat) : Int)))
        have a1 := m_198 (M := X) hX.1 (k := k) (cell := i) (by omega) (by omega)
        rw [inS_mS hx.2.1.1, ← hk] at a1
        have b1 := hs i
        have b2 := hmx i
        unfold f_203_L19b f_203_L51
        rw [e147, Option.bind_some, wri (aLen A k) (by omega) (by omega), wri (i : Int) (by omega) (by omega), if_neg (by omega), e7, Option.bind_some, a1, Option.bind_some, wri (aSum A k i) (by omega) (by omega), wri (maxN i (aSum A k)) (by omega) (by omega), fnd_4 (by decide) (by decide)]
        by_cases q2 : aSum A k i ≤ maxN i (aSum A k)
        · have hq : ¬ maxN i (aSum A k) < aSum A k i := by omega
          rw [if_pos q2, if_pos q2, if_neg hq, if_neg hq]; rfl
        · have hq : maxN i (aSum A k) < aSum A k i := by omega
          rw [if_neg q2, if_neg q2, if_pos hq, if_pos hq]; rfl
      · show f_203_L19b X _ _ (((aLen A k).toNat : Nat) : Int) = _
        unfold f_203_L19b
        rw [e147, Option.bind_some, wri (aLen A k) (by omega) (by omega), wri _ (by omega) (by omega), if_pos (by omega)]
  unfold f_116
  rw [e5, wri (A 0 7) (by omega) (by omega)]
  by_cases q : A 0 7 = 0
  · rw [if_pos q]
    exact ⟨_, rfl, _, em M h, by rw [if_pos q], ALL_of h⟩
  · rw [if_neg q]
    have ec : ∃ M', f_10 M 2 = some (fnd 4 (aSum A k) (aLen A k).toNat, M') ∧ EF M M' := by
      unfold f_10
      rw [c_62' (by decide +kernel) h.1.1 hX.1, Option.bind_some, hkt]
      unfold f_10_L18
      have key := loop_inv (b := fun s => f_10_L18b 2 (aLen A k) s.1 s.2.1 s.2.2.1 s.2.2.2) (s := ((-4 : Int), (0 : Int), (0 : Int), M)) (fun i s => s.1 = fnd 4 (aSum A k) i ∧ s.2.1 = maxN i (aSum A k) ∧ s.2.2.1 = (i : Int) ∧ EF M s.2.2.2) (Q := fun r => r.1 = fnd 4 (aSum A k) (aLen A k).toNat ∧ EF M r.2) (aLen A k).toNat ⟨rfl, rfl, rfl, EF_rf⟩ (fun i s hi hs2 => ?_) (fun s hs2 => ?_) (by show (aLen A k).toNat < 1000000; omega)
      · obtain ⟨r, k1, k2, k3⟩ := key
        obtain ⟨z, M'⟩ := r
        dsimp only at k2
        exact ⟨M', by rw [k1, k2], k3⟩
      · obtain ⟨v, g, j, M2⟩ := s
        obtain ⟨rfl, rfl, rfl, p2⟩ := hs2
        dsimp only at p2
        have b1 := hs i
        have b2 := hmx i
        have a1 := c_1' (EF_RC p2 h.1.1) hX (cell := i) (by omega)
        rw [hkt] at a1
        have a2 : f_4 (rowU M2 178 36 (aRing A k i)) = some (aSum A k i) := c_4 (R := aRing A k i) (fun q hq => rowU_at hq)
        refine ⟨(fnd 4 (aSum A k) (i + 1), maxN (i + 1) (aSum A k), (i : Int) + 1, rowU M2 178 36 (aRing A k i)), ?_, rfl, rfl, by show (i : Int) + 1 = ((i + 1 : Nat) : Int); omega, EF_ring p2⟩
        show f_10_L18b 2 (aLen A k) (fnd 4 (aSum A k) i) (maxN i (aSum A k)) (i : Int) M2 = some (Sum.inl (fnd 4 (aSum A k) (i + 1), (if maxN i (aSum A k) < aSum A k i then aSum A k i else maxN i (aSum A k)), (i : Int) + 1, rowU M2 178 36 (aRing A k i)))
        unfold f_10_L18b
        rw [wri (aLen A k) (by omega) (by omega), wri (i : Int) (by omega) (by omega), if_neg (by omega), a1, Option.bind_some, a2, Option.bind_some, wri (aSum A k i) (by omega) (by omega), wri (maxN i (aSum A k)) (by omega) (by omega), fnd_4 (by decide) (by decide)]
        by_cases q2 : aSum A k i ≤ maxN i (aSum A k)
        · rw [if_pos q2, if_neg (by omega), if_neg (by omega)]
        · rw [if_neg q2, Option.bind_some, if_pos (by omega), if_pos (by omega)]
      · obtain ⟨v, g, j, M2⟩ := s
        obtain ⟨rfl, rfl, rfl, p2⟩ := hs2
        dsimp only at p2
        refine ⟨(fnd 4 (aSum A k) (aLen A k).toNat, M2), ?_, rfl, p2⟩
        show f_10_L18b 2 (aLen A k) _ _ (((aLen A k).toNat : Nat) : Int) M2 = _
        unfold f_10_L18b
        rw [wri (aLen A k) (by omega) (by omega), wri _ (by omega) (by omega), if_pos (by omega)]
    obtain ⟨M', k1, k2⟩ := ec
    rw [k1]
    exact ⟨_, rfl, _, em M' (EF_all k2 h), by rw [if_neg q], ALL_of (EF_all k2 h)⟩
/-- the greatest force that is heard -/
theorem maxN_le {f : Nat → Int} {b : Int} (hb : 0 ≤ b) (k : Nat) (h : ∀ i, i < k → f i ≤ b) : maxN k f ≤ b := (maxN_b hb k h).2
theorem maxN_0 {f : Nat → Int} (k : Nat) : 0 ≤ maxN k f := by
  induction k with
  | zero => exact Int.le_refl _
  | succ k ih => show 0 ≤ if maxN k f < f k then f k else maxN k f; split <;> omega
def gHe (A : xM) (i : Nat) : Int := maxN (36 * (A 0 (14 + i)).toNat) (fun x => aAdd A i (x / 36) (x % 36))
theorem gHe_is (hX : WX T A) {i : Nat} (hi : (i : Int) < A 0 7) (hm : A 0 (20 + i) = 0) : gHe A i = maxN (36 * (A 0 (14 + i)).toNat) (fromK (kup A) (A (i + 1))) := by
  have h7 := hX.1.1.2.2.2.2.2.1
  have hlen := WF_len hX.1 (i := i) (by omega) (by omega) (by omega)
  have hk := kup_b hX.1
  have e : ∀ cell key, cell < (A 0 (14 + i)).toNat → aAdd A i cell key = if key + kup A < 36 then A (i + 1) (36 * cell + (key + kup A)) else 0 := fun cell key hc => by
    unfold aAdd
    rw [Nat.mod_eq_of_lt hc]
    by_cases q : key + kup A < 36
    · rw [if_pos ⟨hm, q⟩, if_pos q]
    · rw [if_neg (fun x => q x.2), if_neg q]
  unfold gHe
  refine Int.le_antisymm (maxN_le (maxN_0 _) _ (fun x hx => ?_)) (maxN_le (maxN_0 _) _ (fun x hx => ?_))
  · rw [e (x / 36) (x % 36) (by omega)]
    by_cases q : x % 36 + kup A < 36
    · rw [if_pos q]
      have := maxN_ge (f := fromK (kup A) (A (i + 1))) (36 * (A 0 (14 + i)).toNat) (36 * (x / 36) + (x % 36 + kup A)) (by omega)
      unfold fromK at this ⊢
      rw [if_pos (by omega)] at this
      exact this
    · rw [if_neg q]; exact maxN_0 _
  · unfold fromK
    by_cases q : kup A ≤ x % 36
    · rw [if_pos q]
      have := maxN_ge (f := fun x => aAdd A i (x / 36) (x % 36)) (36 * (A 0 (14 + i)).toNat) (x - kup A) (by omega)
      rw [e _ _ (by omega), if_pos (by omega), show 36 * ((x - kup A) / 36) + ((x - kup A) % 36 + kup A) = x by omega] at this
      exact this
    · rw [if_neg q]; exact maxN_0 _
theorem gHe_b (hX : WX T A) {i : Nat} (hi : (i : Int) < A 0 7) : 0 ≤ gHe A i ∧ gHe A i ≤ 99 := by
  have h7 := hX.1.1.2.2.2.2.2.1
  exact maxN_b (by decide) _ (fun x _ => (aAdd_b hX.1 (i := i) (cell := x / 36) (key := x % 36) (by omega)).2)
theorem c_67 (hR : RC M 2 A) (hX : WX T A) : f_67 M 2 = some (maxN (A 0 7).toNat (gHe A)) := by
  have hW := hX.1
  have h7 := hW.1.2.2.2.2.2.1
  have e5 : M 2 5 = A 0 7 := hR.1.2.2.1
  have hb : ∀ i, i ≤ (A 0 7).toNat → 0 ≤ maxN i (gHe A) ∧ maxN i (gHe A) ≤ 99 := fun i hi => maxN_b (by decide) i (fun j hj => (gHe_b hX (by omega)).2)
  unfold f_67 f_67_L4
  refine loop_to (fun i => (maxN i (gHe A), (i : Int))) (A 0 7).toNat (fun i hi => ?_) ?_ (by show (A 0 7).toNat < 1000000; omega)
  · show f_67_L4b M 2 (maxN i (gHe A)) (i : Int) = some (Sum.inl ((if maxN i (gHe A) < gHe A i then gHe A i else maxN i (gHe A)), ((i + 1 : Nat) : Int)))
    have b1 := hb i (by omega)
    have b2 := gHe_b hX (i := i) (by omega)
    have hmu := (hW.2.2.1 i (by omega) (by omega)).2.1
    unfold f_67_L4b
    rw [e5, wri (A 0 7) (by omega) (by omega), wri (i : Int) (by omega) (by omega), if_neg (by omega), c_66 (b := 2) (by decide +kernel) hR hW i (by omega), Option.bind_some]
    by_cases q : A 0 (20 + i) = 0
    · have hr := hR.2.1 i (by omega) (by omega)
      have hlen := WF_len hW (i := i) (by omega) (by omega) (by omega)
      have hT : Tg (2 + 6 + 3 * i) = 3 := gL7 (r := 2) (by decide +kernel) i (by omega)
      have ec : M (2 + 6 + 3 * i + 1) 1 = ((A 0 (14 + i)).toNat : Int) := by
        rw [show 2 + 6 + 3 * i + 1 = 2 + 7 + 3 * i by omega, hr.1]; omega
      have ev : ∀ x, x < 36 * (A 0 (14 + i)).toNat → M (2 + 6 + 3 * i + 1 + 1) x = A (i + 1) x := fun x hx => by
        rw [show 2 + 6 + 3 * i + 1 + 1 = 2 + 8 + 3 * i by omega]
        exact hr.2.2.2 x (by omega) (by omega)
      have e38 := c_38 (M := M) (low := kup A) (kup_b hW) (by omega) ec (fun x hx => by rw [ev x hx]; exact hW.2.2.2.1 i x (by omega) (by omega))
      have eg : maxN (36 * (A 0 (14 + i)).toNat) (fromK (kup A) (M (2 + 6 + 3 * i + 1 + 1))) = gHe A i := by
        rw [gHe_is hX (by omega) q]
        exact maxN_c _ (fun x hx => by unfold fromK; rw [ev x hx])
      rw [if_pos (show (i : Int) < A 0 7 ∧ A 0 (20 + i) = 0 from ⟨by omega, q⟩), if_neg (by omega), gd_pos hT, c_65 hR hW, e38, Option.bind_some, eg]
      unfold xmax
      rw [wri (maxN i (gHe A)) (by omega) (by omega), wri (gHe A i) (by omega) (by omega)]
      rfl
    · have e0 : gHe A i = 0 := by
        refine Int.le_antisymm (maxN_le (Int.le_refl 0) _ (fun x hx => ?_)) b2.1
        unfold aAdd
        rw [if_neg (fun w => q w.1)]; exact Int.le_refl _
      rw [if_neg (show ¬ ((i : Int) < A 0 7 ∧ A 0 (20 + i) = 0) from fun w => q w.2), if_pos rfl, e0, if_neg (by omega)]
      rfl
  · show f_67_L4b M 2 _ (((A 0 7).toNat : Nat) : Int) = _
    unfold f_67_L4b
    rw [e5, wri (A 0 7) (by omega) (by omega), wri _ (by omega) (by omega), if_pos (by omega)]
/-- the greatest of a number and some -/
def accM (v : Int) (f : Nat → Int) : Nat → Int
  | 0 => v
  | k + 1 => if accM v f k < f k then f k else accM v f k
theorem accM_is {v : Int} {f : Nat → Int} (hv : 0 ≤ v) : ∀ k, accM v f k = if v < maxN k f then maxN k f else v
  | 0 => by show v = if v < 0 then 0 else v; rw [if_neg (by omega)]
  | k + 1 => by
    have ih := accM_is (f := f) hv k
    show (if accM v f k < f k then f k else accM v f k) = if v < (if maxN k f < f k then f k else maxN k f) then (if maxN k f < f k then f k else maxN k f) else v
    rw [ih]
    repeat' split
    all_goals omega
theorem m_215 (hX : WX T A) : f_215 (mS M A) = some (maxN (A 0 7).toNat (gHe A)) := by
  have hW := hX.1
  have h7 := hW.1.2.2.2.2.2.1
  have hb : ∀ i, i ≤ (A 0 7).toNat → 0 ≤ maxN i (gHe A) ∧ maxN i (gHe A) ≤ 99 := fun i hi => maxN_b (by decide) i (fun j hj => (gHe_b hX (by omega)).2)
  have L16 : ∀ i, i < (A 0 7).toNat → f_215_L16 (mS M A) (i : Int) (maxN i (gHe A), 0) = some (Sum.inl (maxN (i + 1) (gHe A), (i : Int) + 1)) := by
    intro i hi
    have hlen := WF_len hW (i := i) (by omega) (by omega) (by omega)
    have b1 := hb i (by omega)
    have e14 : f_139 (mS M A) (14 + (i : Int)) = some (A 0 (14 + i)) := by
      have := m_139 (M := M) (A := A) (k := 14 + i) (by omega)
      rw [show ((14 + i : Nat) : Int) = 14 + (i : Int) by omega] at this
      exact this
    have hf : ∀ x, 0 ≤ aAdd A i (x / 36) (x % 36) ∧ aAdd A i (x / 36) (x % 36) ≤ 99 := fun x => aAdd_b hW (by omega)
    have ha : ∀ x, 0 ≤ accM (maxN i (gHe A)) (fun x => aAdd A i (x / 36) (x % 36)) x ∧ accM (maxN i (gHe A)) (fun x => aAdd A i (x / 36) (x % 36)) x ≤ 99 := fun x => by
      rw [accM_is b1.1]
      have := maxN_b (f := fun x => aAdd A i (x / 36) (x % 36)) (hi := 99) (by decide) x (fun j _ => (hf j).2)
      split <;> omega
    unfold f_215_L16
    have key := loop_to (b := fun s => f_215_L16b (mS M A) (i : Int) s.1 s.2) (fun x => (accM (maxN i (gHe A)) (fun x => aAdd A i (x / 36) (x % 36)) x, (x : Int))) (36 * (A 0 (14 + i)).toNat) (r := Sum.inl (maxN (i + 1) (gHe A), (i : Int) + 1)) (fun x hx => ?_) ?_ (by show 36 * (A 0 (14 + i)).toNat < 1000000; omega)
    · exact key
    · show f_215_L16b (mS M A) (i : Int) (accM (maxN i (gHe A)) (fun x => aAdd A i (x / 36) (x % 36)) x) (x : Int) = some (Sum.inl ((if accM (maxN i (gHe A)) (fun x => aAdd A i (x / 36) (x % 36)) x < aAdd A i (x / 36) (x % 36) then aAdd A i (x / 36) (x % 36) else accM (maxN i (gHe A)) (fun x => aAdd A i (x / 36) (x % 36)) x), ((x + 1 : Nat) : Int)))
      have c1 := hf x
      have c2 := ha x
      have d1 : (x : Int).tdiv 36 = ((x / 36 : Nat) : Int) := by rw [Int.tdiv_eq_ediv_of_nonneg (by omega)]; omega
      have d2 : (x : Int).tmod 36 = ((x % 36 : Nat) : Int) := by rw [Int.tmod_eq_emod_of_nonneg (by omega)]; omega
      unfold f_215_L16b
      rw [e14, Option.bind_some, wri (A 0 (14 + i) * 36) (by omega) (by omega), wri (x : Int) (by omega) (by omega), if_neg (by omega), d1, d2, m_196 hW (by omega) (by omega) (by omega), Option.bind_some, wri (aAdd A i (x / 36) (x % 36)) (by omega) (by omega), wri (accM (maxN i (gHe A)) (fun x => aAdd A i (x / 36) (x % 36)) x) (by omega) (by omega)]
      by_cases q : aAdd A i (x / 36) (x % 36) ≤ accM (maxN i (gHe A)) (fun x => aAdd A i (x / 36) (x % 36)) x
      · rw [if_pos q, if_neg (by omega)]; rfl
      · rw [if_neg q, if_pos (by omega)]; rfl
    · show f_215_L16b (mS M A) (i : Int) _ ((36 * (A 0 (14 + i)).toNat : Nat) : Int) = _
      unfold f_215_L16b
      rw [e14, Option.bind_some, wri (A 0 (14 + i) * 36) (by omega) (by omega), wri _ (by omega) (by omega), if_pos (by omega)]
      show some (Sum.inr (Sum.inl (accM (maxN i (gHe A)) (fun x => aAdd A i (x / 36) (x % 36)) (36 * (A 0 (14 + i)).toNat), (i : Int) + 1))) = _
      rw [accM_is b1.1]
      rfl
  unfold f_215 f_215_L4
  refine loop_to (fun i => (maxN i (gHe A), (i : Int))) (A 0 7).toNat (fun i hi => ?_) ?_ (by show (A 0 7).toNat < 1000000; omega)
  · show f_215_L4b (mS M A) (maxN i (gHe A)) (i : Int) = some (Sum.inl (maxN (i + 1) (gHe A), ((i + 1 : Nat) : Int)))
    unfold f_215_L4b
    rw [m_7, Option.bind_some, wri (A 0 7) (by omega) (by omega), wri (i : Int) (by omega) (by omega), if_neg (by omega), L16 i hi]
    rfl
  · show f_215_L4b (mS M A) _ (((A 0 7).toNat : Nat) : Int) = _
    unfold f_215_L4b
    rw [m_7, Option.bind_some, wri (A 0 7) (by omega) (by omega), wri _ (by omega) (by omega), if_pos (by omega)]
theorem step_silentIn (h : ALLx T M A P n o S sv pd len st stp) : ∃ r1, f_125 M = some r1 ∧ ∃ r2, f_216 M = some r2 ∧ r1 = r2 := by
  have hX := h.2.2.1
  have h7 := hX.1.1.2.2.2.2.2.1
  have e5 : M 2 5 = A 0 7 := h.1.1.1.2.2.1
  have e7 : f_139 M 7 = some (A 0 7) := by rw [← inS_mS h.2.1.1]; exact m_7
  have ef : f_139 M 5 = some (A 0 5) := by
    have : f_139 (mS M A) 5 = some (A 0 5) := m_139 (k := 5) (by decide)
    rw [inS_mS h.2.1.1] at this; exact this
  have es : f_59 M 2 2 = A 0 5 := (c_59 (b := 2) (w := 2) (by decide)).trans h.1.1.1.2.2.2.2.2.2.2.2.2.2
  have e215 := m_215 (M := M) hX
  rw [inS_mS h.2.1.1] at e215
  have eb : ∀ s, f_125_L23 M s = f_216_L19 M s := fun s => by
    unfold f_125_L23 f_216_L19
    congr 1
    funext s
    unfold f_125_L23b f_216_L19b f_136
    rw [es, ef]
    rfl
  have ex : ∀ (f : Nat) (v : Int) (i : Nat), i ≤ 100 → 101 - i ≤ f → ∃ r, loop f (fun s => f_125_L23b M s.1 s.2) (v, (i : Int)) = some r := by
    intro f
    induction f with
    | zero => intro v i h1 h2; omega
    | succ f ih =>
      intro v i h1 h2
      show ∃ r, (f_125_L23b M v (i : Int)).bind _ = some r
      unfold f_125_L23b
      rw [wri (i : Int) (by omega) (by omega)]
      by_cases q : 99 < (i : Int)
      · rw [if_pos q]; exact ⟨_, rfl⟩
      · rw [if_neg q]
        by_cases q2 : wr v = 0
        · rw [if_pos q2]; exact ⟨_, rfl⟩
        · rw [if_neg q2]
          obtain ⟨r, hr⟩ := ih (f_136 v (f_59 M 2 2)) (i + 1) (by omega) (by omega)
          exact ⟨r, hr⟩
  unfold f_125 f_216
  rw [e5, e7, Option.bind_some, wri (A 0 7) (by omega) (by omega), c_67 h.1.1 hX, e215]
  by_cases q : A 0 7 = 0
  · rw [if_pos q, if_pos q]; exact ⟨_, rfl, _, rfl, rfl⟩
  · rw [if_neg q, if_neg q, Option.bind_some, Option.bind_some, ← eb]
    obtain ⟨r, hr⟩ := ex NF (maxN (A 0 7).toNat (gHe A)) 0 (by decide) (by show 101 - 0 ≤ 1000000; decide)
    exact ⟨r, hr, r, hr, rfl⟩
end CE
