/-! MEANING, 7: the reference's doings -/
section M2
variable {M A : xM} {T : Int}
theorem m_149 : f_149 (mS M A) = mS M (aStarts A) := by
  unfold f_149 aStarts
  simp only [bnd_def]
  rw [mS_set (by decide), mS_set (by decide), mS_set (by decide), mS_set (by decide)]
theorem m_151 : f_151 (mS M A) = some (mS M (aClr A)) := by
  unfold f_151 aClr
  rw [bnd_def, mS_set (by decide)]
  have := m_143 (M := M) (A := xset A 0 11 0) (l := 6) (by decide)
  rw [show ((6 : Nat) : Int) = 6 from rfl] at this
  rw [this]; rfl
theorem m_150 (hW : WFs T A) : f_150 (mS M A) = some (mS M (aBegin A)) := by
  have h0 := hW.1
  unfold f_150 aBegin
  have e0 : f_139 (mS M A) 0 = some (A 0 0) := m_139 (k := 0) (by decide)
  have key : ∀ v : Int, f_150_L20 (mS M A) 0 v = some (mS M (rowU (xset (xset (xset A 0 0 v) 0 12 (A 0 1)) 0 11 0) 7 1728 (fun _ => 0))) := by
    intro v
    unfold f_150_L20
    rw [wr0, gd_pos (by decide), bnd_def, show Int.toNat 0 = 0 from rfl, mS_set (by decide), bnd_def, mS_sc (by decide), xset_j (by decide), mS_set (by decide), bnd_def, mS_set (by decide)]
    have := m_143 (M := M) (A := xset (xset (xset A 0 0 v) 0 12 (A 0 1)) 0 11 0) (l := 6) (by decide)
    rw [show ((6 : Nat) : Int) = 6 from rfl] at this
    rw [this]; rfl
  rw [e0]
  show (if wr (A 0 0) = 0 then _ else _) = _
  rw [wri _ (by omega) (by omega), key, key]
  by_cases q : A 0 0 = 0
  · rw [if_pos q, if_pos q]
  · rw [if_neg q, if_neg q]
theorem WFf_lay (hF : WFf A) {cells on : Nat} (hc : cells + on ≤ 48) {x : Nat} (hx : x < 36 * cells) : 0 ≤ layF A on x ∧ layF A on x ≤ 99 := by
  have h1 : 0 ≤ A 7 x ∧ A 7 x ≤ 99 := hF 6 x (by decide) (by omega)
  unfold layF both
  by_cases q : on = 0
  · rw [if_pos q]; split <;> omega
  · rw [if_neg q]
    have h2 : 0 ≤ A 7 (x + 36 * on) ∧ A 7 (x + 36 * on) ≤ 99 := hF 6 (x + 36 * on) (by decide) (by omega)
    split <;> omega
theorem m_152 (hF : WFf A) (h7 : 0 ≤ A 0 7 ∧ A 0 7 ≤ 5) {cells on : Nat} (hc : cells + on ≤ 48) : f_152 (mS M A) (cells : Int) (on : Int) = some (mS M (aLays A cells on)) := by
  obtain ⟨n, hn⟩ : ∃ n : Nat, A 0 7 = (n : Int) := ⟨(A 0 7).toNat, by omega⟩
  have hn5 : n ≤ 5 := by omega
  have hnt : (A 0 7).toNat = n := by omega
  unfold f_152
  rw [m_7, hn]
  show (f_143 (mS M A) (n : Int)).bind (fun k2 => f_152_L15 (cells : Int) (on : Int) (n : Int) (0, k2)) = _
  rw [m_143 (by omega)]
  show f_152_L15 (cells : Int) (on : Int) (n : Int) (0, mS M (rowU A (n + 1) 1728 (fun _ => 0))) = _
  unfold f_152_L15
  have hF1 : WFf (rowU A (n + 1) 1728 (fun _ => 0)) := WFf_row hF (fun _ _ => by omega)
  have hF2 : ∀ i, i ≤ 36 * cells → WFf (rowU (rowU A (n + 1) 1728 (fun _ => 0)) (n + 1) i (layF A on)) := fun i hi => WFf_row hF1 (fun j hj => WFf_lay hF hc (by omega))
  have key := loop_to (b := fun s => f_152_L15b (cells : Int) (on : Int) (n : Int) s.1 s.2) (fun i => ((i : Int), mS M (rowU (rowU A (n + 1) 1728 (fun _ => 0)) (n + 1) i (layF A on)))) (36 * cells) (r := mS M (aLays A cells on)) (fun i hi => ?_) ?_ (by show 36 * cells < 1000000; omega)
  · have e0 : ((0 : Int), mS M (rowU A (n + 1) 1728 (fun _ => 0))) = ((fun i : Nat => ((i : Int), mS M (rowU (rowU A (n + 1) 1728 (fun _ => 0)) (n + 1) i (layF A on)))) 0) := by
      show _ = (((0 : Nat) : Int), _)
      rw [rowU_0]; rfl
    rw [e0]; exact key
  · show f_152_L15b (cells : Int) (on : Int) (n : Int) (i : Int) (mS M (rowU (rowU A (n + 1) 1728 (fun _ => 0)) (n + 1) i (layF A on))) = some (Sum.inl (((i + 1 : Nat) : Int), mS M (rowU (rowU A (n + 1) 1728 (fun _ => 0)) (n + 1) (i + 1) (layF A on))))
    have hFi := hF2 i (by omega)
    have d1 : (wr (i : Int)).tdiv 36 = ((i / 36 : Nat) : Int) := by rw [wri _ (by omega) (by omega), Int.tdiv_eq_ediv_of_nonneg (by omega)]; omega
    have d2 : (wr (i : Int)).tmod 36 = ((i % 36 : Nat) : Int) := by rw [wri _ (by omega) (by omega), Int.tmod_eq_emod_of_nonneg (by omega)]; omega
    have hx : 36 * (i / 36) + i % 36 = i := by omega
    have b1 : 0 ≤ A 7 i ∧ A 7 i ≤ 99 := hF 6 i (by decide) (by omega)
    have last : ∀ s0 : Int, s0 = (if on = 0 then 0 else A 7 (i + 36 * on)) → f_152_L68 (mS M (rowU (rowU A (n + 1) 1728 (fun _ => 0)) (n + 1) i (layF A on))) (cells : Int) (on : Int) (n : Int) (i : Int) (A 7 i) s0 = some (Sum.inl (((i + 1 : Nat) : Int), mS M (rowU (rowU A (n + 1) 1728 (fun _ => 0)) (n + 1) (i + 1) (layF A on)))) := by
      intro s0 hs0
      have bs : 0 ≤ s0 ∧ s0 ≤ 99 := by
        rw [hs0]
        by_cases q : on = 0
        · rw [if_pos q]; omega
        · rw [if_neg q]; exact hF 6 _ (by decide) (by omega)
      have ev : f_144 (A 7 i) s0 = layF A on i := by rw [m_144 (by omega) (by omega), hs0]; rfl
      unfold f_152_L68
      rw [d1, d2, ev, m_142 hFi (by omega) (by omega) (by omega) (WFf_lay hF hc hi), hx, rowU_s]
      rfl
    unfold f_152_L15b
    rw [wri ((cells : Int) * 36) (by omega) (by omega), d1, d2, wri (i : Int) (by omega) (by omega), if_neg (by omega)]
    have e1 := m_141 (M := M) hFi (l := 6) (c := i / 36) (k := i % 36) (by decide) (by omega) (by omega)
    rw [show ((6 : Nat) : Int) = 6 from rfl, hx, rowU_ne (by omega), rowU_ne (by omega)] at e1
    rw [e1]
    show (if wr (on : Int) = 0 then _ else _) = _
    rw [wri (on : Int) (by omega) (by omega)]
    by_cases q : on = 0
    · rw [if_pos (by omega)]
      exact last 0 (by rw [if_pos q])
    · rw [if_neg (by omega), show ((i / 36 : Nat) : Int) + (on : Int) = ((i / 36 + on : Nat) : Int) by omega]
      have e2 := m_141 (M := M) hFi (l := 6) (c := i / 36 + on) (k := i % 36) (by decide) (by omega) (by omega)
      rw [show ((6 : Nat) : Int) = 6 from rfl, show 36 * (i / 36 + on) + i % 36 = i + 36 * on by omega, rowU_ne (by omega), rowU_ne (by omega)] at e2
      rw [e2]
      exact last _ (by rw [if_neg q])
  · show f_152_L15b (cells : Int) (on : Int) (n : Int) ((36 * cells : Nat) : Int) (mS M (rowU (rowU A (n + 1) 1728 (fun _ => 0)) (n + 1) (36 * cells) (layF A on))) = _
    unfold f_152_L15b aLays
    rw [hnt, wri _ (by omega) (by omega), wri _ (by omega) (by omega), if_pos (by omega), wri (14 + (n : Int)) (by omega) (by omega), wri (20 + (n : Int)) (by omega) (by omega), wri (26 + (n : Int)) (by omega) (by omega), gd_pos (by omega), bnd_def, gd_pos (by omega), bnd_def, gd_pos (by omega), bnd_def]
    rw [show (14 + (n : Int)).toNat = 14 + n by omega, show (20 + (n : Int)).toNat = 20 + n by omega, show (26 + (n : Int)).toNat = 26 + n by omega, wri (cells : Int) (by omega) (by omega)]
    rw [mS_set (by omega), mS_set (by omega), mS_set (by omega), bnd_def, mS_sc (by decide), mS_set (by decide), bnd_def, mS_set (by decide), bnd_def, mS_sc (by decide), mS_set (by decide)]
    have g7 : ∀ Z : xM, xset (xset (xset Z 0 (14 + n) (cells : Int)) 0 (20 + n) 0) 0 (26 + n) 0 0 7 = Z 0 7 := fun Z => by rw [xset_j (by omega), xset_j (by omega), xset_j (by omega)]
    have g13 : ∀ (Z : xM) (v : Int), xset (xset (xset (xset (xset Z 0 (14 + n) (cells : Int)) 0 (20 + n) 0) 0 (26 + n) 0) 0 7 v) 0 8 0 0 13 = Z 0 13 := fun Z v => by rw [xset_j (by omega), xset_j (by omega), xset_j (by omega), xset_j (by omega), xset_j (by omega)]
    rw [g7, g13, rowU_ne (by omega), rowU_ne (by omega)]
theorem m_153 (hW : WFs T A) {c : Int} (hc : 1 ≤ c ∧ c ≤ 24) : f_153 (mS M A) c = some (rnd (A 0 3) (A 0 4) c) := by
  have h3 := hW.2.2.1
  have h4 := hW.2.2.2.1
  unfold f_153
  have e3 : f_139 (mS M A) 3 = some (A 0 3) := m_139 (k := 3) (by decide)
  rw [e3]
  show f_153_L11 (mS M A) c (A 0 3) (0, A 0 3) = _
  rw [← (rnd_ok h3 h4 hc).2.1]
  unfold f_153_L11
  congr 1
theorem m_11 : f_139 (mS M A) 11 = some (A 0 11) := m_139 (k := 11) (by decide)
theorem m_0 : f_139 (mS M A) 0 = some (A 0 0) := m_139 (k := 0) (by decide)
theorem m_6 : f_139 (mS M A) 6 = some (A 0 6) := m_139 (k := 6) (by decide)
theorem fstCells_b (hW : WFs T A) (h1 : 1 ≤ A 0 11) : 1 ≤ fstCells A ∧ fstCells A ≤ 24 := by
  have := hW.2.2.2.2.2.2.2.2.2.1
  unfold fstCells
  split <;> omega
theorem m_154 (hW : WFs T A) (hF : WFf A) (h7 : A 0 7 ≤ 5) (h1 : 1 ≤ A 0 11) : f_154 (mS M A) = some (mS M (aEndFirst A)) := by
  have h11 := hW.2.2.2.2.2.2.2.2.2.1
  have hb := fstCells_b hW h1
  have h70 := hW.2.2.2.2.2.1
  have key : f_154_L24 (mS M A) (fstCells A) = some (mS M (aEndFirst A)) := by
    obtain ⟨-, -, r1, r2⟩ := rnd_ok hW.2.2.1 hW.2.2.2.1 hb
    unfold f_154_L24
    rw [m_153 hW hb, Option.bind_some, show rnd (A 0 3) (A 0 4) (fstCells A) = fstLen A from rfl]
    have hfl : 1 ≤ fstLen A ∧ fstLen A ≤ 24 := ⟨r1, r2⟩
    have e1 := m_152 (M := M) hF ⟨h70.1, h7⟩ (cells := (fstLen A).toNat) (on := 0) (by omega)
    rw [show (((fstLen A).toNat : Nat) : Int) = fstLen A by omega, show ((0 : Nat) : Int) = 0 from rfl] at e1
    rw [e1, Option.bind_some, bnd_def, wri _ (by omega) (by omega), mS_set (by decide), m_151]
    show some (f_149 _) = _
    rw [m_149]; rfl
  unfold f_154
  rw [m_11]
  show (if 24 ≤ wr ((wr (A 0 11 + 1)).tdiv 2) then _ else _) = _
  rw [wri (A 0 11 + 1) (by omega) (by omega), Int.tdiv_eq_ediv_of_nonneg (by omega), wri _ (by omega) (by omega)]
  rw [← key]
  unfold fstCells
  by_cases q : 24 ≤ (A 0 11 + 1) / 2
  · rw [if_pos q, if_pos q]
  · rw [if_neg q, if_neg q]
theorem aLays_sc {cells on k : Nat} (h : k ≠ 7 ∧ k ≠ 8 ∧ k ≠ 13 ∧ k ≠ 14 + (A 0 7).toNat ∧ k ≠ 20 + (A 0 7).toNat ∧ k ≠ 26 + (A 0 7).toNat) : aLays A cells on 0 k = A 0 k := by
  unfold aLays
  rw [xset_j (by omega), xset_j (by omega), xset_j (by omega), xset_j (by omega), xset_j (by omega), xset_j (by omega), rowU_ne (by omega), rowU_ne (by omega)]
theorem m_155 (hW : WF T A) (h3 : A 0 0 = 3) (h7 : A 0 7 ≤ 5) : f_155 (mS M A) = some (mS M (aEndOver A)) := by
  have hb := (hW.2.1.2.1 (by omega)).1
  have h6 := hW.2.1.2.2.1 hb
  have h70 := hW.1.2.2.2.2.2.1
  have h11 := hW.1.2.2.2.2.2.2.2.2.2.1
  have h12 := hW.1.2.2.2.2.2.2.2.2.2.2.1
  have hl := aLen_b hW (n := (A 0 7).toNat) (by omega)
  have e72 : ∀ Z : xM, f_155_L72 (mS M Z) = some (mS M (xset (aClr Z) 0 0 2)) := by
    intro Z
    unfold f_155_L72
    rw [m_151]
    show some (xset (mS M (aClr Z)) 183 0 2) = _
    rw [mS_set (by decide)]
  have e29 : f_155_L29 (mS M A) (A 0 6) = some (mS M (xset (aClr (xset (aLays A (2 * (A 0 6).toNat) 0) 0 1 ((A 0 12 + A 0 11) % (4 * A 0 6)))) 0 0 2)) := by
    unfold f_155_L29
    have e1 := m_152 (M := M) hW.2.2.2.1 ⟨h70.1, h7⟩ (cells := 2 * (A 0 6).toNat) (on := 0) (by omega)
    rw [show ((2 * (A 0 6).toNat : Nat) : Int) = 2 * A 0 6 by omega, show ((0 : Nat) : Int) = 0 from rfl] at e1
    rw [e1, Option.bind_some, wri (4 * A 0 6) (by omega) (by omega), wli (4 * A 0 6) (by omega) (by omega), gd_pos (by omega), bnd_def, mS_sc (by decide), mS_sc (by decide), aLays_sc (by omega), aLays_sc (by omega), wli _ (by omega) (by omega), mS_set (by decide), Int.tmod_eq_emod_of_nonneg (by omega), e72]
  unfold f_155 aEndOver
  rw [m_6, m_147 hW]
  show (if wr (aLen A (A 0 7).toNat) = wr (2 * A 0 6) then _ else _) = _
  rw [wri (aLen A (A 0 7).toNat) (by omega) (by omega), wri (2 * A 0 6) (by omega) (by omega), m_11]
  show (if aLen A (A 0 7).toNat = 2 * A 0 6 then _ else if wr (A 0 11) ≤ 2 * A 0 6 then _ else _) = _
  rw [wri (A 0 11) (by omega) (by omega), e29]
  by_cases q : aLen A (A 0 7).toNat = 2 * A 0 6
  · rw [if_pos q, if_pos (Or.inl q)]
  · rw [if_neg q]
    by_cases q2 : A 0 11 ≤ 2 * A 0 6
    · rw [if_pos q2, if_neg (by omega)]
      have e1 := m_152 (M := M) hW.2.2.2.1 ⟨h70.1, h7⟩ (cells := (A 0 6).toNat) (on := (A 0 6).toNat) (by omega)
      rw [show (((A 0 6).toNat : Nat) : Int) = A 0 6 by omega] at e1
      rw [e1, Option.bind_some, e72]
    · rw [if_neg q2, if_pos (Or.inr (by omega))]
theorem m_148 (hW : WFs T A) : f_148 (mS M A) = some (if tkr A then 1 else 0) := by
  have h0 := hW.1
  unfold f_148
  rw [m_0]
  show (if wr (A 0 0) = 1 then _ else if wr (A 0 0) = 3 then _ else _) = _
  rw [wri _ (by omega) (by omega)]
  by_cases q : A 0 0 = 1
  · rw [if_pos q, if_pos (Or.inl q)]
  · rw [if_neg q]
    by_cases q2 : A 0 0 = 3
    · rw [if_pos q2, if_pos (Or.inr q2)]
    · rw [if_neg q2, if_neg (by omega)]
end M2
