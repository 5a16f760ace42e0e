/-! MEANING, 25: looks at layers and numbers -/
section LO
variable {M A : xM} {T : Int} {P : Nat → xM} {n o : Nat} {S : xM} {sv : Int} {pd : Nat → Int} {len : Nat} {st : Nat → Int} {stp : Int}
def pos1 (f : Nat → Int) (x : Nat) : Int := if 0 < f x then 1 else 0
theorem c_36 {n0 c : Nat} (hc : c ≤ 48) (hn : M n0 1 = (c : Int)) (hv : ∀ x, x < 36 * c → 0 ≤ M (n0 + 1) x ∧ M (n0 + 1) x ≤ 99) : f_36 M n0 = some (sumN (36 * c) (pos1 (M (n0 + 1)))) := by
  unfold f_36 f_36_L4
  refine loop_to (fun i => (sumN i (pos1 (M (n0 + 1))), (i : Int))) (36 * c) (fun i hi => ?_) ?_ (by show 36 * c < 1000000; omega)
  · show f_36_L4b M n0 (sumN i (pos1 (M (n0 + 1)))) (i : Int) = some (Sum.inl (sumN (i + 1) (pos1 (M (n0 + 1))), ((i + 1 : Nat) : Int)))
    have h1 := hv i hi
    unfold f_36_L4b
    rw [hn, wri ((c : Int) * 36) (by omega) (by omega), wri (i : Int) (by omega) (by omega), if_neg (by omega), if_neg (by omega), gd_pos (by omega), Int.toNat_natCast, wri (M (n0 + 1) i) (by omega) (by omega)]
    have e : sumN (i + 1) (pos1 (M (n0 + 1))) = sumN i (pos1 (M (n0 + 1))) + (if 0 < M (n0 + 1) i then 1 else 0) := rfl
    rw [e]
    by_cases q : M (n0 + 1) i ≤ 0
    · rw [if_pos q, if_neg (by omega), Int.add_zero]; rfl
    · rw [if_neg q, if_pos (by omega)]; rfl
  · show f_36_L4b M n0 _ ((36 * c : Nat) : Int) = _
    unfold f_36_L4b
    rw [hn, wri ((c : Int) * 36) (by omega) (by omega), wri _ (by omega) (by omega), if_pos (by omega)]
theorem c_37 {n0 c : Nat} (hc : c ≤ 48) (hn : M n0 1 = (c : Int)) : f_37 M n0 = some (sumN (36 * c) (M (n0 + 1))) := by
  unfold f_37 f_37_L4
  refine loop_to (fun i => (sumN i (M (n0 + 1)), (i : Int))) (36 * c) (fun i hi => ?_) ?_ (by show 36 * c < 1000000; omega)
  · show f_37_L4b M n0 (sumN i (M (n0 + 1))) (i : Int) = some (Sum.inl (sumN (i + 1) (M (n0 + 1)), ((i + 1 : Nat) : Int)))
    unfold f_37_L4b
    rw [hn, wri ((c : Int) * 36) (by omega) (by omega), wri (i : Int) (by omega) (by omega), if_neg (by omega), if_neg (by omega), gd_pos (by omega), Int.toNat_natCast]
    rfl
  · show f_37_L4b M n0 _ ((36 * c : Nat) : Int) = _
    unfold f_37_L4b
    rw [hn, wri ((c : Int) * 36) (by omega) (by omega), wri _ (by omega) (by omega), if_pos (by omega)]
def fromK (low : Nat) (f : Nat → Int) (x : Nat) : Int := if low ≤ x % 36 then f x else 0
theorem maxN_zero {f : Nat → Int} {n : Nat} : ∀ m, (∀ i, n ≤ i → i < n + m → f i = 0) → maxN (n + m) f = maxN n f
  | 0, _ => rfl
  | m + 1, h => by
    have ih := maxN_zero (f := f) (n := n) m (fun i a b => h i a (by omega))
    show (if maxN (n + m) f < f (n + m) then f (n + m) else maxN (n + m) f) = _
    have h0 : 0 ≤ maxN (n + m) f := by
      rcases maxN_is (f := f) (n + m) with q | ⟨i, q1, q2⟩
      · omega
      · have : ∀ k, 0 ≤ maxN k f := fun k => by
          induction k with
          | zero => exact Int.le_refl _
          | succ k ihk => show 0 ≤ if maxN k f < f k then f k else maxN k f; split <;> omega
        exact this _
    rw [h (n + m) (by omega) (by omega), if_neg (by omega), ih]
theorem c_38 {n0 c low : Nat} (hl : low ≤ 12) (hc : c ≤ 48) (hn : M n0 1 = (c : Int)) (hv : ∀ x, x < 36 * c → 0 ≤ M (n0 + 1) x ∧ M (n0 + 1) x ≤ 99) : f_38 M n0 (low : Int) = some (maxN (36 * c) (fromK low (M (n0 + 1)))) := by
  have hg : ∀ m, m ≤ 36 * c → 0 ≤ maxN m (fromK low (M (n0 + 1))) ∧ maxN m (fromK low (M (n0 + 1))) ≤ 99 := fun m hm => maxN_b (by decide) m (fun i hi => by
    unfold fromK
    split
    · exact (hv i (by omega)).2
    · decide)
  unfold f_38 f_38_L4
  have L15 : ∀ cell : Nat, cell < c → f_38_L15 M n0 (low : Int) (cell : Int) (maxN (36 * cell) (fromK low (M (n0 + 1))), (low : Int)) = some (Sum.inl (maxN (36 * (cell + 1)) (fromK low (M (n0 + 1))), (cell : Int) + 1)) := by
    intro cell hcell
    unfold f_38_L15
    have key := loop_to (b := fun s => f_38_L15b M n0 (low : Int) (cell : Int) s.1 s.2) (fun k => (maxN (36 * cell + low + k) (fromK low (M (n0 + 1))), ((low + k : Nat) : Int))) (36 - low) (r := Sum.inl (maxN (36 * (cell + 1)) (fromK low (M (n0 + 1))), (cell : Int) + 1)) (fun k hk => ?_) ?_ (by show 36 - low < 1000000; omega)
    · have e0 : (maxN (36 * cell) (fromK low (M (n0 + 1))), (low : Int)) = ((fun k : Nat => (maxN (36 * cell + low + k) (fromK low (M (n0 + 1))), ((low + k : Nat) : Int))) 0) := by
        have ez := maxN_zero (f := fromK low (M (n0 + 1))) (n := 36 * cell) low (fun i a b => by unfold fromK; rw [if_neg (by omega)])
        show _ = (maxN (36 * cell + low) (fromK low (M (n0 + 1))), (low : Int))
        rw [ez]
      rw [e0]; exact key
    · show f_38_L15b M n0 (low : Int) (cell : Int) (maxN (36 * cell + low + k) (fromK low (M (n0 + 1)))) ((low + k : Nat) : Int) = some (Sum.inl (maxN (36 * cell + low + k + 1) (fromK low (M (n0 + 1))), ((low + (k + 1) : Nat) : Int)))
      have h1 := hg (36 * cell + low + k) (by omega)
      have h2 := hv (36 * cell + (low + k)) (by omega)
      unfold f_38_L15b
      rw [wri _ (by omega) (by omega), if_neg (by omega), c_30 (by omega) (by omega), if_pos (by omega)]
      unfold xmax
      rw [wri _ (by omega) (by omega), wri (M (n0 + 1) (36 * cell + (low + k))) (by omega) (by omega)]
      have e : fromK low (M (n0 + 1)) (36 * cell + low + k) = M (n0 + 1) (36 * cell + (low + k)) := by
        unfold fromK; rw [if_pos (by omega), Nat.add_assoc]
      have e2 : maxN (36 * cell + low + k + 1) (fromK low (M (n0 + 1))) = if maxN (36 * cell + low + k) (fromK low (M (n0 + 1))) < fromK low (M (n0 + 1)) (36 * cell + low + k) then fromK low (M (n0 + 1)) (36 * cell + low + k) else maxN (36 * cell + low + k) (fromK low (M (n0 + 1))) := rfl
      rw [e2, e]; rfl
    · show f_38_L15b M n0 (low : Int) (cell : Int) (maxN (36 * cell + low + (36 - low)) (fromK low (M (n0 + 1)))) ((low + (36 - low) : Nat) : Int) = _
      unfold f_38_L15b
      rw [wri _ (by omega) (by omega), if_pos (by omega), show 36 * cell + low + (36 - low) = 36 * (cell + 1) by omega]
  have key := loop_to (b := fun s => f_38_L4b M n0 (low : Int) s.1 s.2) (fun cell => (maxN (36 * cell) (fromK low (M (n0 + 1))), (cell : Int))) c (r := maxN (36 * c) (fromK low (M (n0 + 1)))) (fun cell hcell => ?_) ?_ (by show c < 1000000; omega)
  · exact key
  · show f_38_L4b M n0 (low : Int) (maxN (36 * cell) (fromK low (M (n0 + 1)))) (cell : Int) = some (Sum.inl (maxN (36 * (cell + 1)) (fromK low (M (n0 + 1))), ((cell + 1 : Nat) : Int)))
    unfold f_38_L4b
    rw [hn, wri (c : Int) (by omega) (by omega), wri (cell : Int) (by omega) (by omega), if_neg (by omega), L15 cell hcell]
    rfl
  · show f_38_L4b M n0 (low : Int) _ (c : Int) = _
    unfold f_38_L4b
    rw [hn, if_pos (Int.le_refl _)]
/-- the reference's count, sum, greatest -/
def acc3 (w : Int) (f : Nat → Int) : Nat → Int
  | 0 => 0
  | k + 1 => if w = 3 then (if acc3 w f k < f k then f k else acc3 w f k) else if w = 1 then acc3 w f k + pos1 f k else acc3 w f k + f k
theorem acc3_1 {f : Nat → Int} : ∀ k, acc3 1 f k = sumN k (pos1 f)
  | 0 => rfl
  | k + 1 => by unfold acc3; rw [if_neg (by decide), if_pos rfl, acc3_1 k]; rfl
theorem acc3_2 {f : Nat → Int} : ∀ k, acc3 2 f k = sumN k f
  | 0 => rfl
  | k + 1 => by unfold acc3; rw [if_neg (by decide), if_neg (by decide), acc3_2 k]; rfl
theorem acc3_3 {f : Nat → Int} : ∀ k, acc3 3 f k = maxN k f
  | 0 => rfl
  | k + 1 => by unfold acc3; rw [if_pos rfl, acc3_3 k]; rfl
theorem m_193 (hF : WFf A) {l c : Nat} (hl : l < 7) (hc : c ≤ 48) {w : Int} (hw : w = 1 ∨ w = 2 ∨ w = 3) : f_193 (mS M A) (l : Int) (c : Int) w = some (acc3 w (A (l + 1)) (36 * c)) := by
  have hb : ∀ k, k ≤ 36 * c → w = 3 → 0 ≤ acc3 w (A (l + 1)) k ∧ acc3 w (A (l + 1)) k ≤ 99 := fun k hk e => by
    subst e
    rw [acc3_3]
    exact maxN_b (by decide) k (fun i hi => (hF l i hl (by omega)).2)
  unfold f_193 f_193_L6
  refine loop_to (fun i => (acc3 w (A (l + 1)) i, (i : Int))) (36 * c) (fun i hi => ?_) ?_ (by show 36 * c < 1000000; omega)
  · show f_193_L6b (mS M A) (l : Int) (c : Int) w (acc3 w (A (l + 1)) i) (i : Int) = some (Sum.inl (acc3 w (A (l + 1)) (i + 1), ((i + 1 : Nat) : Int)))
    have h1 := hF l i hl (by omega)
    have d1 : (i : Int).tdiv 36 = ((i / 36 : Nat) : Int) := by rw [Int.tdiv_eq_ediv_of_nonneg (by omega)]; omega
    have d2 : (i : Int).tmod 36 = ((i % 36 : Nat) : Int) := by rw [Int.tmod_eq_emod_of_nonneg (by omega)]; omega
    have e1 := m_141 (M := M) hF (l := l) (c := i / 36) (k := i % 36) hl (by omega) (by omega)
    rw [show 36 * (i / 36) + i % 36 = i by omega] at e1
    have hww : wr w = w := by rcases hw with h | h | h <;> subst h <;> decide +kernel
    unfold f_193_L6b
    rw [wri ((c : Int) * 36) (by omega) (by omega), wri (i : Int) (by omega) (by omega), if_neg (by omega), d1, d2, e1, Option.bind_some, hww, wri (A (l + 1) i) (by omega) (by omega)]
    unfold f_193_L52
    rw [hww]
    rcases hw with h | h | h
    · subst h
      have e3 : acc3 1 (A (l + 1)) (i + 1) = acc3 1 (A (l + 1)) i + (if 0 < A (l + 1) i then 1 else 0) := by
        show (if (1 : Int) = 3 then _ else if (1 : Int) = 1 then _ else _) = _
        rw [if_neg (by decide), if_pos rfl]; rfl
      rw [e3, if_pos rfl]
      by_cases q : A (l + 1) i ≤ 0
      · rw [if_pos q, if_neg (show ¬ (1 : Int) = 3 by decide), if_neg (by omega)]; rfl
      · rw [if_neg q, if_neg (show ¬ (1 : Int) = 3 by decide), if_pos (by omega)]; rfl
    · subst h
      have e3 : acc3 2 (A (l + 1)) (i + 1) = acc3 2 (A (l + 1)) i + A (l + 1) i := by
        show (if (2 : Int) = 3 then _ else if (2 : Int) = 1 then _ else _) = _
        rw [if_neg (by decide), if_neg (by decide)]
      rw [e3, if_neg (by decide), if_neg (by decide)]; rfl
    · subst h
      have h3 := hb i (by omega) rfl
      have e3 : acc3 3 (A (l + 1)) (i + 1) = if acc3 3 (A (l + 1)) i < A (l + 1) i then A (l + 1) i else acc3 3 (A (l + 1)) i := by
        show (if (3 : Int) = 3 then _ else if (3 : Int) = 1 then _ else _) = _
        rw [if_pos rfl]
      rw [e3, if_neg (by decide), if_pos rfl, wri (A (l + 1) i) (by omega) (by omega), wri (acc3 3 (A (l + 1)) i) (by omega) (by omega)]
      by_cases q : A (l + 1) i ≤ acc3 3 (A (l + 1)) i
      · rw [if_pos q, if_neg (by omega)]; rfl
      · rw [if_neg q, if_pos (by omega)]; rfl
  · show f_193_L6b (mS M A) (l : Int) (c : Int) w _ ((36 * c : Nat) : Int) = _
    unfold f_193_L6b
    rw [wri ((c : Int) * 36) (by omega) (by omega), wri _ (by omega) (by omega), if_pos (by omega)]
theorem m_145' (hX : WX T A) {l : Int} (hl : -2147483648 ≤ l ∧ l < 2147483648) : f_145 (mS M A) l = some (f_138 l 0 (A 0 7 - 1)) ∧ (wr (f_138 l 0 (A 0 7 - 1)) = 0 ↔ ¬ (0 ≤ l ∧ l < A 0 7)) := ⟨m_145 hX l, m_145q hX hl⟩
theorem pos1_c {f g : Nat → Int} {k : Nat} (h : ∀ x, x < k → f x = g x) : sumN k (pos1 f) = sumN k (pos1 g) := sumN_c k (fun i hi => by unfold pos1; rw [h i hi])
theorem step_layer (h : ALLx T M A P n o S sv pd len st stp) {l w : Int} (hl : -2147483648 ≤ l ∧ l < 2147483648) (hw : -2147483648 ≤ w ∧ w < 2147483648) : ∃ r1, f_112 M l w = some r1 ∧ ∃ r2, f_194 M l w = some r2 ∧ r1 = r2 := by
  obtain ⟨⟨h1, h2⟩, ⟨h3, h4⟩, h5, h6⟩ := h
  have hW := h5.1
  have h7 := hW.1.2.2.2.2.2.1
  obtain ⟨k1, k2⟩ := m_145' (M := M) h5 hl
  rw [inS_mS h3] at k1
  unfold f_112 f_194
  rw [k1, Option.bind_some, c_58 h1 hW l, wri l hl.1 hl.2, wri w hw.1 hw.2]
  by_cases q : 0 ≤ l ∧ l < A 0 7
  · obtain ⟨i, hi⟩ : ∃ i : Nat, l = (i : Int) := ⟨l.toNat, by omega⟩
    subst hi
    have hT : Tg (2 + 6 + 3 * i) = 3 := gL7 (r := 2) (by decide +kernel) i (by omega)
    have hr := h1.2.1 i (by omega) (by omega)
    have hlen := WF_len hW (i := i) (by omega) (by omega) (by omega)
    have hmu := (hW.2.2.1 i (by omega) (by omega)).2.1
    have ec : M (2 + 6 + 3 * i + 1) 1 = ((A 0 (14 + i)).toNat : Int) := by
      rw [show 2 + 6 + 3 * i + 1 = 2 + 7 + 3 * i by omega, hr.1]; omega
    have ev : ∀ x, x < 36 * (A 0 (14 + i)).toNat → M (2 + 6 + 3 * i + 1 + 1) x = A (i + 1) x := fun x hx => by
      rw [show 2 + 6 + 3 * i + 1 + 1 = 2 + 8 + 3 * i by omega]
      exact hr.2.2.2 x (by omega) (by omega)
    have hv : ∀ x, x < 36 * (A 0 (14 + i)).toNat → 0 ≤ M (2 + 6 + 3 * i + 1 + 1) x ∧ M (2 + 6 + 3 * i + 1 + 1) x ≤ 99 := fun x hx => by
      rw [ev x hx]; exact hW.2.2.2.1 i x (by omega) (by omega)
    have el : f_139 M (14 + (i : Int)) = some (A 0 (14 + i)) := by
      have := m_139 (M := M) (A := A) (k := 14 + i) (by omega)
      rw [show ((14 + i : Nat) : Int) = 14 + (i : Int) by omega, inS_mS h3] at this
      exact this
    have em : f_139 M (20 + (i : Int)) = some (A 0 (20 + i)) := by
      have := m_139 (M := M) (A := A) (k := 20 + i) (by omega)
      rw [show ((20 + i : Nat) : Int) = 20 + (i : Int) by omega, inS_mS h3] at this
      exact this
    have ea : f_139 M (26 + (i : Int)) = some (A 0 (26 + i)) := by
      have := m_139 (M := M) (A := A) (k := 26 + i) (by omega)
      rw [show ((26 + i : Nat) : Int) = 26 + (i : Int) by omega, inS_mS h3] at this
      exact this
    have ef : ∀ z : Int, (z = 1 ∨ z = 2 ∨ z = 3) → f_194_L57 M (i : Int) z = some (acc3 z (A (i + 1)) (36 * (A 0 (14 + i)).toNat)) := fun z hz => by
      have := m_193 (M := M) (A := A) hW.2.2.2.1 (l := i) (c := (A 0 (14 + i)).toNat) (by omega) (by omega) hz
      rw [show (((A 0 (14 + i)).toNat : Nat) : Int) = A 0 (14 + i) by omega, inS_mS h3] at this
      unfold f_194_L57
      rw [el, Option.bind_some, this]; rfl
    rw [if_neg (fun x => k2.mp x q), if_pos q, if_neg (by omega), Int.toNat_natCast]
    by_cases w0 : w = 0
    · rw [if_pos w0, if_pos w0, gd_pos hT, el]
      unfold f_29
      exact ⟨_, rfl, _, rfl, by rw [ec]; omega⟩
    · rw [if_neg w0, if_neg w0]
      by_cases w1 : w = 1
      · rw [if_pos w1, if_pos w1, gd_pos hT, c_36 (by omega) ec hv, w1, ef 1 (Or.inl rfl), acc3_1]
        exact ⟨_, rfl, _, rfl, pos1_c ev⟩
      · rw [if_neg w1, if_neg w1]
        by_cases w2 : w = 2
        · rw [if_pos w2, if_pos w2, gd_pos hT, c_37 (by omega) ec, w2, ef 2 (Or.inr (Or.inl rfl)), acc3_2]
          exact ⟨_, rfl, _, rfl, sumN_c _ ev⟩
        · rw [if_neg w2, if_neg w2]
          by_cases w3 : w = 3
          · have e38 := c_38 (M := M) (low := 0) (by decide) (by omega) ec hv
            rw [show ((0 : Nat) : Int) = 0 from rfl] at e38
            rw [if_pos w3, if_pos w3, gd_pos hT, e38, w3, ef 3 (Or.inr (Or.inr rfl)), acc3_3]
            refine ⟨_, rfl, _, rfl, maxN_c _ (fun x hx => ?_)⟩
            unfold fromK
            rw [if_pos (by omega)]; exact ev x hx
          · rw [if_neg w3, if_neg w3]
            by_cases w4 : w = 4
            · rw [if_pos w4, if_pos w4, gd_pos hT, em, hr.2.1]
              rcases hmu with e | e
              · rw [e, if_pos wr0]; exact ⟨_, rfl, _, rfl, rfl⟩
              · rw [e, if_neg (by decide +kernel)]; exact ⟨_, rfl, _, rfl, rfl⟩
            · rw [if_neg w4, if_neg w4]
              by_cases w5 : w = 5
              · rw [if_pos w5, if_pos w5, gd_pos hT, ea, hr.2.2.1]; exact ⟨_, rfl, _, rfl, rfl⟩
              · rw [if_neg w5, if_neg w5]; exact ⟨_, rfl, _, rfl, rfl⟩
  · rw [if_pos (k2.mpr q), if_neg q, if_pos rfl]
    exact ⟨_, rfl, _, rfl, rfl⟩
theorem step_note (h : ALLx T M A P n o S sv pd len st stp) {l c k : Int} (hl : -2147483648 ≤ l ∧ l < 2147483648) (hc : -2147483648 ≤ c ∧ c < 2147483648) (hk : -2147483648 ≤ k ∧ k < 2147483648) : ∃ r1, f_113 M l c k = some r1 ∧ ∃ r2, f_195 M l c k = some r2 ∧ r1 = r2 := by
  obtain ⟨⟨h1, h2⟩, ⟨h3, h4⟩, h5, h6⟩ := h
  have hW := h5.1
  have h7 := hW.1.2.2.2.2.2.1
  obtain ⟨k1, k2⟩ := m_145' (M := M) h5 hl
  rw [inS_mS h3] at k1
  have e40 : f_195_L40 M l c k = some (-1) := by unfold f_195_L40 f_195_L41; rw [if_pos wr0]
  unfold f_113 f_195
  simp only [c_132w]
  rw [k1, Option.bind_some, c_58 h1 hW l, wri l hl.1 hl.2, wri c hc.1 hc.2, wri k hk.1 hk.2, e40]
  by_cases q : 0 ≤ l ∧ l < A 0 7
  · obtain ⟨i, hi⟩ : ∃ i : Nat, l = (i : Int) := ⟨l.toNat, by omega⟩
    subst hi
    have hT : Tg (2 + 6 + 3 * i) = 3 := gL7 (r := 2) (by decide +kernel) i (by omega)
    have hr := h1.2.1 i (by omega) (by omega)
    have hlen := WF_len hW (i := i) (by omega) (by omega) (by omega)
    have ec : M (2 + 6 + 3 * i + 1) 1 = A 0 (14 + i) := by rw [show 2 + 6 + 3 * i + 1 = 2 + 7 + 3 * i by omega, hr.1]
    have el : f_139 M (14 + (i : Int)) = some (A 0 (14 + i)) := by
      have := m_139 (M := M) (A := A) (k := 14 + i) (by omega)
      rw [show ((14 + i : Nat) : Int) = 14 + (i : Int) by omega, inS_mS h3] at this
      exact this
    have q1 : wr (f_138 c 0 (A 0 (14 + i) - 1)) = 0 ↔ ¬ (0 ≤ c ∧ c < A 0 (14 + i)) := by
      rw [m_138w, wri c hc.1 hc.2, wr0, wri (A 0 (14 + i) - 1) (by omega) (by omega)]; omega
    have q2 : wr (f_138 k 0 35) = 0 ↔ ¬ (0 ≤ k ∧ k < 36) := by
      rw [m_138w, wri k hk.1 hk.2, wr0, wri 35 (by decide) (by decide)]; omega
    rw [if_neg (fun x => k2.mp x q), if_pos q, if_neg (by omega), Int.toNat_natCast, el, Option.bind_some]
    unfold f_29
    rw [ec, wri (A 0 (14 + i)) (by omega) (by omega)]
    by_cases p1 : 0 ≤ c ∧ c < A 0 (14 + i)
    · by_cases p2 : 0 ≤ k ∧ k < 36
      · rw [if_neg (fun x => x p2), if_neg (by omega), gd_pos hT, if_pos p1.2, if_neg (fun x => q1.mp x p1), if_neg (fun x => q2.mp x p2)]
        obtain ⟨cc, rfl⟩ : ∃ cc : Nat, c = (cc : Int) := ⟨c.toNat, by omega⟩
        obtain ⟨kk, rfl⟩ : ∃ kk : Nat, k = (kk : Int) := ⟨k.toNat, by omega⟩
        have e1 := m_141 (M := M) (A := A) hW.2.2.2.1 (l := i) (c := cc) (k := kk) (by omega) (by omega) (by omega)
        rw [inS_mS h3] at e1
        unfold f_195_L41
        rw [if_neg (by decide +kernel), e1, c_30 (by omega) (by omega), if_pos (by omega), show 2 + 6 + 3 * i + 1 + 1 = 2 + 8 + 3 * i by omega]
        exact ⟨_, rfl, _, rfl, hr.2.2.2 _ (by omega) (by omega)⟩
      · have e : (if wr (f_138 c 0 (A 0 (14 + i) - 1)) = 0 then some (-1 : Int) else if wr (f_138 k 0 35) = 0 then some (-1) else f_195_L41 M (i : Int) c k 1) = some (-1) := by
          rw [if_neg (fun x => q1.mp x p1), if_pos (q2.mpr p2)]
        rw [e, if_pos p2]
        exact ⟨_, rfl, _, rfl, rfl⟩
    · rw [if_pos (q1.mpr p1)]
      by_cases p2 : 0 ≤ k ∧ k < 36
      · rw [if_neg (fun x => x p2)]
        by_cases p3 : c < 0
        · rw [if_pos p3]; exact ⟨_, rfl, _, rfl, rfl⟩
        · rw [if_neg p3, gd_pos hT, if_neg (by omega)]; exact ⟨_, rfl, _, rfl, rfl⟩
      · rw [if_pos p2]; exact ⟨_, rfl, _, rfl, rfl⟩
  · rw [if_pos (k2.mpr q), if_neg q, if_pos rfl]
    exact ⟨_, rfl, _, rfl, rfl⟩
theorem step_rounded (h : ALLx T M A P n o S sv pd len st stp) {c : Int} (hc : -2147483648 ≤ c ∧ c < 2147483648) : ∃ r1, f_124 M c = some r1 ∧ ∃ r2, f_214 M c = some r2 ∧ r1 = r2 := by
  obtain ⟨⟨h1, h2⟩, ⟨h3, h4⟩, h5, h6⟩ := h
  have q1 : wr (f_138 c 1 24) = 0 ↔ ¬ (1 ≤ c ∧ c ≤ 24) := by
    rw [m_138w, wri c hc.1 hc.2, wri 1 (by decide) (by decide), wri 24 (by decide) (by decide)]
  unfold f_124 f_214
  rw [wri c hc.1 hc.2]
  by_cases q : 1 ≤ c ∧ c ≤ 24
  · have e := m_153 (M := M) h5.1.1 q
    rw [inS_mS h3] at e
    rw [if_neg (by omega), if_pos q.2, c_68 h1 h5.1.1 q, if_neg (fun x => q1.mp x q), e]
    exact ⟨_, rfl, _, rfl, rfl⟩
  · rw [if_pos (q1.mpr q)]
    by_cases x : c < 1
    · rw [if_pos x]; exact ⟨_, rfl, _, rfl, rfl⟩
    · rw [if_neg x, if_neg (by omega)]; exact ⟨_, rfl, _, rfl, rfl⟩
theorem until_is {x d : Int} (hx : 0 ≤ x ∧ x < 1000000000) (hd : 1 ≤ d ∧ d ≤ 1000) : f_135 x d = if x % d = 0 then 0 else d - x % d := by
  have a := Int.emod_nonneg x (show d ≠ 0 by omega)
  have b := Int.emod_lt_of_pos x (show 0 < d by omega)
  unfold f_135
  rw [c_134 (x := x) (by omega) (by omega), c_134 (by omega) (by omega)]
  by_cases q : x % d = 0
  · rw [if_pos q, q, Int.sub_zero, Int.emod_self]
  · rw [if_neg q, Int.emod_eq_of_lt (by omega) (by omega)]
theorem c_bar (hR : RC M 2 A) : f_59 M 2 0 = A 0 3 := (c_59 (b := 2) (w := 0) (by decide)).trans hR.1.2.2.2.2.2.2.2.2.1
theorem m_3 {X : xM} : f_139 (mS X A) 3 = some (A 0 3) := m_139 (k := 3) (by decide)
theorem step_barIn (hT : T < 1000000000) (h : ALLx T M A P n o S sv pd len st stp) : ∃ r2, f_211 M = some r2 ∧ f_121 M = r2 := by
  obtain ⟨⟨h1, h2⟩, ⟨h3, h4⟩, h5, h6⟩ := h
  have hW := h5.1
  have h0 := hW.1.1
  have hb := hW.1.2.2.1
  have hp := hW.1.2.2.2.2.2.2.2.1
  have e0 : f_139 M 0 = some (A 0 0) := by rw [← inS_mS h3]; exact m_0
  have e3 : f_139 M 3 = some (A 0 3) := by rw [← inS_mS h3]; exact m_3
  have e10 : M 183 10 = A 0 10 := by rw [← inS_mS h3]; exact mS_sc (by decide)
  have e9 : M 2 9 = A 0 10 := h1.1.2.2.2.2.2.2.1
  have h61 : wr (f_61 M 2) = 0 ↔ ¬ (A 0 0 = 2 ∨ A 0 0 = 3) := by rw [c_61 h1 hW]; exact iff_of_eq wr01
  have eL : f_211_L21 M = some (if A 0 10 % (2 * A 0 3) = 0 then 0 else 2 * A 0 3 - A 0 10 % (2 * A 0 3)) := by
    have a := Int.emod_nonneg (A 0 10) (show 2 * A 0 3 ≠ 0 by omega)
    have b := Int.emod_lt_of_pos (A 0 10) (show 0 < 2 * A 0 3 by omega)
    unfold f_211_L21
    rw [e3, Option.bind_some, e10, wri (2 * A 0 3) (by omega) (by omega), wli (2 * A 0 3) (by omega) (by omega), gd_pos (by omega), wli (A 0 10) (by omega) (by omega), Int.tmod_eq_emod_of_nonneg hp.1, wri (A 0 10 % (2 * A 0 3)) (by omega) (by omega)]
    by_cases q : A 0 10 % (2 * A 0 3) = 0
    · rw [if_pos q, if_pos q]
    · rw [if_neg q, if_neg q]
  unfold f_211 f_121
  rw [e0, Option.bind_some, wri (A 0 0) (by omega) (by omega), eL, c_bar h1, e9, until_is (by omega) (by omega)]
  by_cases q : A 0 0 = 2 ∨ A 0 0 = 3
  · rw [if_neg (fun x => h61.mp x q)]
    by_cases q2 : A 0 0 = 2
    · rw [if_pos q2]; exact ⟨_, rfl, rfl⟩
    · rw [if_neg q2, Option.bind_some, wri (A 0 0) (by omega) (by omega), if_pos (by omega)]; exact ⟨_, rfl, rfl⟩
  · rw [if_pos (h61.mpr q), if_neg (by omega), Option.bind_some, wri (A 0 0) (by omega) (by omega), if_neg (by omega)]
    exact ⟨_, rfl, rfl⟩
end LO
