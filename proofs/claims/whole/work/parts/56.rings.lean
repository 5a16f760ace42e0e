/-! MEANING, 27: rings -/
section RI
variable {M A : xM} {T : Int} {P : Nat → xM} {n o : Nat} {S : xM} {sv : Int} {pd : Nat → Int} {len : Nat} {st : Nat → Int} {stp : Int}
theorem m_196 (hW : WF T A) {i cell key : Nat} (hi : (i : Int) < A 0 7 + A 0 8) (hc : cell < 100) (hk : key < 36) : f_196 (mS M A) (i : Int) (cell : Int) (key : Int) = some (aAdd A i cell key) := by
  have h7 := hW.1.2.2.2.2.2.1
  have h2 := hW.1.2.1
  have hlen := WF_len hW (i := i) (by omega) hi (WF_lay1 hW (i := i) hi)
  have hmu := (hW.2.2.1 i (by omega) hi).2.1
  have hku : ((kup A : Nat) : Int) = 12 * A 0 2 := by unfold kup; omega
  have e14 : f_139 (mS M A) (14 + (i : Int)) = some (A 0 (14 + i)) := by
    have := m_139 (M := M) (A := A) (k := 14 + i) (by omega)
    rw [show ((14 + i : Nat) : Int) = 14 + (i : Int) by omega] at this
    exact this
  have hx : wr (xlc (A 0 (20 + i)) 1) = 0 ↔ A 0 (20 + i) = 1 := by
    unfold xlc
    rw [wli (A 0 (20 + i)) (by omega) (by omega), wli 1 (by decide) (by decide)]
    rcases hmu with e | e
    · rw [e]; exact ⟨fun w => absurd w (by decide +kernel), fun w => by omega⟩
    · rw [e]; exact ⟨fun _ => rfl, fun _ => by decide +kernel⟩
  unfold f_196 aAdd
  rw [m_2, Option.bind_some, wri (20 + (i : Int)) (by omega) (by omega), gd_pos (by omega), show (20 + (i : Int)).toNat = 20 + i by omega, mS_sc (by omega)]
  by_cases q : A 0 (20 + i) = 1
  · rw [if_pos (hx.mpr q), if_neg (by omega)]
  · rw [if_neg (fun w => q (hx.mp w)), wri ((key : Int) + 12 * A 0 2) (by omega) (by omega)]
    by_cases q2 : key + kup A < 36
    · rw [if_pos (by omega), if_pos ⟨by omega, q2⟩, e14, Option.bind_some, wri (A 0 (14 + i)) (by omega) (by omega), gd_pos (by omega), wri (cell : Int) (by omega) (by omega), Int.tmod_eq_emod_of_nonneg (by omega)]
      have hm := Nat.mod_lt cell (show 0 < (A 0 (14 + i)).toNat by omega)
      have ec : (cell : Int) % A 0 (14 + i) = ((cell % (A 0 (14 + i)).toNat : Nat) : Int) := by rw [Int.natCast_emod]; congr 1; omega
      rw [ec, show (key : Int) + 12 * A 0 2 = ((key + kup A : Nat) : Int) by omega, m_141 hW.2.2.2.1 (by omega) (by omega) q2]
      rfl
    · rw [if_neg (by omega), if_neg (fun w => q2 w.2)]
theorem m_197 (hW : WF T A) {k cell key : Nat} (hk : (k : Int) ≤ A 0 7 + A 0 8) (hc : cell < 100) (hkey : key < 36) : f_197 (mS M A) (k : Int) (cell : Int) (key : Int) = some (aRing A k cell key) := by
  have h7 := hW.1.2.2.2.2.2.1
  unfold f_197 f_197_L6
  refine loop_to (fun i => (aRing A i cell key, (i : Int))) k (fun i hi => ?_) ?_ (by show k < 1000000; omega)
  · show f_197_L6b (mS M A) (k : Int) (cell : Int) (key : Int) (aRing A i cell key) (i : Int) = _
    unfold f_197_L6b
    rw [wri (k : Int) (by omega) (by omega), wri (i : Int) (by omega) (by omega), if_neg (by omega), m_196 hW (by omega) hc hkey]
    rfl
  · show f_197_L6b (mS M A) (k : Int) (cell : Int) (key : Int) _ (k : Int) = _
    unfold f_197_L6b
    rw [if_pos (Int.le_refl _)]
theorem m_198 (hW : WF T A) {k cell : Nat} (hk : (k : Int) ≤ A 0 7 + A 0 8) (hc : cell < 100) : f_198 (mS M A) (k : Int) (cell : Int) = some (aSum A k cell) := by
  unfold f_198 f_198_L5
  refine loop_to (fun i => (sumN i (fun key => aRing A k cell key), (i : Int))) 36 (fun i hi => ?_) ?_ (by show 36 < 1000000; omega)
  · show f_198_L5b (mS M A) (k : Int) (cell : Int) (sumN i (fun key => aRing A k cell key)) (i : Int) = _
    unfold f_198_L5b
    rw [wri (i : Int) (by omega) (by omega), if_neg (by omega), m_197 hW hk hc hi]
    rfl
  · show f_198_L5b (mS M A) (k : Int) (cell : Int) _ ((36 : Nat) : Int) = _
    unfold f_198_L5b
    rw [wri _ (by omega) (by omega), if_pos (by omega)]
    rfl
theorem m_199 (hX : WX T A) {c : Int} (hc : -2147483648 ≤ c ∧ c < 2147483648) : f_199 (mS M A) c = some (f_138 c 0 (aLen A (A 0 7).toNat - 1)) ∧ (wr (f_138 c 0 (aLen A (A 0 7).toNat - 1)) = 0 ↔ ¬ (0 ≤ c ∧ c < aLen A (A 0 7).toNat)) := by
  have h7 := hX.1.1.2.2.2.2.2.1
  have hl := aLen_b hX.1 (n := (A 0 7).toNat) (by omega)
  constructor
  · unfold f_199
    rw [m_147 hX.1, Option.bind_some, gd_pos (m_138o _ _ _)]
  · rw [m_138w, wri c hc.1 hc.2, wr0, wri (aLen A (A 0 7).toNat - 1) (by omega) (by omega)]; omega
/-- found: the highest (2), the lowest (3), the first of the greatest -/
def fnd (w : Int) (R : Nat → Int) : Nat → Int
  | 0 => -4
  | k + 1 => if (if w = 2 then 0 < R k else if w = 3 then 0 < R k ∧ fnd w R k < 0 else maxN k R < R k) then (k : Int) else fnd w R k
theorem fnd_2 {R : Nat → Int} {k : Nat} : fnd 2 R (k + 1) = if 0 < R k then (k : Int) else fnd 2 R k := by
  show (if (if (2 : Int) = 2 then 0 < R k else if (2 : Int) = 3 then 0 < R k ∧ fnd 2 R k < 0 else maxN k R < R k) then (k : Int) else fnd 2 R k) = _
  simp
theorem fnd_3 {R : Nat → Int} {k : Nat} : fnd 3 R (k + 1) = if 0 < R k ∧ fnd 3 R k < 0 then (k : Int) else fnd 3 R k := by
  show (if (if (3 : Int) = 2 then 0 < R k else if (3 : Int) = 3 then 0 < R k ∧ fnd 3 R k < 0 else maxN k R < R k) then (k : Int) else fnd 3 R k) = _
  simp
theorem fnd_4 {R : Nat → Int} {w : Int} {k : Nat} (h2 : w ≠ 2) (h3 : w ≠ 3) : fnd w R (k + 1) = if maxN k R < R k then (k : Int) else fnd w R k := by
  show (if (if w = 2 then 0 < R k else if w = 3 then 0 < R k ∧ fnd w R k < 0 else maxN k R < R k) then (k : Int) else fnd w R k) = _
  simp [h2, h3]
theorem fnd_b {R : Nat → Int} {w : Int} : ∀ k, -4 ≤ fnd w R k ∧ fnd w R k ≤ k
  | 0 => by show -4 ≤ (-4 : Int) ∧ (-4 : Int) ≤ (0 : Nat); decide
  | k + 1 => by
    have ih := fnd_b (R := R) (w := w) k
    unfold fnd
    split <;> omega
theorem fnd_c {R Q : Nat → Int} {w : Int} : ∀ k, (∀ i, i < k → R i = Q i) → fnd w R k = fnd w Q k
  | 0, _ => rfl
  | k + 1, h => by
    have ih := fnd_c (w := w) k (fun i hi => h i (by omega))
    unfold fnd
    rw [ih, h k (by omega), maxN_c k (fun i hi => h i (by omega))]
/-- the class's reads of its row of rings -/
theorem c_4 {R : Nat → Int} (hR : ∀ k, k < 36 → M 178 k = R k) : f_4 M = some (sumN 36 R) := by
  unfold f_4 f_4_L13
  refine loop_to (fun i => (sumN i R, (i : Int))) 36 (fun i hi => ?_) ?_ (by show 36 < 1000000; omega)
  · show f_4_L13b M 36 (sumN i R) (i : Int) = _
    unfold f_4_L13b
    rw [wri 36 (by decide) (by decide), wri (i : Int) (by omega) (by omega), if_neg (by omega), gd_pos (by omega), Int.toNat_natCast, hR i hi]
    rfl
  · show f_4_L13b M 36 _ ((36 : Nat) : Int) = _
    unfold f_4_L13b
    rw [wri 36 (by decide) (by decide), wri _ (by omega) (by omega), if_pos (by omega)]
theorem c_3 {R : Nat → Int} (hR : ∀ k, k < 36 → M 178 k = R k) (hb : ∀ k, k < 36 → 0 ≤ R k ∧ R k ≤ 100000) : f_3 M = some (sumN 36 (pos1 R)) := by
  unfold f_3 f_3_L13
  refine loop_to (fun i => (sumN i (pos1 R), (i : Int))) 36 (fun i hi => ?_) ?_ (by show 36 < 1000000; omega)
  · show f_3_L13b M 36 (sumN i (pos1 R)) (i : Int) = some (Sum.inl (sumN i (pos1 R) + (if 0 < R i then 1 else 0), ((i + 1 : Nat) : Int)))
    have h1 := hb i hi
    unfold f_3_L13b
    rw [wri 36 (by decide) (by decide), wri (i : Int) (by omega) (by omega), if_neg (by omega), gd_pos (by omega), Int.toNat_natCast, hR i hi, wri (R i) (by omega) (by omega)]
    by_cases q : R i ≤ 0
    · rw [if_pos q, if_neg (by omega), Int.add_zero]; rfl
    · rw [if_neg q, if_pos (by omega)]; rfl
  · show f_3_L13b M 36 _ ((36 : Nat) : Int) = _
    unfold f_3_L13b
    rw [wri 36 (by decide) (by decide), wri _ (by omega) (by omega), if_pos (by omega)]
theorem c_5 {R : Nat → Int} (hR : ∀ k, k < 36 → M 178 k = R k) (hb : ∀ k, k < 36 → 0 ≤ R k ∧ R k ≤ 100000) : f_5 M = some (fnd 2 R 36) := by
  have key : ∀ (k : Nat), k ≤ 36 → ∀ f, k < f → loop f (fun s => f_5_L8b M s) ((k : Int) - 1) = some (fnd 2 R k) := by
    intro k
    induction k with
    | zero =>
      intro _ f hf
      cases f with
      | zero => omega
      | succ f =>
        show (f_5_L8b M (((0 : Nat) : Int) - 1)).bind _ = _
        unfold f_5_L8b
        rw [wri _ (by omega) (by omega), if_pos (by omega)]
        rfl
    | succ k ih =>
      intro hk f hf
      cases f with
      | zero => omega
      | succ f =>
        have h1 := hb k (by omega)
        show (f_5_L8b M (((k + 1 : Nat) : Int) - 1)).bind _ = _
        rw [show ((k + 1 : Nat) : Int) - 1 = (k : Int) by omega]
        have e2 : f_2 M (k : Int) = R k := by
          unfold f_2
          rw [wri (k : Int) (by omega) (by omega), if_neg (by omega), if_neg (by omega), Int.toNat_natCast, hR k (by omega)]
        unfold f_5_L8b
        rw [e2, wri (k : Int) (by omega) (by omega), if_neg (by omega), wri (R k) (by omega) (by omega), fnd_2]
        by_cases q : R k ≤ 0
        · rw [if_pos q, if_neg (by omega)]
          exact ih (by omega) f (by omega)
        · rw [if_neg q, if_pos (by omega)]; rfl
  unfold f_5 f_5_L8
  exact key 36 (by decide) NF (by show 36 < 1000000; omega)
theorem fnd3_none {R : Nat → Int} : ∀ k, (∀ i, i < k → ¬ 0 < R i) → fnd 3 R k = -4
  | 0, _ => rfl
  | k + 1, h => by rw [fnd_3, if_neg (fun w => h k (by omega) w.1)]; exact fnd3_none k (fun i hi => h i (by omega))
theorem fnd3_some {R : Nat → Int} {j : Nat} (hj : 0 < R j) (h : ∀ i, i < j → ¬ 0 < R i) : ∀ m, fnd 3 R (j + 1 + m) = (j : Int)
  | 0 => by show fnd 3 R (j + 1) = _; rw [fnd_3, if_pos ⟨hj, by rw [fnd3_none j h]; decide⟩]
  | m + 1 => by
    show fnd 3 R ((j + 1 + m) + 1) = _
    rw [fnd_3, fnd3_some hj h m, if_neg (by omega)]
theorem c_6 {R : Nat → Int} (hR : ∀ k, k < 36 → M 178 k = R k) (hb : ∀ k, k < 36 → 0 ≤ R k ∧ R k ≤ 100000) : f_6 M = some (fnd 3 R 36) := by
  have body : ∀ i : Nat, i < 36 → f_6_L2b M (i : Int) = if R i ≤ 0 then some (Sum.inl ((i : Int) + 1)) else some (Sum.inr (i : Int)) := fun i hi => by
    have h1 := hb i hi
    unfold f_6_L2b
    rw [wri (i : Int) (by omega) (by omega), if_neg (by omega), gd_pos (by omega), Int.toNat_natCast, hR i hi, wri (R i) (by omega) (by omega)]
  unfold f_6 f_6_L2
  by_cases q : ∃ j, j < 36 ∧ 0 < R j
  · obtain ⟨j0, hj0, hp⟩ := q
    obtain ⟨j, a, b, c⟩ := least (p := fun j => 0 < R j) j0 hp
    have e := fnd3_some b c (35 - j)
    rw [show j + 1 + (35 - j) = 36 by omega] at e
    rw [e]
    refine loop_to (fun i => (i : Int)) j (fun i hi => ?_) ?_ (by show j < 1000000; omega)
    · show f_6_L2b M (i : Int) = some (Sum.inl ((i + 1 : Nat) : Int))
      rw [body i (by omega), if_pos (by have := c i hi; omega)]; rfl
    · show f_6_L2b M (j : Int) = _
      rw [body j (by omega), if_neg (by omega)]
  · rw [fnd3_none 36 (fun i hi w => q ⟨i, hi, w⟩)]
    refine loop_to (fun i => (i : Int)) 36 (fun i hi => ?_) ?_ (by show 36 < 1000000; omega)
    · show f_6_L2b M (i : Int) = some (Sum.inl ((i + 1 : Nat) : Int))
      rw [body i hi, if_pos (by
        rcases Int.lt_or_le 0 (R i) with w | w
        · exact absurd ⟨i, hi, w⟩ q
        · exact w)]; rfl
    · show f_6_L2b M ((36 : Nat) : Int) = _
      unfold f_6_L2b
      rw [wri _ (by omega) (by omega), if_pos (by omega)]
theorem c_7 {R : Nat → Int} (hR : ∀ k, k < 36 → M 178 k = R k) (hb : ∀ k, k < 36 → 0 ≤ R k ∧ R k ≤ 100000) : f_7 M = some (fnd 4 R 36) := by
  unfold f_7 f_7_L7
  refine loop_to (fun i => (fnd 4 R i, maxN i R, (i : Int))) 36 (fun i hi => ?_) ?_ (by show 36 < 1000000; omega)
  · show f_7_L7b M (fnd 4 R i) (maxN i R) (i : Int) = some (Sum.inl (fnd 4 R (i + 1), (if maxN i R < R i then R i else maxN i R), ((i + 1 : Nat) : Int)))
    have h1 := hb i hi
    have h2 := maxN_b (f := R) (hi := 100000) (by decide) i (fun j hj => (hb j (by omega)).2)
    unfold f_7_L7b
    rw [wri (i : Int) (by omega) (by omega), if_neg (by omega), gd_pos (by omega), Int.toNat_natCast, hR i hi, wri (R i) (by omega) (by omega), wri (maxN i R) (by omega) (by omega), fnd_4 (by decide) (by decide)]
    by_cases q : R i ≤ maxN i R
    · rw [if_pos q, if_neg (by omega), if_neg (by omega)]; rfl
    · rw [if_neg q, gd_pos (by omega), if_pos (by omega), if_pos (by omega)]; rfl
  · show f_7_L7b M _ _ ((36 : Nat) : Int) = _
    unfold f_7_L7b
    rw [wri _ (by omega) (by omega), if_pos (by omega)]
theorem m_201 (hX : WX T A) {cell : Nat} (hc : cell < 100) {w : Int} (hw : -2147483648 ≤ w ∧ w < 2147483648) : f_201 (mS M A) (cell : Int) w = some (if w = 0 then sumN 36 (pos1 (aRing A (A 0 7).toNat cell)) else fnd w (aRing A (A 0 7).toNat cell) 36) := by
  have hW := hX.1
  have h7 := hW.1.2.2.2.2.2.1
  obtain ⟨R, hR⟩ : ∃ R, R = aRing A (A 0 7).toNat cell := ⟨_, rfl⟩
  have hb : ∀ k, 0 ≤ R k ∧ R k ≤ 594 := fun k => by rw [hR]; exact aRing_b hW (by omega)
  rw [← hR]
  unfold f_201 f_201_L12
  refine loop_to (fun i => (sumN i (pos1 R), fnd w R i, maxN i R, (i : Int))) 36 (fun i hi => ?_) ?_ (by show 36 < 1000000; omega)
  · obtain ⟨mx, hmx⟩ : ∃ mx, mx = (if maxN i R < R i then R i else maxN i R) := ⟨_, rfl⟩
    show f_201_L12b (mS M A) (cell : Int) w (sumN i (pos1 R)) (fnd w R i) (maxN i R) (i : Int) = some (Sum.inl (sumN i (pos1 R) + (if 0 < R i then 1 else 0), fnd w R (i + 1), (if maxN i R < R i then R i else maxN i R), ((i + 1 : Nat) : Int)))
    have h1 := hb i
    have h2 := maxN_b (f := R) (hi := 594) (by decide) i (fun j hj => (hb j).2)
    have h3 := fnd_b (R := R) (w := w) i
    have e1 := m_197 (M := M) hW (k := (A 0 7).toNat) (cell := cell) (key := i) (by omega) hc hi
    rw [show (((A 0 7).toNat : Nat) : Int) = A 0 7 by omega, ← hR] at e1
    have n1 : ¬ wr 1 = 0 := by decide +kernel
    have L114 : ∀ c3 z : Int, f_201_L114 (mS M A) (cell : Int) w c3 (maxN i R) (i : Int) (R i) z = some (Sum.inl (c3, z, mx, ((i + 1 : Nat) : Int))) := by
      intro c3 z
      unfold f_201_L114
      rw [wri (R i) (by omega) (by omega), wri (maxN i R) (by omega) (by omega), hmx]
      by_cases q : R i ≤ maxN i R
      · rw [if_pos q, if_neg (by omega)]; rfl
      · rw [if_neg q, if_pos (by omega)]; rfl
    have La : ∀ c3 : Int, f_201_L100 (mS M A) (cell : Int) w c3 (fnd w R i) (maxN i R) (i : Int) (R i) 0 = some (Sum.inl (c3, fnd w R i, mx, ((i + 1 : Nat) : Int))) := by
      intro c3
      unfold f_201_L100
      rw [if_pos wr0, L114]
    have Lb : ∀ c3 : Int, f_201_L100 (mS M A) (cell : Int) w c3 (fnd w R i) (maxN i R) (i : Int) (R i) 1 = some (Sum.inl (c3, (i : Int), mx, ((i + 1 : Nat) : Int))) := by
      intro c3
      unfold f_201_L100
      rw [if_neg n1, L114]
    have L45 : ∀ s1 : Int, f_201_L45 (mS M A) (cell : Int) w (fnd w R i) (maxN i R) (i : Int) (R i) (sumN i (pos1 R)) s1 = some (Sum.inl (sumN i (pos1 R) + s1, fnd w R (i + 1), mx, ((i + 1 : Nat) : Int))) := by
      intro s1
      unfold f_201_L45 f_201_L84
      rw [wri w hw.1 hw.2, wri (R i) (by omega) (by omega), wri (fnd w R i) (by omega) (by omega), wri (maxN i R) (by omega) (by omega)]
      simp only [La, Lb]
      clear La Lb L114
      by_cases w2 : w = 2
      · subst w2
        rw [if_pos rfl, fnd_2]
        by_cases q : R i ≤ 0
        · rw [if_pos q, if_neg (show ¬ 0 < R i by omega)]
        · rw [if_neg q, if_pos (show 0 < R i by omega)]
      · rw [if_neg w2]
        by_cases w3 : w = 3
        · subst w3
          rw [if_pos rfl, fnd_3]
          by_cases q : R i ≤ 0
          · rw [if_pos q, if_neg (show ¬ (0 < R i ∧ fnd 3 R i < 0) by omega)]
          · rw [if_neg q]
            by_cases q2 : 0 ≤ fnd 3 R i
            · rw [if_pos q2, if_neg (show ¬ (0 < R i ∧ fnd 3 R i < 0) by omega)]
            · rw [if_neg q2, if_pos (show 0 < R i ∧ fnd 3 R i < 0 by omega)]
        · rw [if_neg w3, fnd_4 w2 w3]
          by_cases q : R i ≤ maxN i R
          · rw [if_pos q, if_neg (show ¬ maxN i R < R i by omega)]
          · rw [if_neg q, if_pos (show maxN i R < R i by omega)]
    rw [← hmx]
    unfold f_201_L12b
    rw [wri (i : Int) (by omega) (by omega), if_neg (by omega), m_7, Option.bind_some, e1, Option.bind_some, L45, L45, wri (R i) (by omega) (by omega)]
    by_cases q : R i ≤ 0
    · rw [if_pos q, if_neg (show ¬ 0 < R i by omega)]
    · rw [if_neg q, if_pos (show 0 < R i by omega)]
  · show f_201_L12b (mS M A) (cell : Int) w _ _ _ ((36 : Nat) : Int) = _
    unfold f_201_L12b
    rw [wri _ (by omega) (by omega), if_pos (by omega), wri w hw.1 hw.2]
    by_cases q : w = 0
    · rw [if_pos q, if_pos q]
    · rw [if_neg q, if_neg q]
theorem c_64 (hR : RC M 2 A) (hX : WX T A) {c : Int} (hc : -2147483648 ≤ c ∧ c < 2147483648) : f_64 M 2 c = some (if 0 ≤ c ∧ c < aLen A (A 0 7).toNat then 1 else 0) := by
  have h7 := hX.1.1.2.2.2.2.2.1
  have hl := aLen_b hX.1 (n := (A 0 7).toNat) (by omega)
  unfold f_64
  rw [wri c hc.1 hc.2]
  by_cases q : c < 0
  · rw [if_pos q, if_neg (by omega)]
  · rw [if_neg q, c_62' (by decide +kernel) hR hX.1, Option.bind_some, wri _ (by omega) (by omega)]
    by_cases q2 : aLen A (A 0 7).toNat ≤ c
    · rw [if_pos q2, if_neg (by omega)]
    · rw [if_neg q2, if_pos (by omega)]
theorem c_1' (hR : RC M 2 A) (hX : WX T A) {cell : Nat} (hc : cell < 48) : f_1 M 2 (M 2 5) (cell : Int) = some (rowU M 178 36 (aRing A (A 0 7).toNat cell)) := by
  have h7 := hX.1.1.2.2.2.2.2.1
  have e5 : M 2 5 = A 0 7 := hR.1.2.2.1
  have := c_1 (b := 2) (by decide +kernel) hR hX.1 (A 0 7).toNat cell (by omega) hc
  rw [show (((A 0 7).toNat : Nat) : Int) = A 0 7 by omega] at this
  rw [e5, this]
theorem ALLx_ring (h : ALLx T M A P n o S sv pd len st stp) (f : Nat → Int) : ALLx T (rowU M 178 36 f) A P n o S sv pd len st stp :=
  ALLx_frame (fun r a b => rowU_ne (by omega)) h
theorem ALL_of (h : ALLx T M A P n o S sv pd len st stp) : ALL (T + 6100) M := ALL_mono (ALLx_ALL h) (by omega)
theorem step_ring (h : ALLx T M A P n o S sv pd len st stp) {c k : Int} (hc : -2147483648 ≤ c ∧ c < 2147483648) (hk : -2147483648 ≤ k ∧ k < 2147483648) : ∃ r1, f_114 M c k = some r1 ∧ ∃ r2, f_200 r1.2 c k = some r2 ∧ r1.1 = r2 ∧ ALL (T + 6100) r1.2 := by
  have h7 := h.2.2.1.1.1.2.2.2.2.2.1
  have hl := aLen_b h.2.2.1.1 (n := (A 0 7).toNat) (by omega)
  have em : ∀ X, ALLx T X A P n o S sv pd len st stp → f_200 X c k = if (0 ≤ c ∧ c < aLen A (A 0 7).toNat) ∧ (0 ≤ k ∧ k < 36) then some (aRing A (A 0 7).toNat c.toNat k.toNat) else some (-1) := by
    intro X hX
    obtain ⟨k1, k2⟩ := m_199 (M := X) hX.2.2.1 hc
    rw [inS_mS hX.2.1.1] at k1
    have q2 : wr (f_138 k 0 35) = 0 ↔ ¬ (0 ≤ k ∧ k < 36) := by
      rw [m_138w, wri k hk.1 hk.2, wr0, wri 35 (by decide) (by decide)]; omega
    unfold f_200
    rw [k1, Option.bind_some]
    by_cases p1 : 0 ≤ c ∧ c < aLen A (A 0 7).toNat
    · rw [if_neg (fun x => k2.mp x p1)]
      by_cases p2 : 0 ≤ k ∧ k < 36
      · have e1 := m_197 (M := X) hX.2.2.1.1 (k := (A 0 7).toNat) (cell := c.toNat) (key := k.toNat) (by omega) (by omega) (by omega)
        rw [show (((A 0 7).toNat : Nat) : Int) = A 0 7 by omega, show ((c.toNat : Nat) : Int) = c by omega, show ((k.toNat : Nat) : Int) = k by omega, inS_mS hX.2.1.1] at e1
        have e7 : f_139 X 7 = some (A 0 7) := by rw [← inS_mS hX.2.1.1]; exact m_7
        rw [if_neg (fun x => q2.mp x p2), e7, Option.bind_some, e1, if_pos ⟨p1, p2⟩]; rfl
      · rw [if_pos (q2.mpr p2), if_neg (fun x => p2 x.2)]
    · rw [if_pos (k2.mpr p1), if_neg (fun x => p1 x.1)]
  unfold f_114
  simp only [c_132w]
  rw [c_64 h.1.1 h.2.2.1 hc, Option.bind_some, wri k hk.1 hk.2]
  have hq : wr (if 0 ≤ c ∧ c < aLen A (A 0 7).toNat then 1 else 0) = 0 ↔ ¬ (0 ≤ c ∧ c < aLen A (A 0 7).toNat) := iff_of_eq wr01
  by_cases p1 : 0 ≤ c ∧ c < aLen A (A 0 7).toNat
  · rw [if_neg (fun x => hq.mp x p1)]
    by_cases p2 : 0 ≤ k ∧ k < 36
    · obtain ⟨cc, rfl⟩ : ∃ cc : Nat, c = (cc : Int) := ⟨c.toNat, by omega⟩
      rw [if_neg (fun x => x p2), c_1' h.1.1 h.2.2.1 (by omega), Option.bind_some]
      refine ⟨_, rfl, _, ?_, rfl, ALL_of (ALLx_ring h _)⟩
      show f_200 (rowU M 178 36 (aRing A (A 0 7).toNat cc)) (cc : Int) k = some (f_2 (rowU M 178 36 (aRing A (A 0 7).toNat cc)) k)
      rw [em _ (ALLx_ring h _), if_pos ⟨p1, p2⟩]
      unfold f_2
      rw [wri k hk.1 hk.2, if_neg (by omega), if_neg (by omega), rowU_at (by omega), Int.toNat_natCast]
    · rw [if_pos p2]
      exact ⟨_, rfl, _, (em M h).trans (if_neg (fun x => p2 x.2)), rfl, ALL_of h⟩
  · rw [if_pos (hq.mpr p1)]
    exact ⟨_, rfl, _, (em M h).trans (if_neg (fun x => p1 x.1)), rfl, ALL_of h⟩
theorem step_heard (h : ALLx T M A P n o S sv pd len st stp) {c w : Int} (hc : -2147483648 ≤ c ∧ c < 2147483648) (hw : -2147483648 ≤ w ∧ w < 2147483648) : ∃ r1, f_115 M c w = some r1 ∧ ∃ r2, f_202 r1.2 c w = some r2 ∧ r1.1 = r2 ∧ ALL (T + 6100) r1.2 := by
  have h7 := h.2.2.1.1.1.2.2.2.2.2.1
  have hl := aLen_b h.2.2.1.1 (n := (A 0 7).toNat) (by omega)
  have em : ∀ X, ALLx T X A P n o S sv pd len st stp → f_202 X c w = if (0 ≤ c ∧ c < aLen A (A 0 7).toNat) ∧ (0 ≤ w ∧ w ≤ 4) then some (if w = 1 then aSum A (A 0 7).toNat c.toNat else if w = 0 then sumN 36 (pos1 (aRing A (A 0 7).toNat c.toNat)) else fnd w (aRing A (A 0 7).toNat c.toNat) 36) else some (-1) := by
    intro X hX
    obtain ⟨k1, k2⟩ := m_199 (M := X) hX.2.2.1 hc
    rw [inS_mS hX.2.1.1] at k1
    have q2 : wr (f_138 w 0 4) = 0 ↔ ¬ (0 ≤ w ∧ w ≤ 4) := by
      rw [m_138w, wri w hw.1 hw.2, wr0, wri 4 (by decide) (by decide)]
    unfold f_202
    rw [k1, Option.bind_some, wri w hw.1 hw.2]
    by_cases p1 : 0 ≤ c ∧ c < aLen A (A 0 7).toNat
    · rw [if_neg (fun x => k2.mp x p1)]
      by_cases p2 : 0 ≤ w ∧ w ≤ 4
      · have e1 := m_198 (M := X) hX.2.2.1.1 (k := (A 0 7).toNat) (cell := c.toNat) (by omega) (by omega)
        rw [show (((A 0 7).toNat : Nat) : Int) = A 0 7 by omega, show ((c.toNat : Nat) : Int) = c by omega, inS_mS hX.2.1.1] at e1
        have e2 := m_201 (M := X) hX.2.2.1 (cell := c.toNat) (by omega) hw
        rw [show ((c.toNat : Nat) : Int) = c by omega, inS_mS hX.2.1.1] at e2
        have e7 : f_139 X 7 = some (A 0 7) := by rw [← inS_mS hX.2.1.1]; exact m_7
        rw [if_neg (fun x => q2.mp x p2), e7, Option.bind_some, e1, e2, if_pos (show (0 ≤ c ∧ c < aLen A (A 0 7).toNat) ∧ (0 ≤ w ∧ w ≤ 4) from ⟨p1, p2⟩)]
        by_cases w1 : w = 1
        · rw [if_pos w1, if_pos w1]; rfl
        · rw [if_neg w1, if_neg w1]; rfl
      · rw [if_pos (q2.mpr p2), if_neg (fun x => p2 x.2)]
    · rw [if_pos (k2.mpr p1), if_neg (fun x => p1 x.1)]
  unfold f_115
  rw [c_64 h.1.1 h.2.2.1 hc, Option.bind_some, wri w hw.1 hw.2]
  have hq : wr (if 0 ≤ c ∧ c < aLen A (A 0 7).toNat then 1 else 0) = 0 ↔ ¬ (0 ≤ c ∧ c < aLen A (A 0 7).toNat) := iff_of_eq wr01
  by_cases p1 : 0 ≤ c ∧ c < aLen A (A 0 7).toNat
  · rw [if_neg (fun x => hq.mp x p1)]
    obtain ⟨cc, rfl⟩ : ∃ cc : Nat, c = (cc : Int) := ⟨c.toNat, by omega⟩
    have hn := ALLx_ring h (aRing A (A 0 7).toNat cc)
    obtain ⟨X, hXd⟩ : ∃ X, X = rowU M 178 36 (aRing A (A 0 7).toNat cc) := ⟨_, rfl⟩
    have hRr : ∀ k, k < 36 → X 178 k = aRing A (A 0 7).toNat cc k := fun k hk => by rw [hXd]; exact rowU_at hk
    have hRb : ∀ k, k < 36 → 0 ≤ aRing A (A 0 7).toNat cc k ∧ aRing A (A 0 7).toNat cc k ≤ 100000 := fun k hk => by
      have := aRing_b h.2.2.1.1 (n := (A 0 7).toNat) (cell := cc) (key := k) (by omega); omega
    rw [← hXd] at hn
    have e := em X hn
    rw [Int.toNat_natCast] at e
    rw [c_1' h.1.1 h.2.2.1 (by omega), Option.bind_some, ← hXd]
    by_cases w0 : w = 0
    · rw [if_pos ⟨p1, by omega⟩, if_neg (by omega), if_pos w0] at e
      rw [if_pos w0, c_3 hRr hRb]
      exact ⟨_, rfl, _, e, rfl, ALL_of hn⟩
    rw [if_neg w0]
    by_cases w1 : w = 1
    · rw [if_pos ⟨p1, by omega⟩, if_pos w1] at e
      rw [if_pos w1, c_4 hRr]
      exact ⟨_, rfl, _, e, rfl, ALL_of hn⟩
    rw [if_neg w1]
    by_cases w2 : w = 2
    · rw [if_pos ⟨p1, by omega⟩, if_neg w1, if_neg w0, w2] at e
      rw [if_pos w2, c_5 hRr hRb, w2]
      exact ⟨_, rfl, _, e, rfl, ALL_of hn⟩
    rw [if_neg w2]
    by_cases w3 : w = 3
    · rw [if_pos ⟨p1, by omega⟩, if_neg w1, if_neg w0, w3] at e
      rw [if_pos w3, c_6 hRr hRb, w3]
      exact ⟨_, rfl, _, e, rfl, ALL_of hn⟩
    rw [if_neg w3]
    by_cases w4 : w = 4
    · rw [if_pos ⟨p1, by omega⟩, if_neg w1, if_neg w0, w4] at e
      rw [if_pos w4, c_7 hRr hRb, w4]
      exact ⟨_, rfl, _, e, rfl, ALL_of hn⟩
    rw [if_neg w4]
    rw [if_neg (by omega)] at e
    exact ⟨_, rfl, _, e, rfl, ALL_of hn⟩
  · rw [if_pos (hq.mpr p1)]
    exact ⟨_, rfl, _, (em M h).trans (if_neg (fun x => p1 x.1)), rfl, ALL_of h⟩
end RI
