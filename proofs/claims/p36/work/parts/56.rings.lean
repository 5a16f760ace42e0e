/-! MEANING, 27: rings -/
section RI
variable {M A : xM} {T : Int} {P : Nat → xM} {n o : Nat} {S : xM} {sv : Int} {pd : Nat → Int} {len : Nat} {st : Nat → Int} {stp : Int}
/-- found: the highest (2), the lowest (3), the first of the greatest -/
def fnd (w : Int) (R : Nat → Int) : Nat → Int
  | 0 => -4
  | k + 1 => if (if w = 2 then 0 < R k else if w = 3 then 0 < R k ∧ fnd w R k < 0 else maxN k R < R k) then (k : Int) else fnd w R k
theorem fnd_2 {R : Nat → Int} {k : Nat} : fnd 2 R (k + 1) = if 0 < R k then (k : Int) else fnd 2 R k := by
  show (if (if (2 : Int) = 2 then 0 < R k else if (2 : Int) = 3 then 0 < R k ∧ fnd 2 R k < 0 else maxN k R < R k) then (k : Int) else fnd 2 R k) = _
  simp
theorem fnd_3 {R : Nat → Int} {k : Nat} : fnd 3 R (k + 1) = if 0 < R k ∧ fnd 3 R k < 0 then (k : Int) else fnd 3 R k := by
  show (if (if (3 : Int) = 2 then 0 < R k else if (3 : Int) = 3 then 0 < R k ∧ fnd 3 R k < 0 else maxN k R < R k) then (k : Int) else fnd 3 R k) = _
  simp
theorem fnd_4 {R : Nat → Int} {w : Int} {k : Nat} (h2 : w ≠ 2) (h3 : w ≠ 3) : fnd w R (k + 1) = if maxN k R < R k then (k : Int) else fnd w R k := by
  show (if (if w = 2 then 0 < R k else if w = 3 then 0 < R k ∧ fnd w R k < 0 else maxN k R < R k) then (k : Int) else fnd w R k) = _
  simp [h2, h3]
theorem fnd_b {R : Nat → Int} {w : Int} : ∀ k, -4 ≤ fnd w R k ∧ fnd w R k ≤ k
  | 0 => by show -4 ≤ (-4 : Int) ∧ (-4 : Int) ≤ (0 : Nat); decide
  | k + 1 => by
    have ih := fnd_b (R := R) (w := w) k
    unfold fnd
    split <;> omega
theorem fnd_c {R Q : Nat → Int} {w : Int} : ∀ k, (∀ i, i < k → R i = Q i) → fnd w R k = fnd w Q k
  | 0, _ => rfl
  | k + 1, h => by
    have ih := fnd_c (w := w) k (fun i hi => h i (by omega))
    unfold fnd
    rw [ih, h k (by omega), maxN_c k (fun i hi => h i (by omega))]
/-- the class's reads of its row of rings -/
theorem c_4 {R : Nat → Int} (hR : ∀ k, k < 36 → M 178 k = R k) : f_4 M = some (sumN 36 R) := by
  unfold f_4 f_4_L13
  refine loop_to (fun i => (sumN i R, (i : Int))) 36 (fun i hi => ?_) ?_ (by show 36 < 1000000; omega)
  · show f_4_L13b M 36 (sumN i R) (i : Int) = _
    unfold f_4_L13b
    rw [wri 36 (by decide) (by decide), wri (i : Int) (by omega) (by omega), if_neg (by omega), gd_pos (by omega), Int.toNat_natCast, hR i hi]
    rfl
  · show f_4_L13b M 36 _ ((36 : Nat) : Int) = _
    unfold f_4_L13b
    rw [wri 36 (by decide) (by decide), wri _ (by omega) (by omega), if_pos (by omega)]
theorem c_3 {R : Nat → Int} (hR : ∀ k, k < 36 → M 178 k = R k) (hb : ∀ k, k < 36 → 0 ≤ R k ∧ R k ≤ 100000) : f_3 M = some (sumN 36 (pos1 R)) := by
  unfold f_3 f_3_L13
  refine loop_to (fun i => (sumN i (pos1 R), (i : Int))) 36 (fun i hi => ?_) ?_ (by show 36 < 1000000; omega)
  · show f_3_L13b M 36 (sumN i (pos1 R)) (i : Int) = some (Sum.inl (sumN i (pos1 R) + (if 0 < R i then 1 else 0), ((i + 1 : Nat) : Int)))
    have h1 := hb i hi
    unfold f_3_L13b
    rw [wri 36 (by decide) (by decide), wri (i : Int) (by omega) (by omega), if_neg (by omega), gd_pos (by omega), Int.toNat_natCast, hR i hi, wri (R i) (by omega) (by omega)]
    by_cases q : R i ≤ 0
    · rw [if_pos q, if_neg (by omega), Int.add_zero]; rfl
    · rw [if_neg q, if_pos (by omega)]; rfl
  · show f_3_L13b M 36 _ ((36 : Nat) : Int) = _
    unfold f_3_L13b
    rw [wri 36 (by decide) (by decide), wri _ (by omega) (by omega), if_pos (by omega)]
theorem c_5 {R : Nat → Int} (hR : ∀ k, k < 36 → M 178 k = R k) (hb : ∀ k, k < 36 → 0 ≤ R k ∧ R k ≤ 100000) : f_5 M = some (fnd 2 R 36) := by
  have key : ∀ (k : Nat), k ≤ 36 → ∀ f, k < f → loop f (fun s => f_5_L8b M s) ((k : Int) - 1) = some (fnd 2 R k) := by
    intro k
    induction k with
    | zero =>
      intro _ f hf
      cases f with
      | zero => omega
      | succ f =>
        show (f_5_L8b M (((0 : Nat) : Int) - 1)).bind _ = _
        unfold f_5_L8b
        rw [wri _ (by omega) (by omega), if_pos (by omega)]
        rfl
    | succ k ih =>
      intro hk f hf
      cases f with
      | zero => omega
      | succ f =>
        have h1 := hb k (by omega)
        show (f_5_L8b M (((k + 1 : Nat) : Int) - 1)).bind _ = _
        rw [show ((k + 1 : Nat) : Int) - 1 = (k : Int) by omega]
        have e2 : f_2 M (k : Int) = R k := by
          unfold f_2
          rw [wri (k : Int) (by omega) (by omega), if_neg (by omega), if_neg (by omega), Int.toNat_natCast, hR k (by omega)]
        unfold f_5_L8b
        rw [e2, wri (k : Int) (by omega) (by omega), if_neg (by omega), wri (R k) (by omega) (by omega), fnd_2]
        by_cases q : R k ≤ 0
        · rw [if_pos q, if_neg (by omega)]
          exact ih (by omega) f (by omega)
        · rw [if_neg q, if_pos (by omega)]; rfl
  unfold f_5 f_5_L8
  exact key 36 (by decide) NF (by show 36 < 1000000; omega)
theorem fnd3_none {R : Nat → Int} : ∀ k, (∀ i, i < k → ¬ 0 < R i) → fnd 3 R k = -4
  | 0, _ => rfl
  | k + 1, h => by rw [fnd_3, if_neg (fun w => h k (by omega) w.1)]; exact fnd3_none k (fun i hi => h i (by omega))
theorem fnd3_some {R : Nat → Int} {j : Nat} (hj : 0 < R j) (h : ∀ i, i < j → ¬ 0 < R i) : ∀ m, fnd 3 R (j + 1 + m) = (j : Int)
  | 0 => by show fnd 3 R (j + 1) = _; rw [fnd_3, if_pos ⟨hj, by rw [fnd3_none j h]; decide⟩]
  | m + 1 => by
    show fnd 3 R ((j + 1 + m) + 1) = _
    rw [fnd_3, fnd3_some hj h m, if_neg (by omega)]
theorem c_6 {R : Nat → Int} (hR : ∀ k, k < 36 → M 178 k = R k) (hb : ∀ k, k < 36 → 0 ≤ R k ∧ R k ≤ 100000) : f_6 M = some (fnd 3 R 36) := by
  have body : ∀ i : Nat, i < 36 → f_6_L2b M (i : Int) = if R i ≤ 0 then some (Sum.inl ((i : Int) + 1)) else some (Sum.inr (i : Int)) := fun i hi => by
    have h1 := hb i hi
    unfold f_6_L2b
    rw [wri (i : Int) (by omega) (by omega), if_neg (by omega), gd_pos (by omega), Int.toNat_natCast, hR i hi, wri (R i) (by omega) (by omega)]
  unfold f_6 f_6_L2
  by_cases q : ∃ j, j < 36 ∧ 0 < R j
  · obtain ⟨j0, hj0, hp⟩ := q
    obtain ⟨j, a, b, c⟩ := least (p := fun j => 0 < R j) j0 hp
    have e := fnd3_some b c (35 - j)
    rw [show j + 1 + (35 - j) = 36 by omega] at e
    rw [e]
    refine loop_to (fun i => (i : Int)) j (fun i hi => ?_) ?_ (by show j < 1000000; omega)
    · show f_6_L2b M (i : Int) = some (Sum.inl ((i + 1 : Nat) : Int))
      rw [body i (by omega), if_pos (by have := c i hi; omega)]; rfl
    · show f_6_L2b M (j : Int) = _
      rw [body j (by omega), if_neg (by omega)]
  · rw [fnd3_none 36 (fun i hi w => q ⟨i, hi, w⟩)]
    refine loop_to (fun i => (i : Int)) 36 (fun i hi => ?_) ?_ (by show 36 < 1000000; omega)
    · show f_6_L2b M (i : Int) = some (Sum.inl ((i + 1 : Nat) : Int))
      rw [body i hi, if_pos (by
        rcases Int.lt_or_le 0 (R i) with w | w
        · exact absurd ⟨i, hi, w⟩ q
        · exact w)]; rfl
    · show f_6_L2b M ((36 : Nat) : Int) = _
      unfold f_6_L2b
      rw [wri _ (by omega) (by omega), if_pos (by omega)]
theorem c_7 {R : Nat → Int} (hR : ∀ k, k < 36 → M 178 k = R k) (hb : ∀ k, k < 36 → 0 ≤ R k ∧ R k ≤ 100000) : f_7 M = some (fnd 4 R 36) := by
  unfold f_7 f_7_L7
  refine loop_to (fun i => (fnd 4 R i, maxN i R, (i : Int))) 36 (fun i hi => ?_) ?_ (by show 36 < 1000000; omega)
  · show f_7_L7b M (fnd 4 R i) (maxN i R) (i : Int) = some (Sum.inl (fnd 4 R (i + 1), (if maxN i R < R i then R i else maxN i R), ((i + 1 : Nat) : Int)))
    have h1 := hb i hi
    have h2 := maxN_b (f := R) (hi := 100000) (by decide) i (fun j hj => (hb j (by omega)).2)
    unfold f_7_L7b
    rw [wri (i : Int) (by omega) (by omega), if_neg (by omega), gd_pos (by omega), Int.toNat_natCast, hR i hi, wri (R i) (by omega) (by omega), wri (maxN i R) (by omega) (by omega), fnd_4 (by decide) (by decide)]
    by_cases q : R i ≤ maxN i R
    · rw [if_pos q, if_neg (by omega), if_neg (by omega)]; rfl
    · rw [if_neg q, gd_pos (by omega), if_pos (by omega), if_pos (by omega)]; rfl
  · show f_7_L7b M _ _ ((36 : Nat) : Int) = _
    unfold f_7_L7b
    rw [wri _ (by omega) (by omega), if_pos (by omega)]
theorem c_64 (hR : RC M 2 A) (hX : WX T A) {c : Int} (hc : -2147483648 ≤ c ∧ c < 2147483648) : f_64 M 2 c = some (if 0 ≤ c ∧ c < aLen A (A 0 7).toNat then 1 else 0) := by
  have h7 := hX.1.1.2.2.2.2.2.1
  have hl := aLen_b hX.1 (n := (A 0 7).toNat) (by omega)
  unfold f_64
  rw [wri c hc.1 hc.2]
  by_cases q : c < 0
  · rw [if_pos q, if_neg (by omega)]
  · rw [if_neg q, c_62' (by decide +kernel) hR hX.1, Option.bind_some, wri _ (by omega) (by omega)]
    by_cases q2 : aLen A (A 0 7).toNat ≤ c
    · rw [if_pos q2, if_neg (by omega)]
    · rw [if_neg q2, if_pos (by omega)]
theorem c_1' (hR : RC M 2 A) (hX : WX T A) {cell : Nat} (hc : cell < 48) : f_1 M 2 (M 2 5) (cell : Int) = some (rowU M 178 36 (aRing A (A 0 7).toNat cell)) := by
  have h7 := hX.1.1.2.2.2.2.2.1
  have e5 : M 2 5 = A 0 7 := hR.1.2.2.1
  have := c_1 (b := 2) (by decide +kernel) hR hX.1 (A 0 7).toNat cell (by omega) hc
  rw [show (((A 0 7).toNat : Nat) : Int) = A 0 7 by omega] at this
  rw [e5, this]
end RI
