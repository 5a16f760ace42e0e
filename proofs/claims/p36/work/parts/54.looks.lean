/-! MEANING, 25: looks at layers and numbers -/
section LO
variable {M A : xM} {T : Int} {P : Nat → xM} {n o : Nat} {S : xM} {sv : Int} {pd : Nat → Int} {len : Nat} {st : Nat → Int} {stp : Int}
def pos1 (f : Nat → Int) (x : Nat) : Int := if 0 < f x then 1 else 0
theorem c_36 {n0 c : Nat} (hc : c ≤ 48) (hn : M n0 1 = (c : Int)) (hv : ∀ x, x < 36 * c → 0 ≤ M (n0 + 1) x ∧ M (n0 + 1) x ≤ 99) : f_36 M n0 = some (sumN (36 * c) (pos1 (M (n0 + 1)))) := by
  unfold f_36 f_36_L4
  refine loop_to (fun i => (sumN i (pos1 (M (n0 + 1))), (i : Int))) (36 * c) (fun i hi => ?_) ?_ (by show 36 * c < 1000000; omega)
  · show f_36_L4b M n0 (sumN i (pos1 (M (n0 + 1)))) (i : Int) = some (Sum.inl (sumN (i + 1) (pos1 (M (n0 + 1))), ((i + 1 : Nat) : Int)))
    have h1 := hv i hi
    unfold f_36_L4b
    rw [hn, wri ((c : Int) * 36) (by omega) (by omega), wri (i : Int) (by omega) (by omega), if_neg (by omega), if_neg (by omega), gd_pos (by omega), Int.toNat_natCast, wri (M (n0 + 1) i) (by omega) (by omega)]
    have e : sumN (i + 1) (pos1 (M (n0 + 1))) = sumN i (pos1 (M (n0 + 1))) + (if 0 < M (n0 + 1) i then 1 else 0) := rfl
    rw [e]
    by_cases q : M (n0 + 1) i ≤ 0
    · rw [if_pos q, if_neg (by omega), Int.add_zero]; rfl
    · rw [if_neg q, if_pos (by omega)]; rfl
  · show f_36_L4b M n0 _ ((36 * c : Nat) : Int) = _
    unfold f_36_L4b
    rw [hn, wri ((c : Int) * 36) (by omega) (by omega), wri _ (by omega) (by omega), if_pos (by omega)]
theorem c_37 {n0 c : Nat} (hc : c ≤ 48) (hn : M n0 1 = (c : Int)) : f_37 M n0 = some (sumN (36 * c) (M (n0 + 1))) := by
  unfold f_37 f_37_L4
  refine loop_to (fun i => (sumN i (M (n0 + 1)), (i : Int))) (36 * c) (fun i hi => ?_) ?_ (by show 36 * c < 1000000; omega)
  · show f_37_L4b M n0 (sumN i (M (n0 + 1))) (i : Int) = some (Sum.inl (sumN (i + 1) (M (n0 + 1)), ((i + 1 : Nat) : Int)))
    unfold f_37_L4b
    rw [hn, wri ((c : Int) * 36) (by omega) (by omega), wri (i : Int) (by omega) (by omega), if_neg (by omega), if_neg (by omega), gd_pos (by omega), Int.toNat_natCast]
    rfl
  · show f_37_L4b M n0 _ ((36 * c : Nat) : Int) = _
    unfold f_37_L4b
    rw [hn, wri ((c : Int) * 36) (by omega) (by omega), wri _ (by omega) (by omega), if_pos (by omega)]
def fromK (low : Nat) (f : Nat → Int) (x : Nat) : Int := if low ≤ x % 36 then f x else 0
theorem maxN_zero {f : Nat → Int} {n : Nat} : ∀ m, (∀ i, n ≤ i → i < n + m → f i = 0) → maxN (n + m) f = maxN n f
  | 0, _ => rfl
  | m + 1, h => by
    have ih := maxN_zero (f := f) (n := n) m (fun i a b => h i a (by omega))
    show (if maxN (n + m) f < f (n + m) then f (n + m) else maxN (n + m) f) = _
    have h0 : 0 ≤ maxN (n + m) f := by
      rcases maxN_is (f := f) (n + m) with q | ⟨i, q1, q2⟩
      · omega
      · have : ∀ k, 0 ≤ maxN k f := fun k => by
          induction k with
          | zero => exact Int.le_refl _
          | succ k ihk => show 0 ≤ if maxN k f < f k then f k else maxN k f; split <;> omega
        exact this _
    rw [h (n + m) (by omega) (by omega), if_neg (by omega), ih]
theorem c_38 {n0 c low : Nat} (hl : low ≤ 12) (hc : c ≤ 48) (hn : M n0 1 = (c : Int)) (hv : ∀ x, x < 36 * c → 0 ≤ M (n0 + 1) x ∧ M (n0 + 1) x ≤ 99) : f_38 M n0 (low : Int) = some (maxN (36 * c) (fromK low (M (n0 + 1)))) := by
  have hg : ∀ m, m ≤ 36 * c → 0 ≤ maxN m (fromK low (M (n0 + 1))) ∧ maxN m (fromK low (M (n0 + 1))) ≤ 99 := fun m hm => maxN_b (by decide) m (fun i hi => by
    unfold fromK
    split
    · exact (hv i (by omega)).2
    · decide)
  unfold f_38 f_38_L4
  have L15 : ∀ cell : Nat, cell < c → f_38_L15 M n0 (low : Int) (cell : Int) (maxN (36 * cell) (fromK low (M (n0 + 1))), (low : Int)) = some (Sum.inl (maxN (36 * (cell + 1)) (fromK low (M (n0 + 1))), (cell : Int) + 1)) := by
    intro cell hcell
    unfold f_38_L15
    have key := loop_to (b := fun s => f_38_L15b M n0 (low : Int) (cell : Int) s.1 s.2) (fun k => (maxN (36 * cell + low + k) (fromK low (M (n0 + 1))), ((low + k : Nat) : Int))) (36 - low) (r := Sum.inl (maxN (36 * (cell + 1)) (fromK low (M (n0 + 1))), (cell : Int) + 1)) (fun k hk => ?_) ?_ (by show 36 - low < 1000000; omega)
    · have e0 : (maxN (36 * cell) (fromK low (M (n0 + 1))), (low : Int)) = ((fun k : Nat => (maxN (36 * cell + low + k) (fromK low (M (n0 + 1))), ((low + k : Nat) : Int))) 0) := by
        have ez := maxN_zero (f := fromK low (M (n0 + 1))) (n := 36 * cell) low (fun i a b => by unfold fromK; rw [if_neg (by omega)])
        show _ = (maxN (36 * cell + low) (fromK low (M (n0 + 1))), (low : Int))
        rw [ez]
      rw [e0]; exact key
    · show f_38_L15b M n0 (low : Int) (cell : Int) (maxN (36 * cell + low + k) (fromK low (M (n0 + 1)))) ((low + k : Nat) : Int) = some (Sum.inl (maxN (36 * cell + low + k + 1) (fromK low (M (n0 + 1))), ((low + (k + 1) : Nat) : Int)))
      have h1 := hg (36 * cell + low + k) (by omega)
      have h2 := hv (36 * cell + (low + k)) (by omega)
      unfold f_38_L15b
      rw [wri _ (by omega) (by omega), if_neg (by omega), c_30 (by omega) (by omega), if_pos (by omega)]
      unfold xmax
      rw [wri _ (by omega) (by omega), wri (M (n0 + 1) (36 * cell + (low + k))) (by omega) (by omega)]
      have e : fromK low (M (n0 + 1)) (36 * cell + low + k) = M (n0 + 1) (36 * cell + (low + k)) := by
        unfold fromK; rw [if_pos (by omega), Nat.add_assoc]
      have e2 : maxN (36 * cell + low + k + 1) (fromK low (M (n0 + 1))) = if maxN (36 * cell + low + k) (fromK low (M (n0 + 1))) < fromK low (M (n0 + 1)) (36 * cell + low + k) then fromK low (M (n0 + 1)) (36 * cell + low + k) else maxN (36 * cell + low + k) (fromK low (M (n0 + 1))) := rfl
      rw [e2, e]; rfl
    · show f_38_L15b M n0 (low : Int) (cell : Int) (maxN (36 * cell + low + (36 - low)) (fromK low (M (n0 + 1)))) ((low + (36 - low) : Nat) : Int) = _
      unfold f_38_L15b
      rw [wri _ (by omega) (by omega), if_pos (by omega), show 36 * cell + low + (36 - low) = 36 * (cell + 1) by omega]
  have key := loop_to (b := fun s => f_38_L4b M n0 (low : Int) s.1 s.2) (fun cell => (maxN (36 * cell) (fromK low (M (n0 + 1))), (cell : Int))) c (r := maxN (36 * c) (fromK low (M (n0 + 1)))) (fun cell hcell => ?_) ?_ (by show c < 1000000; omega)
  · exact key
  · show f_38_L4b M n0 (low : Int) (maxN (36 * cell) (fromK low (M (n0 + 1)))) (cell : Int) = some (Sum.inl (maxN (36 * (cell + 1)) (fromK low (M (n0 + 1))), ((cell + 1 : Nat) : Int)))
    unfold f_38_L4b
    rw [hn, wri (c : Int) (by omega) (by omega), wri (cell : Int) (by omega) (by omega), if_neg (by omega), L15 cell hcell]
    rfl
  · show f_38_L4b M n0 (low : Int) _ (c : Int) = _
    unfold f_38_L4b
    rw [hn, if_pos (Int.le_refl _)]
/-- the reference's count, sum, greatest -/
def acc3 (w : Int) (f : Nat → Int) : Nat → Int
  | 0 => 0
  | k + 1 => if w = 3 then (if acc3 w f k < f k then f k else acc3 w f k) else if w = 1 then acc3 w f k + pos1 f k else acc3 w f k + f k
theorem acc3_1 {f : Nat → Int} : ∀ k, acc3 1 f k = sumN k (pos1 f)
  | 0 => rfl
  | k + 1 => by unfold acc3; rw [if_neg (by decide), if_pos rfl, acc3_1 k]; rfl
theorem acc3_2 {f : Nat → Int} : ∀ k, acc3 2 f k = sumN k f
  | 0 => rfl
  | k + 1 => by unfold acc3; rw [if_neg (by decide), if_neg (by decide), acc3_2 k]; rfl
theorem acc3_3 {f : Nat → Int} : ∀ k, acc3 3 f k = maxN k f
  | 0 => rfl
  | k + 1 => by unfold acc3; rw [if_pos rfl, acc3_3 k]; rfl
theorem pos1_c {f g : Nat → Int} {k : Nat} (h : ∀ x, x < k → f x = g x) : sumN k (pos1 f) = sumN k (pos1 g) := sumN_c k (fun i hi => by unfold pos1; rw [h i hi])
theorem until_is {x d : Int} (hx : 0 ≤ x ∧ x < 1000000000) (hd : 1 ≤ d ∧ d ≤ 1000) : f_135 x d = if x % d = 0 then 0 else d - x % d := by
  have a := Int.emod_nonneg x (show d ≠ 0 by omega)
  have b := Int.emod_lt_of_pos x (show 0 < d by omega)
  unfold f_135
  rw [c_134 (x := x) (by omega) (by omega), c_134 (by omega) (by omega)]
  by_cases q : x % d = 0
  · rw [if_pos q, q, Int.sub_zero, Int.emod_self]
  · rw [if_neg q, Int.emod_eq_of_lt (by omega) (by omega)]
theorem c_bar (hR : RC M 2 A) : f_59 M 2 0 = A 0 3 := (c_59 (b := 2) (w := 0) (by decide)).trans hR.1.2.2.2.2.2.2.2.2.1
end LO
