/-! MEANING, 28: all cells: loudest, buried, what would be, silence -/
section CE
variable {M A : xM} {T : Int} {P : Nat → xM} {n o : Nat} {S : xM} {sv : Int} {pd : Nat → Int} {len : Nat} {st : Nat → Int} {stp : Int}
/-- only the ear's rows were written -/
def EF (M M' : xM) : Prop := ∀ r, r ≠ 178 → r ≠ 179 → r ≠ 180 → r ≠ 181 → M' r = M r
theorem EF_rf : EF M M := fun _ _ _ _ _ => rfl
theorem EF_ring {M' : xM} {f : Nat → Int} (h : EF M M') : EF M (rowU M' 178 36 f) := fun r a b c d => by rw [rowU_ne a]; exact h r a b c d
theorem EF_RC {M' : xM} (h : EF M M') (hR : RC M 2 A) : RC M' 2 A := RC_frame (fun r a b => h r (by omega) (by omega) (by omega) (by omega)) hR
theorem c_1k (hR : RC M 2 A) (hX : WX T A) {k cell : Nat} (hk : (k : Int) ≤ A 0 7) (hc : cell < 48) : f_1 M 2 (k : Int) (cell : Int) = some (rowU M 178 36 (aRing A k cell)) := c_1 (b := 2) (by decide +kernel) hR hX.1 k cell hk hc
theorem c_8 (hR : RC M 2 A) (hX : WX T A) {k : Nat} (hk : (k : Int) ≤ A 0 7) : ∃ M', f_8 M 2 (k : Int) = some (sumN (aLen A k).toNat (aSum A k), M') ∧ EF M M' := by
  have h7 := hX.1.1.2.2.2.2.2.1
  have hl := aLen_b hX.1 (n := k) (by omega)
  unfold f_8
  rw [c_62 (b := 2) (by decide +kernel) hR hX.1 k (by omega), Option.bind_some]
  unfold f_8_L12
  have key := loop_inv (b := fun s => f_8_L12b 2 (k : Int) (aLen A k) s.1 s.2.1 s.2.2) (s := ((0 : Int), (0 : Int), M)) (fun i s => s.1 = sumN i (aSum A k) ∧ s.2.1 = (i : Int) ∧ EF M s.2.2) (Q := fun r => r.1 = sumN (aLen A k).toNat (aSum A k) ∧ EF M r.2) (aLen A k).toNat ⟨rfl, rfl, EF_rf⟩ (fun i s hi hs => ?_) (fun s hs => ?_) (by show (aLen A k).toNat < 1000000; omega)
  · obtain ⟨r, k1, k2, k3⟩ := key
    obtain ⟨z, M'⟩ := r
    dsimp only at k2
    exact ⟨M', by rw [k1, k2], k3⟩
  · obtain ⟨v, j, M2⟩ := s
    obtain ⟨rfl, rfl, p2⟩ := hs
    dsimp only at p2
    refine ⟨(sumN i (aSum A k) + aSum A k i, (i : Int) + 1, rowU M2 178 36 (aRing A k i)), ?_, rfl, by show (i : Int) + 1 = ((i + 1 : Nat) : Int); omega, EF_ring p2⟩
    show f_8_L12b 2 (k : Int) (aLen A k) (sumN i (aSum A k)) (i : Int) M2 = _
    unfold f_8_L12b
    rw [wri (aLen A k) (by omega) (by omega), wri (i : Int) (by omega) (by omega), if_neg (by omega), c_1k (EF_RC p2 hR) hX hk (by omega), Option.bind_some, c_4 (R := aRing A k i) (fun q hq => rowU_at hq)]
    rfl
  · obtain ⟨v, j, M2⟩ := s
    obtain ⟨rfl, rfl, p2⟩ := hs
    dsimp only at p2
    refine ⟨(sumN (aLen A k).toNat (aSum A k), M2), ?_, rfl, p2⟩
    show f_8_L12b 2 (k : Int) (aLen A k) _ (((aLen A k).toNat : Nat) : Int) M2 = _
    unfold f_8_L12b
    rw [wri (aLen A k) (by omega) (by omega), wri _ (by omega) (by omega), if_pos (by omega)]
def sil (A : xM) (k : Nat) (cell : Nat) : Int := if aSum A k cell = 0 then 1 else 0
theorem c_9 (hR : RC M 2 A) (hX : WX T A) {k : Nat} (hk : (k : Int) ≤ A 0 7) : ∃ M', f_9 M 2 (k : Int) = some (sumN (aLen A k).toNat (sil A k), M') ∧ EF M M' := by
  have h7 := hX.1.1.2.2.2.2.2.1
  have hl := aLen_b hX.1 (n := k) (by omega)
  unfold f_9
  rw [c_62 (b := 2) (by decide +kernel) hR hX.1 k (by omega), Option.bind_some]
  unfold f_9_L12
  have key := loop_inv (b := fun s => f_9_L12b 2 (k : Int) (aLen A k) s.1 s.2.1 s.2.2) (s := ((0 : Int), (0 : Int), M)) (fun i s => s.1 = sumN i (sil A k) ∧ s.2.1 = (i : Int) ∧ EF M s.2.2) (Q := fun r => r.1 = sumN (aLen A k).toNat (sil A k) ∧ EF M r.2) (aLen A k).toNat ⟨rfl, rfl, EF_rf⟩ (fun i s hi hs => ?_) (fun s hs => ?_) (by show (aLen A k).toNat < 1000000; omega)
  · obtain ⟨r, k1, k2, k3⟩ := key
    obtain ⟨z, M'⟩ := r
    dsimp only at k2
    exact ⟨M', by rw [k1, k2], k3⟩
  · obtain ⟨v, j, M2⟩ := s
    obtain ⟨rfl, rfl, p2⟩ := hs
    dsimp only at p2
    have hs := aSum_b hX.1 (n := k) (cell := i) (by omega)
    refine ⟨(sumN i (sil A k) + sil A k i, (i : Int) + 1, rowU M2 178 36 (aRing A k i)), ?_, rfl, by show (i : Int) + 1 = ((i + 1 : Nat) : Int); omega, EF_ring p2⟩
    show f_9_L12b 2 (k : Int) (aLen A k) (sumN i (sil A k)) (i : Int) M2 = _
    unfold f_9_L12b
    rw [wri (aLen A k) (by omega) (by omega), wri (i : Int) (by omega) (by omega), if_neg (by omega), c_1k (EF_RC p2 hR) hX hk (by omega), Option.bind_some, c_4 (R := aRing A k i) (fun q hq => rowU_at hq), Option.bind_some]
    show (if wr (aSum A k i) = 0 then _ else _) = _
    unfold sil
    rw [wri (aSum A k i) (by omega) (by omega)]
    by_cases q : aSum A k i = 0
    · rw [if_pos q, if_pos q]
    · rw [if_neg q, if_neg q, Int.add_zero]
  · obtain ⟨v, j, M2⟩ := s
    obtain ⟨rfl, rfl, p2⟩ := hs
    dsimp only at p2
    refine ⟨(sumN (aLen A k).toNat (sil A k), M2), ?_, rfl, p2⟩
    show f_9_L12b 2 (k : Int) (aLen A k) _ (((aLen A k).toNat : Nat) : Int) M2 = _
    unfold f_9_L12b
    rw [wri (aLen A k) (by omega) (by omega), wri _ (by omega) (by omega), if_pos (by omega)]
/-- the greatest force that is heard -/
theorem maxN_le {f : Nat → Int} {b : Int} (hb : 0 ≤ b) (k : Nat) (h : ∀ i, i < k → f i ≤ b) : maxN k f ≤ b := (maxN_b hb k h).2
theorem maxN_0 {f : Nat → Int} (k : Nat) : 0 ≤ maxN k f := by
  induction k with
  | zero => exact Int.le_refl _
  | succ k ih => show 0 ≤ if maxN k f < f k then f k else maxN k f; split <;> omega
def gHe (A : xM) (i : Nat) : Int := maxN (36 * (A 0 (14 + i)).toNat) (fun x => aAdd A i (x / 36) (x % 36))
theorem gHe_is (hX : WX T A) {i : Nat} (hi : (i : Int) < A 0 7) (hm : A 0 (20 + i) = 0) : gHe A i = maxN (36 * (A 0 (14 + i)).toNat) (fromK (kup A) (A (i + 1))) := by
  have h7 := hX.1.1.2.2.2.2.2.1
  have hlen := WF_len hX.1 (i := i) (by omega) (by omega) (by omega)
  have hk := kup_b hX.1
  have e : ∀ cell key, cell < (A 0 (14 + i)).toNat → aAdd A i cell key = if key + kup A < 36 then A (i + 1) (36 * cell + (key + kup A)) else 0 := fun cell key hc => by
    unfold aAdd
    rw [Nat.mod_eq_of_lt hc]
    by_cases q : key + kup A < 36
    · rw [if_pos ⟨hm, q⟩, if_pos q]
    · rw [if_neg (fun x => q x.2), if_neg q]
  unfold gHe
  refine Int.le_antisymm (maxN_le (maxN_0 _) _ (fun x hx => ?_)) (maxN_le (maxN_0 _) _ (fun x hx => ?_))
  · rw [e (x / 36) (x % 36) (by omega)]
    by_cases q : x % 36 + kup A < 36
    · rw [if_pos q]
      have := maxN_ge (f := fromK (kup A) (A (i + 1))) (36 * (A 0 (14 + i)).toNat) (36 * (x / 36) + (x % 36 + kup A)) (by omega)
      unfold fromK at this ⊢
      rw [if_pos (by omega)] at this
      exact this
    · rw [if_neg q]; exact maxN_0 _
  · unfold fromK
    by_cases q : kup A ≤ x % 36
    · rw [if_pos q]
      have := maxN_ge (f := fun x => aAdd A i (x / 36) (x % 36)) (36 * (A 0 (14 + i)).toNat) (x - kup A) (by omega)
      rw [e _ _ (by omega), if_pos (by omega), show 36 * ((x - kup A) / 36) + ((x - kup A) % 36 + kup A) = x by omega] at this
      exact this
    · rw [if_neg q]; exact maxN_0 _
theorem gHe_b (hX : WX T A) {i : Nat} (hi : (i : Int) < A 0 7) : 0 ≤ gHe A i ∧ gHe A i ≤ 99 := by
  have h7 := hX.1.1.2.2.2.2.2.1
  exact maxN_b (by decide) _ (fun x _ => (aAdd_b hX.1 (i := i) (cell := x / 36) (key := x % 36) (by omega)).2)
theorem c_67 (hR : RC M 2 A) (hX : WX T A) : f_67 M 2 = some (maxN (A 0 7).toNat (gHe A)) := by
  have hW := hX.1
  have h7 := hW.1.2.2.2.2.2.1
  have e5 : M 2 5 = A 0 7 := hR.1.2.2.1
  have hb : ∀ i, i ≤ (A 0 7).toNat → 0 ≤ maxN i (gHe A) ∧ maxN i (gHe A) ≤ 99 := fun i hi => maxN_b (by decide) i (fun j hj => (gHe_b hX (by omega)).2)
  unfold f_67 f_67_L4
  refine loop_to (fun i => (maxN i (gHe A), (i : Int))) (A 0 7).toNat (fun i hi => ?_) ?_ (by show (A 0 7).toNat < 1000000; omega)
  · show f_67_L4b M 2 (maxN i (gHe A)) (i : Int) = some (Sum.inl ((if maxN i (gHe A) < gHe A i then gHe A i else maxN i (gHe A)), ((i + 1 : Nat) : Int)))
    have b1 := hb i (by omega)
    have b2 := gHe_b hX (i := i) (by omega)
    have hmu := (hW.2.2.1 i (by omega) (by omega)).2.1
    unfold f_67_L4b
    rw [e5, wri (A 0 7) (by omega) (by omega), wri (i : Int) (by omega) (by omega), if_neg (by omega), c_66 (b := 2) (by decide +kernel) hR hW i (by omega), Option.bind_some]
    by_cases q : A 0 (20 + i) = 0
    · have hr := hR.2.1 i (by omega) (by omega)
      have hlen := WF_len hW (i := i) (by omega) (by omega) (by omega)
      have hT : Tg (2 + 6 + 3 * i) = 3 := gL7 (r := 2) (by decide +kernel) i (by omega)
      have ec : M (2 + 6 + 3 * i + 1) 1 = ((A 0 (14 + i)).toNat : Int) := by
        rw [show 2 + 6 + 3 * i + 1 = 2 + 7 + 3 * i by omega, hr.1]; omega
      have ev : ∀ x, x < 36 * (A 0 (14 + i)).toNat → M (2 + 6 + 3 * i + 1 + 1) x = A (i + 1) x := fun x hx => by
        rw [show 2 + 6 + 3 * i + 1 + 1 = 2 + 8 + 3 * i by omega]
        exact hr.2.2.2 x (by omega) (by omega)
      have e38 := c_38 (M := M) (low := kup A) (kup_b hW) (by omega) ec (fun x hx => by rw [ev x hx]; exact hW.2.2.2.1 i x (by omega) (by omega))
      have eg : maxN (36 * (A 0 (14 + i)).toNat) (fromK (kup A) (M (2 + 6 + 3 * i + 1 + 1))) = gHe A i := by
        rw [gHe_is hX (by omega) q]
        exact maxN_c _ (fun x hx => by unfold fromK; rw [ev x hx])
      rw [if_pos (show (i : Int) < A 0 7 ∧ A 0 (20 + i) = 0 from ⟨by omega, q⟩), if_neg (by omega), gd_pos hT, c_65 hR hW, e38, Option.bind_some, eg]
      unfold xmax
      rw [wri (maxN i (gHe A)) (by omega) (by omega), wri (gHe A i) (by omega) (by omega)]
      rfl
    · have e0 : gHe A i = 0 := by
        refine Int.le_antisymm (maxN_le (Int.le_refl 0) _ (fun x hx => ?_)) b2.1
        unfold aAdd
        rw [if_neg (fun w => q w.1)]; exact Int.le_refl _
      rw [if_neg (show ¬ ((i : Int) < A 0 7 ∧ A 0 (20 + i) = 0) from fun w => q w.2), if_pos rfl, e0, if_neg (by omega)]
      rfl
  · show f_67_L4b M 2 _ (((A 0 7).toNat : Nat) : Int) = _
    unfold f_67_L4b
    rw [e5, wri (A 0 7) (by omega) (by omega), wri _ (by omega) (by omega), if_pos (by omega)]
/-- the greatest of a number and some -/
def accM (v : Int) (f : Nat → Int) : Nat → Int
  | 0 => v
  | k + 1 => if accM v f k < f k then f k else accM v f k
theorem accM_is {v : Int} {f : Nat → Int} (hv : 0 ≤ v) : ∀ k, accM v f k = if v < maxN k f then maxN k f else v
  | 0 => by show v = if v < 0 then 0 else v; rw [if_neg (by omega)]
  | k + 1 => by
    have ih := accM_is (f := f) hv k
    show (if accM v f k < f k then f k else accM v f k) = if v < (if maxN k f < f k then f k else maxN k f) then (if maxN k f < f k then f k else maxN k f) else v
    rw [ih]
    repeat' split
    all_goals omega
end CE
