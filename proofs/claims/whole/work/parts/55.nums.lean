/-! MEANING, 26: count, drift, meets, silentIn -/
section NU
variable {M A : xM} {T : Int} {P : Nat → xM} {n o : Nat} {S : xM} {sv : Int} {pd : Nat → Int} {len : Nat} {st : Nat → Int} {stp : Int}
theorem sumN_ext {f : Nat → Int} {k : Nat} : ∀ m, (∀ i, k ≤ i → i < k + m → f i = 0) → sumN (k + m) f = sumN k f
  | 0, _ => rfl
  | m + 1, h => by
    have ih := sumN_ext (f := f) (k := k) m (fun i a b => h i a (by omega))
    show sumN (k + m) f + f (k + m) = _
    rw [ih, h (k + m) (by omega) (by omega), Int.add_zero]
theorem step_count (h : ALLx T M A P n o S sv pd len st stp) {w : Int} (hw : -2147483648 ≤ w ∧ w < 2147483648) : ∃ r1, f_119 M w = some r1 ∧ ∃ r2, f_208 M w = some r2 ∧ r1 = r2 := by
  obtain ⟨⟨h1, h2⟩, ⟨h3, h4⟩, h5, h6⟩ := h
  have hW := h5.1
  have h0 := hW.1.1
  have h7 := hW.1.2.2.2.2.2.1
  have hm := inS_mS h3
  have g : ∀ k : Nat, k < 32 → f_139 M (k : Int) = some (A 0 k) := fun k hk => by
    have := m_139 (M := M) (A := A) hk
    rw [hm] at this; exact this
  have g0 : f_139 M 0 = some (A 0 0) := g 0 (by decide)
  have g1 : f_139 M 1 = some (A 0 1) := g 1 (by decide)
  have g2 : f_139 M 2 = some (A 0 2) := g 2 (by decide)
  have g6 : f_139 M 6 = some (A 0 6) := g 6 (by decide)
  have g7 : f_139 M 7 = some (A 0 7) := g 7 (by decide)
  have g8 : f_139 M 8 = some (A 0 8) := g 8 (by decide)
  have g9 : f_139 M 9 = some (A 0 9) := g 9 (by decide)
  have g11 : f_139 M 11 = some (A 0 11) := g 11 (by decide)
  have g13 : f_139 M 13 = some (A 0 13) := g 13 (by decide)
  have s := h1.1
  have h61 : wr (f_61 M 2) = 0 ↔ ¬ (A 0 0 = 2 ∨ A 0 0 = 3) := by rw [c_61 h1 hW]; exact iff_of_eq wr01
  have h60 : wr (f_60 M 2) = 0 ↔ ¬ tkr A := by rw [c_60 h1 hW]; exact iff_of_eq wr01
  unfold f_119 f_208
  rw [wri w hw.1 hw.2]
  by_cases w0 : w = 0
  · rw [if_pos w0, if_pos w0, g0]; exact ⟨_, rfl, _, rfl, s.2.1⟩
  rw [if_neg w0, if_neg w0]
  by_cases w1 : w = 1
  · have e := m_147 (M := M) hW
    rw [hm] at e
    rw [if_pos w1, if_pos w1, c_62' (by decide +kernel) h1 hW, e]; exact ⟨_, rfl, _, rfl, rfl⟩
  rw [if_neg w1, if_neg w1]
  by_cases w2 : w = 2
  · rw [if_pos w2, if_pos w2, g7, Option.bind_some, wri (A 0 7) (by omega) (by omega)]
    by_cases q : A 0 7 = 0
    · have e := c_58n h1 hW 0 (by decide)
      rw [if_neg (by omega), show ((0 : Nat) : Int) = 0 from rfl] at e
      have e63 : f_63 M 2 = some 0 := by unfold f_63; rw [e, if_pos rfl]
      rw [if_pos q, e63]; exact ⟨_, rfl, _, rfl, rfl⟩
    · rw [if_neg q, g6, c_63 (by decide +kernel) h1 hW (by omega)]; exact ⟨_, rfl, _, rfl, rfl⟩
  rw [if_neg w2, if_neg w2]
  by_cases w3 : w = 3
  · rw [if_pos w3, if_pos w3, g7]; exact ⟨_, rfl, _, rfl, s.2.2.1⟩
  rw [if_neg w3, if_neg w3]
  by_cases w4 : w = 4
  · rw [if_pos w4, if_pos w4, g8]; exact ⟨_, rfl, _, rfl, s.2.2.2.1⟩
  rw [if_neg w4, if_neg w4]
  by_cases w5 : w = 5
  · rw [if_pos w5, if_pos w5, g0, Option.bind_some, wri (A 0 0) (by omega) (by omega)]
    by_cases q : A 0 0 = 2 ∨ A 0 0 = 3
    · rw [if_neg (fun x => h61.mp x q)]
      by_cases q2 : A 0 0 = 2
      · rw [if_pos q2, g1]; exact ⟨_, rfl, _, rfl, s.2.2.2.2.1⟩
      · rw [if_neg q2, Option.bind_some, wri (A 0 0) (by omega) (by omega), if_pos (by omega), g1]; exact ⟨_, rfl, _, rfl, s.2.2.2.2.1⟩
    · rw [if_pos (h61.mpr q), if_neg (by omega), Option.bind_some, wri (A 0 0) (by omega) (by omega), if_neg (by omega)]; exact ⟨_, rfl, _, rfl, rfl⟩
  rw [if_neg w5, if_neg w5]
  by_cases w6 : w = 6
  · rw [if_pos w6, if_pos w6, g9]; exact ⟨_, rfl, _, rfl, s.2.2.2.2.2.1⟩
  rw [if_neg w6, if_neg w6]
  by_cases w7 : w = 7
  · rw [if_pos w7, if_pos w7, g11]
    by_cases q : tkr A
    · rw [if_neg (fun x => h60.mp x q)]; exact ⟨_, rfl, _, rfl, (h1.2.2 q).1⟩
    · rw [if_pos (h60.mpr q)]; exact ⟨_, rfl, _, rfl, (hW.2.1.2.2.2.2.2 q).symm⟩
  rw [if_neg w7, if_neg w7]
  by_cases w8 : w = 8
  · have e := m_193 (M := M) (A := A) hW.2.2.2.1 (l := 6) (c := 48) (by decide) (by decide) (w := 1) (Or.inl rfl)
    rw [hm, acc3_1, show ((6 : Nat) : Int) = 6 from rfl, show ((48 : Nat) : Int) = 48 from rfl] at e
    rw [if_pos w8, if_pos w8, e]
    by_cases q : tkr A
    · have t := h1.2.2 q
      have htk : 0 ≤ tkc A ∧ tkc A ≤ 48 := by
        unfold tkc
        by_cases q1 : A 0 0 = 1
        · rw [if_pos q1]; omega
        · rw [if_neg q1]
          have := hW.2.1.2.2.1 (hW.2.1.2.1 (by rcases q with q | q <;> omega)).1
          omega
      have ec : M 6 1 = ((tkc A).toNat : Int) := by have : M 6 1 = tkc A := t.2.2.1; omega
      have ev : ∀ x, x < 36 * (tkc A).toNat → M (6 + 1) x = A 7 x := fun x hx => t.2.2.2 x (by omega) (by omega)
      have e36 := c_36 (M := M) (n0 := 6) (c := (tkc A).toNat) (by omega) ec (fun x hx => by rw [ev x hx]; exact hW.2.2.2.1 6 x (by decide) (by omega))
      rw [if_neg (fun x => h60.mp x q), e36]
      refine ⟨_, rfl, _, rfl, ?_⟩
      rw [pos1_c ev]
      have ez := sumN_ext (f := pos1 (A 7)) (k := 36 * (tkc A).toNat) (1728 - 36 * (tkc A).toNat) (fun i a b => by
        unfold pos1
        rw [hW.2.2.2.2 i (by omega) (Or.inr (by omega)), if_neg (by decide)])
      rw [show 36 * (tkc A).toNat + (1728 - 36 * (tkc A).toNat) = 1728 by omega] at ez
      exact ez.symm
    · rw [if_pos (h60.mpr q)]
      refine ⟨_, rfl, _, rfl, ?_⟩
      exact (sumN_0 1728 (fun i hi => by
        unfold pos1
        show (if 0 < A 7 i then (1 : Int) else 0) = 0
        rw [hW.2.2.2.2 i hi (Or.inl q), if_neg (by decide)])).symm
  rw [if_neg w8, if_neg w8]
  by_cases w9 : w = 9
  · rw [if_pos w9, if_pos w9, g2, s.1]
    rcases hW.1.2.1 with e | e
    · rw [e, if_pos wr0]; exact ⟨_, rfl, _, rfl, rfl⟩
    · rw [e, if_neg (by decide +kernel)]; exact ⟨_, rfl, _, rfl, rfl⟩
  rw [if_neg w9, if_neg w9]
  have gs : ∀ j : Nat, j < 3 → f_208_L183 M ((10 + j : Nat) : Int) = some (A 0 (3 + j)) := fun j hj => by
    unfold f_208_L183
    rw [show 3 + ((10 + j : Nat) : Int) - 10 = ((3 + j : Nat) : Int) by omega, g (3 + j) (by omega)]
    rfl
  by_cases w10 : w = 10
  · rw [if_pos w10, if_pos w10, w10, show (10 : Int) = ((10 + 0 : Nat) : Int) from rfl, gs 0 (by decide)]
    exact ⟨_, rfl, _, rfl, (c_59 (b := 2) (w := 0) (by decide)).trans s.2.2.2.2.2.2.2.2.1⟩
  rw [if_neg w10, if_neg w10]
  by_cases w11 : w = 11
  · rw [if_pos w11, if_pos w11, w11, show (11 : Int) = ((10 + 1 : Nat) : Int) from rfl, gs 1 (by decide)]
    exact ⟨_, rfl, _, rfl, (c_59 (b := 2) (w := 1) (by decide)).trans s.2.2.2.2.2.2.2.2.2.1⟩
  rw [if_neg w11, if_neg w11]
  by_cases w12 : w = 12
  · rw [if_pos w12, if_pos w12, w12, show (12 : Int) = ((10 + 2 : Nat) : Int) from rfl, gs 2 (by decide)]
    exact ⟨_, rfl, _, rfl, (c_59 (b := 2) (w := 2) (by decide)).trans s.2.2.2.2.2.2.2.2.2.2⟩
  rw [if_neg w12, if_neg w12]
  by_cases w13 : w = 13
  · rw [if_pos w13, if_pos w13]
    exact ⟨_, rfl, _, rfl, by show M 172 1 = M 182 6; rw [h2.2.2.2.2.1.1, h4.2.2.2.2.1.1]⟩
  rw [if_neg w13, if_neg w13]
  by_cases w14 : w = 14
  · rw [if_pos w14, if_pos w14]
    exact ⟨_, rfl, _, rfl, by show M 50 2 = M 182 2; rw [h2.1.1, h4.1]⟩
  rw [if_neg w14, if_neg w14]
  by_cases w15 : w = 15
  · rw [if_pos w15, if_pos w15, g13]; exact ⟨_, rfl, _, rfl, s.2.2.2.2.2.2.2.1⟩
  rw [if_neg w15, if_neg w15]
  exact ⟨_, rfl, _, rfl, rfl⟩
theorem m_147' (h3 : inS M A 183 0) (hW : WF T A) : f_147 M = some (aLen A (A 0 7).toNat) := by
  have e := m_147 (M := M) hW
  rw [inS_mS h3] at e; exact e
theorem len_pos (hX : WX T A) (h : A 0 7 ≠ 0) : 1 ≤ aLen A (A 0 7).toNat ∧ aLen A (A 0 7).toNat ≤ 48 := by
  have h7 := hX.1.1.2.2.2.2.2.1
  have a := aLen_b hX.1 (n := (A 0 7).toNat) (by omega)
  have b := aLen_two hX.1 (by omega) (n := (A 0 7).toNat) (by omega) (by omega)
  have c := hX.1.2.1.2.2.1 (by omega)
  omega
theorem len_0 (h : A 0 7 = 0) : aLen A (A 0 7).toNat = 0 := by rw [h]; rfl
theorem until_lt {x d : Int} {i : Int} (hd : 1 ≤ d) (hi : 0 ≤ i) (h : i < (if x % d = 0 then 0 else d - x % d)) : (x + i) % d ≠ 0 := by
  have a := Int.emod_nonneg x (show d ≠ 0 by omega)
  have b := Int.emod_lt_of_pos x (show 0 < d by omega)
  have e : (x + i) % d = (x % d + i) % d := (Int.emod_add_emod x d i).symm
  by_cases q : x % d = 0
  · rw [if_pos q] at h; omega
  · rw [if_neg q] at h
    rw [e, Int.emod_eq_of_lt (by omega) (by omega)]; omega
theorem until_eq {x d : Int} (hd : 1 ≤ d) : (x + (if x % d = 0 then 0 else d - x % d)) % d = 0 := by
  by_cases q : x % d = 0
  · rw [if_pos q, Int.add_zero]; exact q
  · rw [if_neg q]
    have e : x + (d - x % d) = d * (x / d + 1) := by
      have := Int.emod_add_mul_ediv x d
      rw [Int.mul_add, Int.mul_one]; omega
    rw [e, Int.mul_emod_right]
theorem step_drift (h : ALLx T M A P n o S sv pd len st stp) {p : Int} (hp : -2147483648 ≤ p ∧ p < 2147483648) : ∃ r1, f_122 M p = some r1 ∧ ∃ r2, f_212 M p = some r2 ∧ r1 = r2 := by
  obtain ⟨⟨h1, h2⟩, ⟨h3, h4⟩, h5, h6⟩ := h
  have hW := h5.1
  have h7 := hW.1.2.2.2.2.2.1
  have hb := hW.1.2.2.1
  have e7 : f_139 M 7 = some (A 0 7) := by rw [← inS_mS h3]; exact m_7
  have e3 : f_139 M 3 = some (A 0 3) := by rw [← inS_mS h3]; exact m_3
  have q1 : wr (f_138 p 0 99) = 0 ↔ ¬ (0 ≤ p ∧ p ≤ 99) := by
    rw [m_138w, wri p hp.1 hp.2, wr0, wri 99 (by decide) (by decide)]
  unfold f_122 f_212
  rw [wri p hp.1 hp.2, e7, Option.bind_some, wri (A 0 7) (by omega) (by omega), c_62' (by decide +kernel) h1 hW, Option.bind_some, c_bar h1]
  by_cases q : 0 ≤ p ∧ p ≤ 99
  · rw [if_neg (by omega), if_pos q.2, if_neg (fun x => q1.mp x q)]
    by_cases z : A 0 7 = 0
    · rw [if_pos z, len_0 z, if_pos wr0]; exact ⟨_, rfl, _, rfl, rfl⟩
    · have hl := len_pos h5 z
      obtain ⟨L, hL⟩ : ∃ L, L = aLen A (A 0 7).toNat := ⟨_, rfl⟩
      obtain ⟨x, hx⟩ : ∃ x, x = p * L := ⟨_, rfl⟩
      rw [← hL] at hl ⊢
      have hxb : 0 ≤ x ∧ x ≤ 5000 := by
        have a : 0 ≤ p * L := Int.mul_nonneg q.1 (by omega)
        have b : p * L ≤ 99 * 48 := Int.mul_le_mul q.2 hl.2 (by omega) (by decide)
        omega
      obtain ⟨u, hu⟩ : ∃ u, u = if x % A 0 3 = 0 then 0 else A 0 3 - x % A 0 3 := ⟨_, rfl⟩
      have hub : 0 ≤ u ∧ u ≤ 16 := by
        have a := Int.emod_nonneg x (show A 0 3 ≠ 0 by omega)
        have b := Int.emod_lt_of_pos x (show 0 < A 0 3 by omega)
        rw [hu]; split <;> omega
      rw [if_neg z, ← hx, until_is (by omega) (by omega), ← hu, wri L (by omega) (by omega), if_neg (by omega), wri u (by omega) (by omega)]
      have body : ∀ i : Nat, (i : Int) < L → f_212_L26b M p (i : Int) = if (x + i) % A 0 3 = 0 then some (Sum.inr (i : Int)) else some (Sum.inl ((i : Int) + 1)) := fun i hi => by
        have a := Int.emod_nonneg (x + i) (show A 0 3 ≠ 0 by omega)
        have b := Int.emod_lt_of_pos (x + i) (show 0 < A 0 3 by omega)
        unfold f_212_L26b
        rw [m_147' h3 hW, ← hL, Option.bind_some, wri L (by omega) (by omega), wri (i : Int) (by omega) (by omega), if_neg (by omega), Option.bind_some, e3, Option.bind_some, ← hx, wri (A 0 3) (by omega) (by omega), gd_pos (by omega), wri (x + i) (by omega) (by omega), Int.tmod_eq_emod_of_nonneg (by omega), wri ((x + i) % A 0 3) (by omega) (by omega)]
      by_cases q2 : L ≤ u
      · have e : f_212_L26 M p 0 = some (-4) := by
          unfold f_212_L26
          have key := loop_to (b := fun s => f_212_L26b M p s) (fun i => (i : Int)) L.toNat (r := (-4 : Int)) (fun i hi => ?_) ?_ (by show L.toNat < 1000000; omega)
          · exact key
          · show f_212_L26b M p (i : Int) = some (Sum.inl ((i + 1 : Nat) : Int))
            rw [body i (by omega), if_neg (until_lt (by omega) (by omega) (by rw [← hu]; omega))]; rfl
          · show f_212_L26b M p ((L.toNat : Nat) : Int) = _
            unfold f_212_L26b
            rw [m_147' h3 hW, ← hL, Option.bind_some, wri L (by omega) (by omega), wri _ (by omega) (by omega), if_pos (by omega)]
        rw [if_pos q2, e]; exact ⟨_, rfl, _, rfl, rfl⟩
      · have e : f_212_L26 M p 0 = some u := by
          unfold f_212_L26
          have key := loop_to (b := fun s => f_212_L26b M p s) (fun i => (i : Int)) u.toNat (r := u) (fun i hi => ?_) ?_ (by show u.toNat < 1000000; omega)
          · exact key
          · show f_212_L26b M p (i : Int) = some (Sum.inl ((i + 1 : Nat) : Int))
            rw [body i (by omega), if_neg (until_lt (by omega) (by omega) (by rw [← hu]; omega))]; rfl
          · show f_212_L26b M p ((u.toNat : Nat) : Int) = _
            have := until_eq (x := x) (d := A 0 3) (by omega)
            rw [← hu] at this
            rw [body u.toNat (by omega), show ((u.toNat : Nat) : Int) = u by omega, if_pos this]
        rw [if_neg q2, e]; exact ⟨_, rfl, _, rfl, rfl⟩
  · rw [if_pos (q1.mpr q)]
    by_cases x : p < 0
    · rw [if_pos x]; exact ⟨_, rfl, _, rfl, rfl⟩
    · rw [if_neg x, if_neg (by omega)]; exact ⟨_, rfl, _, rfl, rfl⟩
theorem least {p : Nat → Prop} : ∀ (m : Nat), p m → ∃ k, k ≤ m ∧ p k ∧ ∀ i, i < k → ¬ p i
  | 0, h => ⟨0, Nat.le_refl _, h, fun i hi => by omega⟩
  | m + 1, h => by
    by_cases q : ∃ k, k ≤ m ∧ p k
    · obtain ⟨k, h1, h2⟩ := q
      obtain ⟨k', a, b, c⟩ := least k h2
      exact ⟨k', by omega, b, c⟩
    · exact ⟨m + 1, Nat.le_refl _, h, fun i hi w => q ⟨i, by omega, w⟩⟩
theorem step_meets (h : ALLx T M A P n o S sv pd len st stp) : ∃ r1, f_123 M = some r1 ∧ ∃ r2, f_213 M = some r2 ∧ r1 = r2 := by
  obtain ⟨⟨h1, h2⟩, ⟨h3, h4⟩, h5, h6⟩ := h
  have hW := h5.1
  have h7 := hW.1.2.2.2.2.2.1
  have hb := hW.1.2.2.1
  have e7 : f_139 M 7 = some (A 0 7) := by rw [← inS_mS h3]; exact m_7
  have e3 : f_139 M 3 = some (A 0 3) := by rw [← inS_mS h3]; exact m_3
  unfold f_123 f_213
  rw [e7, Option.bind_some, wri (A 0 7) (by omega) (by omega), c_62' (by decide +kernel) h1 hW, Option.bind_some, c_bar h1]
  by_cases z : A 0 7 = 0
  · rw [if_pos z, len_0 z, if_pos wr0]; exact ⟨_, rfl, _, rfl, rfl⟩
  · have hl := len_pos h5 z
    obtain ⟨L, hL⟩ : ∃ L, L = aLen A (A 0 7).toNat := ⟨_, rfl⟩
    rw [← hL] at hl ⊢
    rw [if_neg z, wri L (by omega) (by omega), if_neg (by omega)]
    -- the least number
    obtain ⟨m, hm1, hm2, hm3⟩ := least (p := fun i => (((1 + i : Nat) : Int) * L) % A 0 3 = 0) ((A 0 3).toNat - 1) (by
      show (((1 + ((A 0 3).toNat - 1) : Nat) : Int) * L) % A 0 3 = 0
      rw [show ((1 + ((A 0 3).toNat - 1) : Nat) : Int) = A 0 3 by omega, Int.mul_emod_right])
    have mb : ∀ i : Nat, i ≤ m → 0 ≤ ((1 + i : Nat) : Int) * L ∧ ((1 + i : Nat) : Int) * L ≤ 1000 := fun i hi => by
      have a : 0 ≤ ((1 + i : Nat) : Int) * L := Int.mul_nonneg (by omega) (by omega)
      have b : ((1 + i : Nat) : Int) * L ≤ 16 * 48 := Int.mul_le_mul (by omega) hl.2 (by omega) (by decide)
      omega
    have eb : ∀ i : Nat, 0 ≤ (((1 + i : Nat) : Int) * L) % A 0 3 ∧ (((1 + i : Nat) : Int) * L) % A 0 3 < A 0 3 := fun i => ⟨Int.emod_nonneg _ (by omega), Int.emod_lt_of_pos _ (by omega)⟩
    have ec : f_123_L33 M L (A 0 3) 1 = some ((1 + m : Nat) : Int) := by
      unfold f_123_L33
      have key := loop_to (b := fun s => f_123_L33b M L (A 0 3) s) (fun i => ((1 + i : Nat) : Int)) m (r := ((1 + m : Nat) : Int)) (fun i hi => ?_) ?_ (by show m < 1000000; omega)
      · exact key
      · show f_123_L33b M L (A 0 3) ((1 + i : Nat) : Int) = some (Sum.inl ((1 + (i + 1) : Nat) : Int))
        have a := mb i (by omega)
        have b := eb i
        unfold f_123_L33b
        rw [wri (A 0 3) (by omega) (by omega), wri ((1 + i : Nat) : Int) (by omega) (by omega), if_neg (by omega), c_134 (by omega) (by omega), wri _ (by omega) (by omega), if_neg (hm3 i hi)]
        congr 2
      · show f_123_L33b M L (A 0 3) ((1 + m : Nat) : Int) = _
        have a := mb m (by omega)
        have b := eb m
        unfold f_123_L33b
        rw [wri (A 0 3) (by omega) (by omega), wri ((1 + m : Nat) : Int) (by omega) (by omega)]
        by_cases q : A 0 3 ≤ ((1 + m : Nat) : Int)
        · rw [if_pos q]
        · rw [if_neg q, c_134 (by omega) (by omega), wri _ (by omega) (by omega), if_pos hm2]
    have em : f_213_L14 M 1 = some ((1 + m : Nat) : Int) := by
      have body : ∀ i : Nat, i ≤ m → f_213_L14b M ((1 + i : Nat) : Int) = if (((1 + i : Nat) : Int) * L) % A 0 3 = 0 then some (Sum.inr ((1 + i : Nat) : Int)) else some (Sum.inl (((1 + i : Nat) : Int) + 1)) := fun i hi => by
        have a := mb i hi
        have b := eb i
        unfold f_213_L14b
        rw [m_147' h3 hW, ← hL, Option.bind_some, e3, Option.bind_some, wri (A 0 3) (by omega) (by omega), gd_pos (by omega), wri (((1 + i : Nat) : Int) * L) (by omega) (by omega), Int.tmod_eq_emod_of_nonneg (by omega), wri _ (by omega) (by omega)]
      unfold f_213_L14
      have key := loop_to (b := fun s => f_213_L14b M s) (fun i => ((1 + i : Nat) : Int)) m (r := ((1 + m : Nat) : Int)) (fun i hi => ?_) ?_ (by show m < 1000000; omega)
      · exact key
      · show f_213_L14b M ((1 + i : Nat) : Int) = some (Sum.inl ((1 + (i + 1) : Nat) : Int))
        rw [body i (by omega), if_neg (hm3 i hi)]
        congr 2
      · show f_213_L14b M ((1 + m : Nat) : Int) = _
        rw [body m (Nat.le_refl _), if_pos hm2]
    rw [ec, em]; exact ⟨_, rfl, _, rfl, rfl⟩
end NU
