/-! MEANING, 11: the reference's ticks and small changes -/
section M3
variable {M A : xM} {T : Int}
theorem m_160 (hF : WFf A) (h7 : 0 ≤ A 0 7 ∧ A 0 7 ≤ 6) (h5 : 0 ≤ A 0 5 ∧ A 0 5 ≤ 100) (hl : ∀ i : Nat, (i : Int) < A 0 7 → 0 ≤ A 0 (14 + i) ∧ A 0 (14 + i) ≤ 48) : f_160 (mS M A) = some (mS M (aFade A)) := by
  have L39 : ∀ l : Nat, (l : Int) < A 0 7 → f_160_L39 (100 - A 0 5) (l : Int) (0, mS M (xset (aFadeN l A) 0 (26 + l) (aFadeN l A 0 (26 + l) + 1))) = some (Sum.inl ((l : Int) + 1, mS M (aFadeN (l + 1) A))) := by
    intro l hl7
    have hlen := hl l hl7
    obtain ⟨B, hB⟩ : ∃ B, B = aFadeN l A := ⟨_, rfl⟩
    have hBF : WFf B := by rw [hB]; exact WFf_fadeN hF h5 l
    have b5 : B 0 5 = A 0 5 := by rw [hB]; exact aFadeN_sc l 5 (by decide)
    have b14 : B 0 (14 + l) = A 0 (14 + l) := by rw [hB]; exact aFadeN_sc l (14 + l) (by omega)
    have hC : WFf (xset B 0 (26 + l) (B 0 (26 + l) + 1)) := WFf_sc hBF
    have hR : ∀ i, i ≤ 36 * (B 0 (14 + l)).toNat → WFf (rowU (xset B 0 (26 + l) (B 0 (26 + l) + 1)) (l + 1) i (fun x => B (l + 1) x * (100 - B 0 5) / 100)) := fun i hi => WFf_row hC (fun j hj => by
      have := hBF l j (by omega) (by omega)
      have := fade_b this (d := 100 - B 0 5) (by omega)
      omega)
    unfold f_160_L39
    have key := loop_to (b := fun s => f_160_L39b (100 - A 0 5) (l : Int) s.1 s.2) (fun i => ((i : Int), mS M (rowU (xset B 0 (26 + l) (B 0 (26 + l) + 1)) (l + 1) i (fun x => B (l + 1) x * (100 - B 0 5) / 100)))) (36 * (B 0 (14 + l)).toNat) (r := Sum.inl ((l : Int) + 1, mS M (aFadeN (l + 1) A))) (fun i hi => ?_) ?_ (by show 36 * (B 0 (14 + l)).toNat < 1000000; omega)
    · have e0 : ((0 : Int), mS M (xset B 0 (26 + l) (B 0 (26 + l) + 1))) = ((fun i : Nat => ((i : Int), mS M (rowU (xset B 0 (26 + l) (B 0 (26 + l) + 1)) (l + 1) i (fun x => B (l + 1) x * (100 - B 0 5) / 100)))) 0) := by
        show _ = (((0 : Nat) : Int), _)
        rw [rowU_0]; rfl
      rw [← hB, e0]; exact key
    · show f_160_L39b (100 - A 0 5) (l : Int) (i : Int) (mS M (rowU (xset B 0 (26 + l) (B 0 (26 + l) + 1)) (l + 1) i (fun x => B (l + 1) x * (100 - B 0 5) / 100))) = some (Sum.inl (((i + 1 : Nat) : Int), mS M (rowU (xset B 0 (26 + l) (B 0 (26 + l) + 1)) (l + 1) (i + 1) (fun x => B (l + 1) x * (100 - B 0 5) / 100))))
      have d1 : (wr (i : Int)).tdiv 36 = ((i / 36 : Nat) : Int) := by rw [wri _ (by omega) (by omega), Int.tdiv_eq_ediv_of_nonneg (by omega)]; omega
      have d2 : (wr (i : Int)).tmod 36 = ((i % 36 : Nat) : Int) := by rw [wri _ (by omega) (by omega), Int.tmod_eq_emod_of_nonneg (by omega)]; omega
      have hx : 36 * (i / 36) + i % 36 = i := by omega
      have fb := hBF l i (by omega) (by omega)
      have fd := fade_b fb (d := 100 - B 0 5) (by omega)
      have e1 : f_139 (mS M (rowU (xset B 0 (26 + l) (B 0 (26 + l) + 1)) (l + 1) i (fun x => B (l + 1) x * (100 - B 0 5) / 100))) (14 + (l : Int)) = some (A 0 (14 + l)) := by
        have := m_139 (M := M) (A := rowU (xset B 0 (26 + l) (B 0 (26 + l) + 1)) (l + 1) i (fun x => B (l + 1) x * (100 - B 0 5) / 100)) (k := 14 + l) (by omega)
        rw [show ((14 + l : Nat) : Int) = 14 + (l : Int) by omega, rowU_ne (by omega), xset_j (by omega), b14] at this
        exact this
      have e2 := m_141 (M := M) (hR i (by omega)) (l := l) (c := i / 36) (k := i % 36) (by omega) (by omega) (by omega)
      rw [hx, rowU_ge (Nat.le_refl _), xset_r (by omega)] at e2
      have e3 := m_142 (M := M) (hR i (by omega)) (l := l) (c := i / 36) (k := i % 36) (by omega) (by omega) (by omega) (v := B (l + 1) i * (100 - B 0 5) / 100) (by omega)
      rw [hx, rowU_s (f := fun x => B (l + 1) x * (100 - B 0 5) / 100)] at e3
      unfold f_160_L39b
      rw [e1, Option.bind_some, wri (A 0 (14 + l) * 36) (by omega) (by omega), wri (i : Int) (by omega) (by omega), if_neg (by omega)]
      rw [wri (i : Int) (by omega) (by omega)] at d1 d2
      rw [d1, d2, e2, Option.bind_some, wri (B (l + 1) i) (by omega) (by omega), ← b5, wli _ (by omega) (by omega), Int.tdiv_eq_ediv_of_nonneg (by omega), e3]
      rfl
    · show f_160_L39b (100 - A 0 5) (l : Int) ((36 * (B 0 (14 + l)).toNat : Nat) : Int) (mS M (rowU (xset B 0 (26 + l) (B 0 (26 + l) + 1)) (l + 1) (36 * (B 0 (14 + l)).toNat) (fun x => B (l + 1) x * (100 - B 0 5) / 100))) = _
      have e1 : f_139 (mS M (rowU (xset B 0 (26 + l) (B 0 (26 + l) + 1)) (l + 1) (36 * (B 0 (14 + l)).toNat) (fun x => B (l + 1) x * (100 - B 0 5) / 100))) (14 + (l : Int)) = some (A 0 (14 + l)) := by
        have := m_139 (M := M) (A := rowU (xset B 0 (26 + l) (B 0 (26 + l) + 1)) (l + 1) (36 * (B 0 (14 + l)).toNat) (fun x => B (l + 1) x * (100 - B 0 5) / 100)) (k := 14 + l) (by omega)
        rw [show ((14 + l : Nat) : Int) = 14 + (l : Int) by omega, rowU_ne (by omega), xset_j (by omega)] at this
        rw [this, b14]
      unfold f_160_L39b
      rw [e1, Option.bind_some, wri _ (by omega) (by omega), wri _ (by omega) (by omega), if_pos (by omega), hB]
      rfl
  unfold f_160
  rw [mS_sc (by decide)]
  unfold f_160_L13
  have key := loop_to (b := fun s => f_160_L13b (100 - A 0 5) s.1 s.2) (fun l => ((l : Int), mS M (aFadeN l A))) (A 0 7).toNat (r := mS M (aFade A)) (fun l hl2 => ?_) ?_ (by show (A 0 7).toNat < 1000000; omega)
  · exact key
  · show f_160_L13b (100 - A 0 5) (l : Int) (mS M (aFadeN l A)) = some (Sum.inl (((l + 1 : Nat) : Int), mS M (aFadeN (l + 1) A)))
    unfold f_160_L13b
    rw [m_7, Option.bind_some, aFadeN_sc l 7 (by decide), wri _ (by omega) (by omega), wri (l : Int) (by omega) (by omega), if_neg (by omega), wri (26 + (l : Int)) (by omega) (by omega), gd_pos (by omega), gd_pos (by omega), bnd_def, show (26 + (l : Int)).toNat = 26 + l by omega, mS_sc (by omega), mS_set (by omega), L39 l (by omega)]
    rfl
  · show f_160_L13b (100 - A 0 5) (((A 0 7).toNat : Nat) : Int) (mS M (aFadeN (A 0 7).toNat A)) = _
    unfold f_160_L13b
    rw [m_7, Option.bind_some, aFadeN_sc _ 7 (by decide), wri _ (by omega) (by omega), wri _ (by omega) (by omega), if_pos (by omega)]
    rfl
theorem aTick_04 (h : A 0 0 = 0 ∨ A 0 0 = 4) : aTick A = (0, A) := by unfold aTick; rw [if_pos h]
theorem aTick_1 (h : A 0 0 = 1) : aTick A = (0, if 48 ≤ (aTakeOn A) 0 11 then aEndFirst (aTakeOn A) else aTakeOn A) := by unfold aTick; rw [if_neg (by omega), if_pos h]
theorem aTick_2 (h : A 0 0 = 2) : aTick A = aLoop A := by unfold aTick; rw [if_neg (by omega), if_neg (by omega), if_pos h]
theorem aTick_3 (h : A 0 0 = 3) : aTick A = ((aLoop (aTakeOn A)).1, aOver (aLoop (aTakeOn A)).2) := by unfold aTick; rw [if_neg (by omega), if_neg (by omega), if_neg (by omega)]
theorem m_146g (k : Nat) (hk : k ≤ 6) (hl : ∀ i : Nat, i < k → 0 ≤ A 0 (14 + i) ∧ A 0 (14 + i) ≤ 48) : f_146 (mS M A) (k : Int) = some (aLen A k) := by
  have hb : ∀ n, n ≤ k → 0 ≤ aLen A n ∧ aLen A n ≤ 48 := fun n hn => maxN_b (by decide) n (fun i hi => (hl i (by omega)).2)
  unfold f_146 f_146_L4
  refine loop_to (fun i => (aLen A i, (i : Int))) k (fun i hi => ?_) ?_ (by show k < 1000000; omega)
  · show f_146_L4b (mS M A) (k : Int) (aLen A i) (i : Int) = _
    have h1 := hl i hi
    have h2 := hb i (by omega)
    have e1 : f_139 (mS M A) (14 + (i : Int)) = some (A 0 (14 + i)) := by
      have := m_139 (M := M) (A := A) (k := 14 + i) (by omega)
      rw [show ((14 + i : Nat) : Int) = 14 + (i : Int) by omega] at this
      exact this
    unfold f_146_L4b
    rw [wri (k : Int) (by omega) (by omega), wri (i : Int) (by omega) (by omega), if_neg (by omega), e1, Option.bind_some, wri (A 0 (14 + i)) (by omega) (by omega), wri (aLen A i) (by omega) (by omega)]
    show _ = some (Sum.inl (aLen A (i + 1), ((i + 1 : Nat) : Int)))
    have e2 : aLen A (i + 1) = if aLen A i < A 0 (14 + i) then A 0 (14 + i) else aLen A i := rfl
    rw [e2]
    by_cases q : A 0 (14 + i) ≤ aLen A i
    · rw [if_pos q, if_neg (by omega)]; rfl
    · rw [if_neg q, if_pos (by omega)]; rfl
  · show f_146_L4b (mS M A) (k : Int) (aLen A k) (k : Int) = _
    unfold f_146_L4b
    rw [if_pos (Int.le_refl _)]
theorem m_147g (h7 : 0 ≤ A 0 7 ∧ A 0 7 ≤ 6) (hl : ∀ i : Nat, (i : Int) < A 0 7 → 0 ≤ A 0 (14 + i) ∧ A 0 (14 + i) ≤ 48) : f_147 (mS M A) = some (aLen A (A 0 7).toNat) := by
  unfold f_147
  have := m_146g (M := M) (A := A) (A 0 7).toNat (by omega) (fun i hi => hl i (by omega))
  rw [show (((A 0 7).toNat : Nat) : Int) = A 0 7 by omega] at this
  rw [m_7, Option.bind_some, this]; rfl
/-- the loop moves -/
theorem m_loop (hW : WF T A) (h2 : 2 ≤ A 0 0) (c3 : Int) : (bnd (xset (mS M A) 183 1 ((mS M A) 183 1 + aBy A)) (fun M11 =>
    bnd (xset M11 183 10 ((M11 183 10) + aBy A)) (fun M12 =>
    (f_139 M12 1).bind (fun k13 =>
    (f_147 M12).bind (fun k14 =>
    if wr k13 < wr (2 * k14) then
      f_161_L142 M12 c3 0
    else
      (f_147 M12).bind (fun k19 =>
      bnd (xset M12 183 1 ((M12 183 1) - (wr (2 * k19)))) (fun M20 =>
      bnd (xset M20 183 9 ((M20 183 9) + 1)) (fun M21 =>
      (f_160 M21).bind (fun k22 =>
      f_161_L142 k22 c3 1
      ))))
    ))))) = f_161_L142 (mS M (aLoop A).2) c3 (aLoop A).1 := by
  have hm := hW.2.1.2.1 h2
  have h6 := hW.2.1.2.2.1 hm.1
  have s7 := hW.1.2.2.2.2.2.1
  have s1 := hW.1.2.2.2.2.2.2.2.2.2.2.2
  have s5 := hW.1.2.2.2.2.1
  have hb : 1 ≤ aBy A ∧ aBy A ≤ 2 := by have := hW.1.2.1; unfold aBy; omega
  have hA : ∀ k, k ≠ 1 → k ≠ 10 → aMove A 0 k = A 0 k := fun k h1 h10 => by unfold aMove; rw [xset_j h10, xset_j h1]
  have e1 : aMove A 0 1 = A 0 1 + aBy A := by unfold aMove; rw [xset_j (by decide), xset_eq]
  have hlen : aLen (aMove A) ((aMove A) 0 7).toNat = aLen A (A 0 7).toNat := by
    rw [hA 7 (by decide) (by decide)]
    exact aLen_c (fun i hi => hA _ (by omega) (by omega))
  have hlb := aLen_b hW (n := (A 0 7).toNat) (by omega)
  -- the length, read from the moved state
  have e147 : f_147 (mS M (aMove A)) = some (aLen A (A 0 7).toNat) := by
    have := m_147g (M := M) (A := aMove A) (by rw [hA 7 (by decide) (by decide)]; omega) (fun i hi => by
      rw [hA 7 (by decide) (by decide)] at hi
      rw [hA _ (by omega) (by omega)]
      have := WF_len hW (i := i) (by omega) (by omega) hm.1
      omega)
    rw [this, hlen]
  have em : xset (xset (mS M A) 183 1 ((mS M A) 183 1 + aBy A)) 183 10 ((xset (mS M A) 183 1 ((mS M A) 183 1 + aBy A)) 183 10 + aBy A) = mS M (aMove A) := by
    rw [mS_sc (by decide), mS_set (by decide), mS_sc (by decide), mS_set (by decide), xset_j (by decide)]
    rfl
  have eT : 2 * aLen A (A 0 7).toNat ≤ A 0 1 + aBy A → aLoop A = (1, aTurn (aMove A)) := fun h => by
    unfold aLoop; rw [if_pos (by rw [hlen, e1]; exact h)]
  have eF : ¬ 2 * aLen A (A 0 7).toNat ≤ A 0 1 + aBy A → aLoop A = (0, aMove A) := fun h => by
    unfold aLoop; rw [if_neg (by rw [hlen, e1]; exact h)]
  rw [bnd_def, bnd_def, em]
  have e139 : f_139 (mS M (aMove A)) 1 = some (aMove A 0 1) := m_139 (k := 1) (by decide)
  rw [e139, Option.bind_some, e147, Option.bind_some, e1, wri (A 0 1 + aBy A) (by omega) (by omega), wri (2 * aLen A (A 0 7).toNat) (by omega) (by omega)]
  by_cases q : A 0 1 + aBy A < 2 * aLen A (A 0 7).toNat
  · rw [if_pos q, eF (by omega)]
  · rw [if_neg q, eT (by omega), Option.bind_some, bnd_def, wri (2 * aLen A (A 0 7).toNat) (by omega) (by omega), mS_sc (by decide), e1, mS_set (by decide), bnd_def, mS_sc (by decide), mS_set (by decide)]
    have e9 : xset (aMove A) 0 1 (A 0 1 + aBy A - 2 * aLen A (A 0 7).toNat) 0 9 = aMove A 0 9 := xset_j (by decide)
    rw [e9]
    have hr : ∀ l x, aMove A (l + 1) x = A (l + 1) x := fun l x => by unfold aMove; rw [xset_r (by omega), xset_r (by omega)]
    have hX : ∀ k, k ≠ 1 → k ≠ 9 → k ≠ 10 → xset (xset (aMove A) 0 1 (A 0 1 + aBy A - 2 * aLen A (A 0 7).toNat)) 0 9 (aMove A 0 9 + 1) 0 k = A 0 k := fun k a b c => by rw [xset_j b, xset_j a, hA k a c]
    rw [m_160 (fun l x hl hx => by rw [xset_r (by omega), xset_r (by omega), hr]; exact hW.2.2.2.1 l x hl hx) (by rw [hX 7 (by decide) (by decide) (by decide)]; omega) (by rw [hX 5 (by decide) (by decide) (by decide)]; omega) (fun i hi => by
      rw [hX 7 (by decide) (by decide) (by decide)] at hi
      rw [hX _ (by omega) (by omega) (by omega)]
      have := WF_len hW (i := i) (by omega) (by omega) hm.1
      omega), Option.bind_some]
    have eX : aTurn (aMove A) = aFade (xset (xset (aMove A) 0 1 (A 0 1 + aBy A - 2 * aLen A (A 0 7).toNat)) 0 9 (aMove A 0 9 + 1)) := by
      unfold aTurn
      rw [hlen, e1]
    rw [eX]
theorem m_161 (hW : WX T A) : f_161 (mS M A) = some ((aTick A).1, mS M (aTick A).2) := by
  have h0 := hW.1.1.1
  have h2 := hW.1.1.2.1
  have s11 := hW.1.1.2.2.2.2.2.2.2.2.2.1
  unfold f_161
  rw [m_0, Option.bind_some, wri _ (by omega) (by omega), mS_sc (by decide), mS_sc (by decide)]
  by_cases q0 : A 0 0 = 0
  · rw [if_pos q0, aTick_04 (Or.inl q0)]
  · rw [if_neg q0]
    by_cases q4 : A 0 0 = 4
    · rw [if_pos q4, aTick_04 (Or.inr q4)]
    · rw [if_neg q4]
      by_cases q2 : A 0 0 = 2
      · rw [if_pos q2, aTick_2 q2]
        unfold f_161_L46
        rw [wri (11 : Int) (by decide) (by decide), gd_pos (by decide), show (11 : Int).toNat = 11 from rfl, bnd_def, wri (A 0 0) (by omega) (by omega), if_neg (by omega), mS_set (by decide)]
        have e0 : xset A 0 11 (A 0 11 + 0) = A := by
          funext a b
          rw [xset_d]
          by_cases q : a = 0 ∧ b = 11
          · rw [if_pos q, q.1, q.2, Int.add_zero]
          · rw [if_neg q]
        rw [e0]
        refine (m_loop hW.1 (by omega) (A 0 0)).trans ?_
        unfold f_161_L142
        rw [wri (A 0 0) (by omega) (by omega), if_neg (by omega)]
      · rw [if_neg q2]
        by_cases q1 : A 0 0 = 1
        · rw [aTick_1 q1]
          obtain ⟨w1, w2, w3⟩ := W_takeOn hW (Or.inl q1)
          have w11 := w1.1.2.2.2.2.2.2.2.2.2.1
          have hm := w1.2.1.1 (by omega)
          unfold f_161_L46
          rw [wri (11 : Int) (by decide) (by decide), gd_pos (by decide), show (11 : Int).toNat = 11 from rfl, bnd_def, wri (A 0 0) (by omega) (by omega), if_pos q1, mS_set (by decide), show xset A 0 11 (A 0 11 + (2 - A 0 2)) = aTakeOn A from rfl, m_11, Option.bind_some, wri _ (by omega) (by omega)]
          by_cases q5 : (aTakeOn A) 0 11 < 48
          · rw [if_pos q5, if_neg (by omega : ¬ 48 ≤ aTakeOn A 0 11)]
          · rw [if_neg q5, if_pos (by omega : 48 ≤ aTakeOn A 0 11), m_154 w1.1 w1.2.2.2.1 (by omega) w2]
            rfl
        · have q3 : A 0 0 = 3 := by omega
          rw [aTick_3 q3]
          obtain ⟨w1, w2, w3⟩ := W_takeOn hW (Or.inr q3)
          obtain ⟨v1, v2⟩ := WF_move w1 (by omega)
          have e0 := v2 0 (by decide) (by decide) (by decide) (by decide)
          have v11 := v1.1.2.2.2.2.2.2.2.2.2.1
          have vm := (v1.2.1.2.1 (by omega)).1
          have v6 := v1.2.1.2.2.1 vm
          have v5 := v1.2.1.2.2.2.2.1 (by omega)
          unfold f_161_L46
          rw [wri (11 : Int) (by decide) (by decide), gd_pos (by decide), show (11 : Int).toNat = 11 from rfl, bnd_def, wri (A 0 0) (by omega) (by omega), if_neg q1, mS_set (by decide), show xset A 0 11 (A 0 11 + (2 - A 0 2)) = aTakeOn A from rfl]
          have ey : 2 - A 0 2 = aBy (aTakeOn A) := by
            unfold aBy aTakeOn
            rw [xset_j (by decide)]
          rw [ey]
          refine (m_loop w1 (by omega) (A 0 0)).trans ?_
          unfold f_161_L142
          rw [wri (A 0 0) (by omega) (by omega), if_pos q3, mS_sc (by decide), mS_sc (by decide)]
          have exl : wr (xlc ((aLoop (aTakeOn A)).2 0 11) (4 * (aLoop (aTakeOn A)).2 0 6)) < 0 ↔ (aLoop (aTakeOn A)).2 0 11 < 4 * (aLoop (aTakeOn A)).2 0 6 := by
            unfold xlc
            rw [wli _ (by omega) (by omega), wli _ (by omega) (by omega)]
            by_cases q : (aLoop (aTakeOn A)).2 0 11 < 4 * (aLoop (aTakeOn A)).2 0 6
            · rw [if_pos q]; exact ⟨fun _ => q, fun _ => by decide +kernel⟩
            · rw [if_neg q]
              refine ⟨fun w => absurd w ?_, fun w => absurd w q⟩
              split <;> decide +kernel
          unfold aOver
          by_cases q : (aLoop (aTakeOn A)).2 0 11 < 4 * (aLoop (aTakeOn A)).2 0 6
          · rw [if_pos (exl.mpr q), if_neg (by omega)]
          · rw [if_neg (fun w => q (exl.mp w)), if_pos (by omega), m_155 v1 (by omega) v5]
            rfl
theorem m_162 (hW : WX T A) (n : Nat) (hn : n ≤ 99) : f_162 (mS M A) (n : Int) = some ((aPass n A).1, mS M (aPass n A).2) := by
  unfold f_162 f_162_L4
  have key := loop_to (b := fun s => f_162_L4b (n : Int) s.1 s.2.1 s.2.2) (fun i => ((aPass i A).1, (i : Int), mS M (aPass i A).2)) n (r := ((aPass n A).1, mS M (aPass n A).2)) (fun i hi => ?_) ?_ (by show n < 1000000; omega)
  · exact key
  · show f_162_L4b (n : Int) (aPass i A).1 (i : Int) (mS M (aPass i A).2) = some (Sum.inl (_, ((i + 1 : Nat) : Int), _))
    unfold f_162_L4b
    rw [wri (n : Int) (by omega) (by omega), wri (i : Int) (by omega) (by omega), if_neg (by omega), m_161 (W_pass hW i)]
    rfl
  · show f_162_L4b (n : Int) (aPass n A).1 (n : Int) (mS M (aPass n A).2) = _
    unfold f_162_L4b
    rw [if_pos (Int.le_refl _)]
end M3
