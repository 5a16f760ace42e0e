/-! MEANING, 19: the class's ticks and small changes -/
section C7
variable {M : xM} {T : Int}
theorem aLoop_sc {A : xM} (hW : WF T A) (h2 : 2 ≤ A 0 0) {k : Nat} (hk : k < 20) (h1 : k ≠ 1) (h9 : k ≠ 9) (h10 : k ≠ 10) : (aLoop A).2 0 k = A 0 k := (WF_move hW h2).2 k hk h1 h9 h10
theorem c_tick {b : Nat} {A : xM} (hb : Tg b = 7) (hR : RC M b A) (hX : WX T A) (n v : Int) (i : Nat) (hi : (i : Int) < n) (hn : n ≤ 99) : ∃ M', f_79_L31b b n (aBy A) v (i : Int) M = some (Sum.inl (v + (aTick A).1, (i : Int) + 1, M')) ∧ CU M b (aTick A).2 M' := by
  have hW := hX.1
  have h0 := hW.1.1
  have h7 := hW.1.2.2.2.2.2.1
  have h61 : wr (f_61 M b) = 0 ↔ ¬ (A 0 0 = 2 ∨ A 0 0 = 3) := by rw [c_61 hR hW]; exact iff_of_eq wr01
  -- behind the move
  have L54 : ∀ (M1 : xM) (B : xM) (U s0 s1 : Int), RC M1 b B → WF U B → B 0 0 = A 0 0 → aBy B = aBy A → (tkr B → WF U (aTakeOn B) ∧ 1 ≤ (aTakeOn B) 0 11) →
      ∃ M', f_79_L54 M1 b n (aBy A) (i : Int) s0 s1 = some (Sum.inl (s0 + s1, (i : Int) + 1, M')) ∧ CU M1 b (if tkr B then (if (if A 0 0 = 1 then 48 else 4 * (aTakeOn B) 0 6) ≤ (aTakeOn B) 0 11 then (if A 0 0 = 1 then aEndFirst (aTakeOn B) else aEndOver (aTakeOn B)) else aTakeOn B) else B) M' := by
    intro M1 B U s0 s1 r1 w1 m1 y1 tk1
    have h60 : wr (f_60 M1 b) = 0 ↔ ¬ tkr B := by rw [c_60 r1 w1]; exact iff_of_eq wr01
    unfold f_79_L54
    by_cases q : tkr B
    · rw [if_neg (fun w => h60.mp w q), if_pos q, bnd_def]
      obtain ⟨w2, w3⟩ := tk1 q
      have c2 := c_takeOn r1 q
      rw [y1] at c2
      have hsT : ∀ k, k ≠ 11 → aTakeOn B 0 k = B 0 k := fun k h => by unfold aTakeOn; rw [xset_j h]
      have qT : tkr (aTakeOn B) := by unfold tkr; rw [hsT 0 (by decide)]; exact q
      have e1 : xset M1 (b + 3) 1 (M1 (b + 3) 1 + aBy A) (b + 3) 1 = (aTakeOn B) 0 11 := (c2.1.2.2 qT).1
      have h11 := w2.1.2.2.2.2.2.2.2.2.2.1
      have e80 : f_80 (xset M1 (b + 3) 1 (M1 (b + 3) 1 + aBy A)) b = some (if A 0 0 = 1 then 48 else 4 * (aTakeOn B) 0 6) := by
        rw [c_80 hb c2.1 w2 qT, hsT 0 (by decide), m1]
      have hb6 : ¬ A 0 0 = 1 → 1 ≤ (aTakeOn B) 0 6 ∧ (aTakeOn B) 0 6 ≤ 24 := fun w => by
        have q3 : (aTakeOn B) 0 0 = 3 := by
          rw [hsT 0 (by decide)]
          rcases q with q | q <;> omega
        have := w2.2.1.2.2.1 (w2.2.1.2.1 (by omega)).1
        omega
      have hb48 : 0 ≤ (if A 0 0 = 1 then (48 : Int) else 4 * (aTakeOn B) 0 6) ∧ (if A 0 0 = 1 then (48 : Int) else 4 * (aTakeOn B) 0 6) ≤ 96 := by
        by_cases w : A 0 0 = 1
        · rw [if_pos w]; omega
        · rw [if_neg w]; have := hb6 w; omega
      rw [e80, Option.bind_some, e1, wri ((aTakeOn B) 0 11) (by omega) (by omega), wri _ (by omega) (by omega)]
      by_cases q2 : (aTakeOn B) 0 11 < (if A 0 0 = 1 then 48 else 4 * (aTakeOn B) 0 6)
      · rw [if_pos q2, if_neg (by omega)]
        exact ⟨_, rfl, c2⟩
      · rw [if_neg q2, if_pos (by omega)]
        by_cases q3 : A 0 0 = 1
        · rw [if_pos q3]
          obtain ⟨M', k1, k2⟩ := c_73a hb c2.1 w2 (by rw [hsT 0 (by decide), m1, q3]) w3
          rw [k1]
          exact ⟨M', rfl, CU_trans c2 k2⟩
        · rw [if_neg q3]
          obtain ⟨M', k1, k2⟩ := c_73b hb c2.1 w2 (by rw [hsT 0 (by decide)]; rcases q with q | q <;> omega) w3
          rw [k1]
          exact ⟨M', rfl, CU_trans c2 k2⟩
    · rw [if_pos (h60.mpr q), if_neg q]
      exact ⟨M1, rfl, r1, fun _ _ => rfl⟩
  unfold f_79_L31b
  rw [wri n (by omega) (by omega), wri (i : Int) (by omega) (by omega), if_neg (by omega)]
  by_cases q04 : A 0 0 = 0 ∨ A 0 0 = 4
  · obtain ⟨M', k1, k2⟩ := L54 M A T v 0 hR hW rfl rfl (fun t => by rcases t with t | t <;> omega)
    rw [if_neg (by unfold tkr; omega)] at k2
    rw [if_pos (h61.mpr (by omega)), aTick_04 q04]
    exact ⟨M', k1, k2⟩
  · by_cases q1 : A 0 0 = 1
    · obtain ⟨w1, w2, w3⟩ := W_takeOn hX (Or.inl q1)
      obtain ⟨M', k1, k2⟩ := L54 M A T v 0 hR hW rfl rfl (fun t => ⟨w1, w2⟩)
      rw [if_pos (Or.inl q1), if_pos q1, if_pos q1] at k2
      rw [if_pos (h61.mpr (by omega)), aTick_1 q1]
      exact ⟨M', k1, k2⟩
    · by_cases q2 : A 0 0 = 2
      · obtain ⟨M1, k1, k2⟩ := c_81 hb hR hW (by omega)
        obtain ⟨w1, w2⟩ := WF_move hW (by omega)
        have e0 := w2 0 (by decide) (by decide) (by decide) (by decide)
        obtain ⟨M', k3, k4⟩ := L54 M1 (aLoop A).2 (T + 2) v (aLoop A).1 k2.1 w1 e0 (by unfold aBy; rw [w2 2 (by decide) (by decide) (by decide) (by decide)]) (fun t => by rcases t with t | t <;> omega)
        rw [if_neg (by unfold tkr; omega)] at k4
        rw [if_neg (fun w => h61.mp w (Or.inl q2)), k1, Option.bind_some, aTick_2 q2]
        exact ⟨M', k3, CU_trans k2 k4⟩
      · have q3 : A 0 0 = 3 := by omega
        obtain ⟨M1, k1, k2⟩ := c_81 hb hR hW (by omega)
        obtain ⟨w1, w2⟩ := WF_move hW (by omega)
        have e0 := w2 0 (by decide) (by decide) (by decide) (by decide)
        obtain ⟨v1, v2, v3⟩ := W_takeOn hX (Or.inr q3)
        obtain ⟨u1, u2⟩ := WF_move v1 (by omega)
        obtain ⟨t1, t2⟩ := aLoop_take (A := A) (by omega)
        obtain ⟨M', k3, k4⟩ := L54 M1 (aLoop A).2 (T + 2) v (aLoop A).1 k2.1 w1 e0 (by unfold aBy; rw [w2 2 (by decide) (by decide) (by decide) (by decide)]) (fun t => by
          rw [← t2]
          exact ⟨u1, by rw [u2 11 (by decide) (by decide) (by decide) (by decide)]; exact v2⟩)
        rw [if_pos (Or.inr (by rw [e0]; exact q3)), if_neg q1, if_neg q1, ← t2] at k4
        rw [if_neg (fun w => h61.mp w (Or.inr q3)), k1, Option.bind_some, aTick_3 q3, t1]
        exact ⟨M', k3, CU_trans k2 k4⟩
theorem aTick_2k {A : xM} (hX : WX T A) : (aTick A).2 0 2 = A 0 2 := by
  have h0 := hX.1.1.1
  have hs : ∀ k, k ≠ 11 → aTakeOn A 0 k = A 0 k := fun k h => by unfold aTakeOn; rw [xset_j h]
  by_cases q04 : A 0 0 = 0 ∨ A 0 0 = 4
  · rw [aTick_04 q04]
  · by_cases q1 : A 0 0 = 1
    · rw [aTick_1 q1]
      show (if 48 ≤ (aTakeOn A) 0 11 then aEndFirst (aTakeOn A) else aTakeOn A) 0 2 = _
      have hm := hX.1.2.1.1 (by omega)
      split
      · unfold aEndFirst aStarts
        rw [xset_j (by decide), xset_j (by decide), xset_j (by decide), xset_j (by decide), aClr_sc (by decide), xset_j (by decide), aLays_sc (by omega), hs 2 (by decide)]
      · exact hs 2 (by decide)
    · by_cases q2 : A 0 0 = 2
      · rw [aTick_2 q2]; exact aLoop_sc hX.1 (by omega) (by decide) (by decide) (by decide) (by decide)
      · have q3 : A 0 0 = 3 := by omega
        obtain ⟨v1, v2, v3⟩ := W_takeOn hX (Or.inr q3)
        rw [aTick_3 q3]
        show aOver (aLoop (aTakeOn A)).2 0 2 = _
        have e : (aLoop (aTakeOn A)).2 0 2 = A 0 2 := by rw [aLoop_sc v1 (by omega) (by decide) (by decide) (by decide) (by decide), hs 2 (by decide)]
        unfold aOver
        split
        · unfold aEndOver
          rw [xset_j (by decide), aClr_sc (by decide)]
          split
          · rw [xset_j (by decide), aLays_sc (by omega)]; exact e
          · rw [aLays_sc (by omega)]; exact e
        · exact e
theorem aPass_by {A : xM} (hX : WX T A) : ∀ n : Nat, aBy (aPass n A).2 = aBy A
  | 0 => rfl
  | n + 1 => by
    have := aTick_2k (W_pass hX n)
    have ih := aPass_by hX n
    unfold aBy at ih ⊢
    show 2 - (aTick (aPass n A).2).2 0 2 = _
    rw [this]; exact ih
theorem c_79L {b : Nat} {A : xM} (hb : Tg b = 7) (hR : RC M b A) (hX : WX T A) (n : Nat) (hn : n ≤ 99) : ∃ M', f_79_L31 b (n : Int) (aBy A) (0, 0, M) = some ((aPass n A).1, M') ∧ CU M b (aPass n A).2 M' := by
  unfold f_79_L31
  have key := loop_inv (b := fun s => f_79_L31b b (n : Int) (aBy A) s.1 s.2.1 s.2.2) (s := ((0 : Int), (0 : Int), M)) (fun i s => s.1 = (aPass i A).1 ∧ s.2.1 = (i : Int) ∧ CU M b (aPass i A).2 s.2.2) (Q := fun r => r.1 = (aPass n A).1 ∧ CU M b (aPass n A).2 r.2) n ⟨rfl, rfl, hR, fun _ _ => rfl⟩ (fun i s hi hs => ?_) (fun s hs => ?_) (by show n < 1000000; omega)
  · obtain ⟨r, k1, k2, k3⟩ := key
    obtain ⟨z, M'⟩ := r
    dsimp only at k2
    exact ⟨M', by rw [k1, k2], k3⟩
  · obtain ⟨v, j, M2⟩ := s
    obtain ⟨rfl, rfl, p2⟩ := hs
    dsimp only at p2
    obtain ⟨M', k1, k2⟩ := c_tick hb p2.1 (W_pass hX i) (n : Int) (aPass i A).1 i (by omega) (by omega)
    rw [aPass_by hX i] at k1
    exact ⟨_, k1, rfl, by show (i : Int) + 1 = ((i + 1 : Nat) : Int); omega, CU_trans p2 k2⟩
  · obtain ⟨v, j, M2⟩ := s
    obtain ⟨rfl, rfl, p2⟩ := hs
    dsimp only at p2
    refine ⟨((aPass n A).1, M2), ?_, rfl, p2⟩
    show f_79_L31b b (n : Int) (aBy A) (aPass n A).1 (n : Int) M2 = _
    unfold f_79_L31b
    rw [if_pos (Int.le_refl _)]
def whyPass (t : Int) : Int := if 1 ≤ t ∧ t ≤ 99 then 0 else -1
theorem c_79 {b : Nat} {A : xM} (hb : Tg b = 7) (hR : RC M b A) (hX : WX T A) {t : Int} (ht : -2147483648 ≤ t ∧ t < 2147483648) : ∃ r, f_79 M b t = some r ∧ AN M b (whyPass t) (aPass t.toNat A).1 (aPass t.toNat A).2 r := by
  have e3 : M b 3 = A 0 2 := hR.1.1
  have h2 := hX.1.1.2.1
  unfold f_79
  rw [wri t ht.1 ht.2, e3]
  by_cases q : 1 ≤ t ∧ t ≤ 99
  · have ew : whyPass t = 0 := by unfold whyPass; rw [if_pos q]
    obtain ⟨M', k1, k2⟩ := c_79L hb hR hX t.toNat (by omega)
    rw [show ((t.toNat : Nat) : Int) = t by omega] at k1
    rw [if_neg (by omega), if_pos q.2, ew]
    rcases h2 with h | h
    · rw [h, if_pos wr0]
      unfold aBy at k1
      rw [h] at k1
      exact ⟨_, k1, Or.inr ⟨rfl, rfl, k2⟩⟩
    · rw [h, if_neg (by decide +kernel)]
      unfold aBy at k1
      rw [h] at k1
      exact ⟨_, k1, Or.inr ⟨rfl, rfl, k2⟩⟩
  · have ew : whyPass t = -1 := by unfold whyPass; rw [if_neg q]
    rw [ew]
    by_cases q1 : t < 1
    · rw [if_pos q1]; exact ⟨_, rfl, Or.inl ⟨by decide, rfl⟩⟩
    · rw [if_neg q1, if_neg (by omega)]; exact ⟨_, rfl, Or.inl ⟨by decide, rfl⟩⟩
theorem c_83 {b : Nat} {A : xM} (hb : Tg b = 7) (hR : RC M b A) (hX : WX T A) : ∃ r, f_83 M b = some r ∧ AN M b (whyPeel A) (A 0 7 - 1) (aPeel A) r := by
  have hW := hX.1
  have h60 : wr (f_60 M b) = 0 ↔ ¬ tkr A := by rw [c_60 hR hW]; exact iff_of_eq wr01
  have e5 : M b 5 = A 0 7 := hR.1.2.2.1
  have e6 : M b 6 = A 0 8 := hR.1.2.2.2.1
  have e7 : M b 7 = A 0 1 := hR.1.2.2.2.2.1
  have h7 := hW.1.2.2.2.2.2.1
  have h1 := hW.1.2.2.2.2.2.2.2.2.2.2.2
  unfold f_83
  by_cases q : tkr A
  · rw [if_neg (fun w => h60.mp w q)]
    have ew : whyPeel A = -2 := by unfold whyPeel; rw [if_pos (Or.inl q)]
    rw [ew]; exact ⟨_, rfl, Or.inl ⟨by decide, rfl⟩⟩
  · rw [if_pos (h60.mpr q), e5, wri (A 0 7) (by omega) (by omega)]
    by_cases q2 : 2 ≤ A 0 7
    · have ew : whyPeel A = 0 := by unfold whyPeel; rw [if_neg (fun w => by rcases w with w | w; exact q w; omega)]
      have hm2 : 2 ≤ A 0 0 := by
        rcases Int.lt_or_le (A 0 0) 2 with w | w
        · have := hW.2.1.1 (by omega); omega
        · exact w
      have hm := hW.2.1.2.1 hm2
      have hle : 1 ≤ aLen A ((A 0 7).toNat - 1) ∧ aLen A ((A 0 7).toNat - 1) ≤ 48 := by
        have a := aLen_b hW (n := (A 0 7).toNat - 1) (by omega)
        have b := aLen_two hW hm.1 (n := (A 0 7).toNat - 1) (by omega) (by omega)
        have c := hW.2.1.2.2.1 hm.1
        omega
      obtain ⟨B, hB⟩ : ∃ B, B = xset (xset A 0 7 (A 0 7 - 1)) 0 8 (A 0 8 + 1) := ⟨_, rfl⟩
      have b7 : B 0 7 = A 0 7 - 1 := by rw [hB, xset_j (by decide), xset_eq]
      have b8 : B 0 8 = A 0 8 + 1 := by rw [hB, xset_eq]
      have bk : ∀ k, k ≠ 7 → k ≠ 8 → B 0 k = A 0 k := fun k a c => by rw [hB, xset_j c, xset_j a]
      have br : ∀ r x, r ≠ 0 → B r x = A r x := fun r x h => by rw [hB, xset_r h, xset_r h]
      obtain ⟨M4, hM4⟩ : ∃ M4, M4 = xset (xset M b 5 (A 0 7 - 1)) b 6 (A 0 8 + 1) := ⟨_, rfl⟩
      have n5 : M4 b 5 = A 0 7 - 1 := by rw [hM4, xset_j (by decide), xset_eq]
      have nk : ∀ k, k ≠ 5 → k ≠ 6 → M4 b k = M b k := fun k a c => by rw [hM4, xset_j c, xset_j a]
      have nr : ∀ r, r ≠ b → M4 r = M r := fun r q => by funext k; rw [hM4, xset_r q, xset_r q]
      have R4 : RC M4 b B := by
        obtain ⟨s1, s2, s3, s4, s5, s6, s7, s8, s9, s10, s11⟩ := hR.1
        refine RC_own hR nr (fun k a c d e f g h i => nk k d e) ?_ ?_ (by rw [n5, b7]) (by rw [hM4, xset_eq, b8]) ?_ ?_ ?_ ?_ (fun k a c d e f g h i => bk k e f) br (bk 0 (by decide) (by decide)) (by rw [b7, b8]; omega)
        · rw [nk 3 (by decide) (by decide), bk 2 (by decide) (by decide)]; exact s1
        · rw [nk 4 (by decide) (by decide), bk 0 (by decide) (by decide)]; exact s2
        · rw [nk 7 (by decide) (by decide), bk 1 (by decide) (by decide)]; exact s5
        · rw [nk 8 (by decide) (by decide), bk 9 (by decide) (by decide)]; exact s6
        · rw [nk 9 (by decide) (by decide), bk 10 (by decide) (by decide)]; exact s7
        · rw [nk 10 (by decide) (by decide), bk 13 (by decide) (by decide)]; exact s8
      have e62 : f_62 M4 b (A 0 7 - 1) = some (aLen A ((A 0 7).toNat - 1)) := by
        have key : f_62 M4 b (((A 0 7).toNat - 1 : Nat) : Int) = some (aLen A ((A 0 7).toNat - 1)) := by
          have RA : ∀ i : Nat, i < 6 → (i : Int) < A 0 7 + A 0 8 → M4 (b + 7 + 3 * i) 1 = A 0 (14 + i) := fun i hi hil => by
            rw [nr _ (by omega)]; exact (hR.2.1 i hi hil).1
          unfold f_62 f_62_L4
          refine loop_to (fun i => (aLen A i, (i : Int))) ((A 0 7).toNat - 1) (fun i hi => ?_) ?_ (by show (A 0 7).toNat - 1 < 1000000; omega)
          · show f_62_L4b M4 b (((A 0 7).toNat - 1 : Nat) : Int) (aLen A i) (i : Int) = _
            have h1 := WF_len hW (i := i) (by omega) (by omega) (WF_lay1 hW (i := i) (by omega))
            have h2 := aLen_b hW (n := i) (by omega)
            unfold f_62_L4b
            rw [wri (((A 0 7).toNat - 1 : Nat) : Int) (by omega) (by omega), wri (i : Int) (by omega) (by omega), if_neg (by omega), c_57 (by omega), if_neg (by omega), gd_pos (gL7 hb i (by omega))]
            unfold xmax f_29
            rw [show b + 6 + 3 * i + 1 = b + 7 + 3 * i by omega, RA i (by omega) (by omega), wri (aLen A i) (by omega) (by omega), wri (A 0 (14 + i)) (by omega) (by omega)]
            rfl
          · show f_62_L4b M4 b (((A 0 7).toNat - 1 : Nat) : Int) (aLen A ((A 0 7).toNat - 1)) (((A 0 7).toNat - 1 : Nat) : Int) = _
            unfold f_62_L4b
            rw [if_pos (Int.le_refl _)]
        rw [show (((A 0 7).toNat - 1 : Nat) : Int) = A 0 7 - 1 by omega] at key
        exact key
      rw [if_pos q2, bnd_def, xset_j (by decide), e6, bnd_def, ← hM4, n5, e62, Option.bind_some, nk 7 (by decide) (by decide), e7, c_134 (by omega) (by omega), bnd_def, xset_j (by decide), n5, ew]
      refine ⟨_, rfl, Or.inr ⟨rfl, rfl, ?_, fun r hr => ?_⟩⟩
      · show RC (xset M4 b 7 (A 0 1 % (2 * aLen A ((A 0 7).toNat - 1)))) b (aPeel A)
        have p1k : aPeel A 0 1 = A 0 1 % (2 * aLen A ((A 0 7).toNat - 1)) := by
          unfold aPeel
          by_cases w : aLen A ((A 0 7).toNat - 1) < aLen A (A 0 7).toNat
          · rw [if_pos w, xset_eq]
          · rw [if_neg w, xset_j (by decide), xset_j (by decide), Int.emod_eq_of_lt (by omega) (by omega)]
        have pk : ∀ k, k ≠ 1 → aPeel A 0 k = B 0 k := fun k a => by
          rw [hB]
          unfold aPeel
          split
          · rw [xset_j a]
          · rfl
        have pr : ∀ r x, r ≠ 0 → aPeel A r x = B r x := fun r x a => by
          rw [hB]
          unfold aPeel
          split
          · rw [xset_r a]
          · rfl
        obtain ⟨s1, s2, s3, s4, s5, s6, s7, s8, s9, s10, s11⟩ := R4.1
        refine RC_own R4 (fun r h => funext fun k => xset_r h) (fun k a c d e f g h i => xset_j f) ?_ ?_ ?_ ?_ (by rw [xset_eq, p1k]) ?_ ?_ ?_ (fun k a c d e f g h i => pk k c) pr (pk 0 (by decide)) (by rw [pk 7 (by decide), pk 8 (by decide)]; exact Int.le_refl _)
        · rw [xset_j (by decide), pk 2 (by decide)]; exact s1
        · rw [xset_j (by decide), pk 0 (by decide)]; exact s2
        · rw [xset_j (by decide), pk 7 (by decide)]; exact s3
        · rw [xset_j (by decide), pk 8 (by decide)]; exact s4
        · rw [xset_j (by decide), pk 9 (by decide)]; exact s6
        · rw [xset_j (by decide), pk 10 (by decide)]; exact s7
        · rw [xset_j (by decide), pk 13 (by decide)]; exact s8
      · show xset M4 b 7 _ r = M r
        rw [← nr r (by omega)]; funext k; exact xset_r (by omega)
    · rw [if_neg q2]
      have ew : whyPeel A = -2 := by unfold whyPeel; rw [if_pos (Or.inr (by omega))]
      rw [ew]; exact ⟨_, rfl, Or.inl ⟨by decide, rfl⟩⟩
theorem c_84 {b : Nat} {A : xM} (hR : RC M b A) (hX : WX T A) : AN M b (whyBack A) (A 0 7 + 1) (aBack A) (f_84 M b) := by
  have hW := hX.1
  have h60 : wr (f_60 M b) = 0 ↔ ¬ tkr A := by rw [c_60 hR hW]; exact iff_of_eq wr01
  have e5 : M b 5 = A 0 7 := hR.1.2.2.1
  have e6 : M b 6 = A 0 8 := hR.1.2.2.2.1
  have h7 := hW.1.2.2.2.2.2.1
  unfold f_84
  by_cases q : tkr A
  · rw [if_neg (fun w => h60.mp w q)]
    have ew : whyBack A = -2 := by unfold whyBack; rw [if_pos (Or.inl q)]
    rw [ew]; exact Or.inl ⟨by decide, rfl⟩
  · rw [if_pos (h60.mpr q), e6, wri (A 0 8) (by omega) (by omega)]
    by_cases q2 : A 0 8 = 0
    · rw [if_pos q2]
      have ew : whyBack A = -2 := by unfold whyBack; rw [if_pos (Or.inr q2)]
      rw [ew]; exact Or.inl ⟨by decide, rfl⟩
    · have ew : whyBack A = 0 := by unfold whyBack; rw [if_neg (fun w => by rcases w with w | w; exact q w; exact q2 w)]
      have b7 : aBack A 0 7 = A 0 7 + 1 := by unfold aBack; rw [xset_j (by decide), xset_eq]
      have b8 : aBack A 0 8 = A 0 8 - 1 := by unfold aBack; rw [xset_eq]
      have bk : ∀ k, k ≠ 7 → k ≠ 8 → aBack A 0 k = A 0 k := fun k a c => by unfold aBack; rw [xset_j c, xset_j a]
      have br : ∀ r x, r ≠ 0 → aBack A r x = A r x := fun r x h => by unfold aBack; rw [xset_r h, xset_r h]
      obtain ⟨M4, hM4⟩ : ∃ M4, M4 = xset (xset M b 5 (A 0 7 + 1)) b 6 (A 0 8 - 1) := ⟨_, rfl⟩
      have n5 : M4 b 5 = A 0 7 + 1 := by rw [hM4, xset_j (by decide), xset_eq]
      have nk : ∀ k, k ≠ 5 → k ≠ 6 → M4 b k = M b k := fun k a c => by rw [hM4, xset_j c, xset_j a]
      have nr : ∀ r, r ≠ b → M4 r = M r := fun r q => by funext k; rw [hM4, xset_r q, xset_r q]
      rw [if_neg q2, bnd_def, e5, xset_j (by decide), e6, bnd_def, ← hM4, n5, ew]
      refine Or.inr ⟨rfl, rfl, ?_, fun r hr => nr r (by omega)⟩
      show RC M4 b (aBack A)
      obtain ⟨s1, s2, s3, s4, s5, s6, s7, s8, s9, s10, s11⟩ := hR.1
      refine RC_own hR nr (fun k a c d e f g h i => nk k d e) ?_ ?_ (by rw [b7]; exact n5) (by show M4 b 6 = _; rw [hM4, xset_eq, b8]) ?_ ?_ ?_ ?_ (fun k a c d e f g h i => bk k e f) br (bk 0 (by decide) (by decide)) (by rw [b7, b8]; omega)
      · rw [nk 3 (by decide) (by decide), bk 2 (by decide) (by decide)]; exact s1
      · rw [nk 4 (by decide) (by decide), bk 0 (by decide) (by decide)]; exact s2
      · rw [nk 7 (by decide) (by decide), bk 1 (by decide) (by decide)]; exact s5
      · rw [nk 8 (by decide) (by decide), bk 9 (by decide) (by decide)]; exact s6
      · rw [nk 9 (by decide) (by decide), bk 10 (by decide) (by decide)]; exact s7
      · rw [nk 10 (by decide) (by decide), bk 13 (by decide) (by decide)]; exact s8
theorem c_86 {b : Nat} {A : xM} (hR : RC M b A) (hX : WX T A) : AN M b 0 (1 - A 0 2) (aSpeed A) (f_86 M b) := by
  have h2 := hX.1.1.2.1
  have e3 : M b 3 = A 0 2 := hR.1.1
  have a2 : aSpeed A 0 2 = 1 - A 0 2 := by unfold aSpeed; rw [xset_eq]
  have ak : ∀ k, k ≠ 2 → aSpeed A 0 k = A 0 k := fun k a => by unfold aSpeed; rw [xset_j a]
  have ar : ∀ r x, r ≠ 0 → aSpeed A r x = A r x := fun r x a => by unfold aSpeed; rw [xset_r a]
  have fin : CU M b (aSpeed A) (xset M b 3 (1 - A 0 2)) := by
    refine ⟨?_, fun r hr => funext fun k => xset_r (by omega)⟩
    obtain ⟨s1, s2, s3, s4, s5, s6, s7, s8, s9, s10, s11⟩ := hR.1
    refine RC_own hR (fun r h => funext fun k => xset_r h) (fun k a c d e f g h i => xset_j a) (by rw [xset_eq, a2]) ?_ ?_ ?_ ?_ ?_ ?_ ?_ (fun k a c d e f g h i => ak k d) ar (ak 0 (by decide)) (by rw [ak 7 (by decide), ak 8 (by decide)]; exact Int.le_refl _)
    · rw [xset_j (by decide), ak 0 (by decide)]; exact s2
    · rw [xset_j (by decide), ak 7 (by decide)]; exact s3
    · rw [xset_j (by decide), ak 8 (by decide)]; exact s4
    · rw [xset_j (by decide), ak 1 (by decide)]; exact s5
    · rw [xset_j (by decide), ak 9 (by decide)]; exact s6
    · rw [xset_j (by decide), ak 10 (by decide)]; exact s7
    · rw [xset_j (by decide), ak 13 (by decide)]; exact s8
  unfold f_86
  rw [e3]
  rcases h2 with h | h
  · rw [h] at fin ⊢
    rw [if_pos wr0, bnd_def, xset_eq, if_neg (by decide +kernel)]
    exact Or.inr ⟨rfl, rfl, fin⟩
  · rw [h] at fin ⊢
    rw [if_neg (by decide +kernel), bnd_def, xset_eq, if_pos wr0]
    exact Or.inr ⟨rfl, rfl, fin⟩
def whyMute (A : xM) (l : Int) : Int := if 0 ≤ l ∧ l < A 0 7 then 0 else -1
theorem c_85 {b : Nat} {A : xM} (hb : Tg b = 7) (hR : RC M b A) (hX : WX T A) {l : Int} (hl : -2147483648 ≤ l ∧ l < 2147483648) : ∃ r, f_85 M b l = some r ∧ AN M b (whyMute A l) (1 - A 0 (20 + l.toNat)) (aMute A l.toNat) r := by
  have hW := hX.1
  have h7 := hW.1.2.2.2.2.2.1
  unfold f_85
  rw [c_58 hR hW l, wri l hl.1 hl.2]
  by_cases q : 0 ≤ l ∧ l < A 0 7
  · have ew : whyMute A l = 0 := by unfold whyMute; rw [if_pos q]
    obtain ⟨i, hi⟩ : ∃ i : Nat, l = (i : Int) := ⟨l.toNat, by omega⟩
    subst hi
    rw [if_pos q, if_neg (by omega), Int.toNat_natCast, gd_pos (gL7 hb i (by omega)), ew]
    have hl1 := hR.2.1 i (by omega) (by omega)
    have hm := (hW.2.2.1 i (by omega) (by omega)).2.1
    have ae : aMute A i 0 (20 + i) = 1 - A 0 (20 + i) := by unfold aMute; rw [xset_eq]
    have ak : ∀ k, k ≠ 20 + i → aMute A i 0 k = A 0 k := fun k a => by unfold aMute; rw [xset_j a]
    have ar : ∀ r x, r ≠ 0 → aMute A i r x = A r x := fun r x a => by unfold aMute; rw [xset_r a]
    have fin : CU M b (aMute A i) (xset M (b + 6 + 3 * i) 1 (1 - A 0 (20 + i))) := by
      have ne : ∀ r, r ≠ b + 6 + 3 * i → xset M (b + 6 + 3 * i) 1 (1 - A 0 (20 + i)) r = M r := fun r h => funext fun k => xset_r h
      refine ⟨⟨?_, fun j hj hjl => ?_, fun q => ?_⟩, fun r hr => ne r (by omega)⟩
      · have := hR.1
        unfold RCs at this ⊢
        rw [ne b (by omega), ne (b + 1) (by omega), ak 0 (by omega), ak 1 (by omega), ak 2 (by omega), ak 3 (by omega), ak 4 (by omega), ak 5 (by omega), ak 7 (by omega), ak 8 (by omega), ak 9 (by omega), ak 10 (by omega), ak 13 (by omega)]
        exact this
      · rw [ak 7 (by omega), ak 8 (by omega)] at hjl
        have lj := hR.2.1 j hj hjl
        unfold RCl at lj ⊢
        rw [ne (b + 7 + 3 * j) (by omega), ne (b + 8 + 3 * j) (by omega), ak (14 + j) (by omega), ak (26 + j) (by omega)]
        refine ⟨lj.1, ?_, ?_, fun x h1 h2 => by rw [ar _ _ (by omega)]; exact lj.2.2.2 x h1 h2⟩
        · by_cases w : j = i
          · subst w; rw [xset_eq, ae]
          · rw [ne _ (by omega), ak _ (by omega)]; exact lj.2.1
        · rw [xset_j (by decide)]; exact lj.2.2.1
      · unfold tkr at q
        rw [ak 0 (by omega)] at q
        have := hR.2.2 q
        unfold RCt tkc at this ⊢
        rw [ak 0 (by omega), ak 6 (by omega), ak 11 (by omega), ak 12 (by omega), ne (b + 3) (by omega), ne (b + 4) (by omega), ne (b + 5) (by omega)]
        exact ⟨this.1, this.2.1, this.2.2.1, fun x h1 h2 => by rw [ar 7 x (by decide)]; exact this.2.2.2 x h1 h2⟩
    rw [hl1.2.1]
    rcases hm with h | h
    · rw [h] at fin ⊢
      rw [if_pos wr0, bnd_def, xset_eq, if_neg (by decide +kernel)]
      exact ⟨_, rfl, Or.inr ⟨rfl, rfl, fin⟩⟩
    · rw [h] at fin ⊢
      rw [if_neg (by decide +kernel), bnd_def, xset_eq, if_pos wr0]
      exact ⟨_, rfl, Or.inr ⟨rfl, rfl, fin⟩⟩
  · have ew : whyMute A l = -1 := by unfold whyMute; rw [if_neg q]
    rw [if_neg q, if_pos rfl, ew]
    exact ⟨_, rfl, Or.inl ⟨by decide, rfl⟩⟩
end C7
