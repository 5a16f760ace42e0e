/-! P36, 3: a layer told from its notes; a cell, key by key -/
section KI
variable {M A : xM} {T : Int} {P : Nat → xM} {n o : Nat} {S : xM} {sv : Int}
theorem p_layer (hT : T < 1000000000) (hR : RC M 2 A) (hX : WX T A) {i : Nat} (hi : (i : Int) < A 0 7) : f_303 M (i : Int) = some 1 := by
  have hW := hX.1
  have h7 := hW.1.2.2.2.2.2.1
  have hlen := WF_len hW (i := i) (by omega) (by omega) (by omega)
  have htwo := (hW.2.2.1 i (by omega) (by omega)).1
  have h26 := (hW.2.2.1 i (by omega) (by omega)).2.2
  have h6 := hW.2.1.2.2.1 (by omega)
  have hF : ∀ x, x < 36 * (A 0 (14 + i)).toNat → 0 ≤ A (i + 1) x ∧ A (i + 1) x ≤ 99 := fun x hx => hW.2.2.2.1 i x (by omega) (by omega)
  have hM : ∀ k, k ≤ 36 * (A 0 (14 + i)).toNat → 0 ≤ maxN k (A (i + 1)) ∧ maxN k (A (i + 1)) ≤ 99 := fun k hk => maxN_b (by decide) k (fun j hj => (hF j (by omega)).2)
  have loop : f_303_L46 M (i : Int) (A 0 (14 + i)) (0, 0, 0, 0) = some 1 := by
    unfold f_303_L46
    have key := loop_to (b := fun s => f_303_L46b M (i : Int) (A 0 (14 + i)) s.1 s.2.1 s.2.2.1 s.2.2.2) (fun k => (sumN k (pos1 (A (i + 1))), sumN k (A (i + 1)), maxN k (A (i + 1)), (k : Int))) (36 * (A 0 (14 + i)).toNat) (r := (1 : Int)) (fun k hk => ?_) ?_ (by show 36 * (A 0 (14 + i)).toNat < 1000000; omega)
    · exact key
    · show f_303_L46b M (i : Int) (A 0 (14 + i)) (sumN k (pos1 (A (i + 1)))) (sumN k (A (i + 1))) (maxN k (A (i + 1))) (k : Int) = some (Sum.inl (sumN k (pos1 (A (i + 1))) + (if 0 < A (i + 1) k then 1 else 0), sumN k (A (i + 1)) + A (i + 1) k, (if maxN k (A (i + 1)) < A (i + 1) k then A (i + 1) k else maxN k (A (i + 1))), (k : Int) + 1))
      have d1 : (k : Int).tdiv 36 = ((k / 36 : Nat) : Int) := by rw [Int.tdiv_eq_ediv_of_nonneg (by omega)]; omega
      have d2 : (k : Int).tmod 36 = ((k % 36 : Nat) : Int) := by rw [Int.tmod_eq_emod_of_nonneg (by omega)]; omega
      have h1 := hF k hk
      have h2 := hM k (by omega)
      unfold f_303_L46b f_303_L97
      rw [wri (A 0 (14 + i) * 36) (by omega) (by omega), wri (k : Int) (by omega) (by omega), if_neg (by omega), d1, d2, k_note hR hX hi (by omega) (by omega), Option.bind_some, show 36 * (k / 36) + k % 36 = k by omega, wri (A (i + 1) k) (by omega) (by omega), if_neg (by omega), if_pos (by omega), wri (maxN k (A (i + 1))) (by omega) (by omega)]
      by_cases q : A (i + 1) k ≤ 0
      · have q2 : A (i + 1) k ≤ maxN k (A (i + 1)) := by omega
        rw [if_pos q, if_pos q2, if_neg (show ¬ 0 < A (i + 1) k by omega), if_neg (show ¬ maxN k (A (i + 1)) < A (i + 1) k by omega)]
      · rw [if_neg q, if_pos (show 0 < A (i + 1) k by omega)]
        by_cases q2 : A (i + 1) k ≤ maxN k (A (i + 1))
        · rw [if_pos q2, if_neg (show ¬ maxN k (A (i + 1)) < A (i + 1) k by omega)]
        · rw [if_neg q2, if_pos (show maxN k (A (i + 1)) < A (i + 1) k by omega)]
    · show f_303_L46b M (i : Int) (A 0 (14 + i)) (sumN (36 * (A 0 (14 + i)).toNat) (pos1 (A (i + 1)))) (sumN (36 * (A 0 (14 + i)).toNat) (A (i + 1))) (maxN (36 * (A 0 (14 + i)).toNat) (A (i + 1))) ((36 * (A 0 (14 + i)).toNat : Nat) : Int) = some (Sum.inr 1)
      unfold f_303_L46b
      rw [wri (A 0 (14 + i) * 36) (by omega) (by omega), wri ((36 * (A 0 (14 + i)).toNat : Nat) : Int) (by omega) (by omega), if_pos (by omega), k_l1 hR hX hi, Option.bind_some, if_pos rfl, k_l2 hR hX hi, Option.bind_some, if_pos rfl, k_l3 hR hX hi, Option.bind_some, if_pos rfl, k_l5 hR hX hi, Option.bind_some, wri (A 0 (26 + i)) (by omega) (by omega), if_neg (by omega), k_noteX hR hX hi, Option.bind_some, if_pos (by decide +kernel)]
  unfold f_303
  rw [k_l0 hR hX hi, Option.bind_some, k_c2 hR hX, Option.bind_some, if_neg (show ¬ A 0 7 = 0 by omega), wri (A 0 (14 + i)) (by omega) (by omega), wri (A 0 6) (by omega) (by omega)]
  by_cases q : A 0 (14 + i) = A 0 6
  · rw [if_pos q, if_pos (by omega), loop]
  · rw [if_neg q, Option.bind_some, wri (2 * A 0 6) (by omega) (by omega), if_pos (by omega), if_pos (by omega), loop]
theorem aHeard_0 {c : Nat} : aHeard A c 0 = sumN 36 (pos1 (aRing A (A 0 7).toNat c)) := by unfold aHeard; rw [if_neg (by decide), if_pos rfl]
theorem aHeard_1 {c : Nat} : aHeard A c 1 = sumN 36 (aRing A (A 0 7).toNat c) := by unfold aHeard; rw [if_pos rfl]; rfl
theorem aHeard_w {c : Nat} {w : Int} (h0 : w ≠ 0) (h1 : w ≠ 1) : aHeard A c w = fnd w (aRing A (A 0 7).toNat c) 36 := by unfold aHeard; rw [if_neg h1, if_neg h0]
theorem kup_i (hX : WX T A) : 12 * A 0 2 = (kup A : Int) := by
  have h2 := hX.1.1.2.1
  unfold kup; omega
/-- a key's ring, layer by layer -/
theorem p_cellK (hR : RC M 2 A) (hX : WX T A) {c k : Nat} (hc : (c : Int) < aLen A (A 0 7).toNat) (hk : k < 36) {c3 c4 c5 c6 c7 c8 : Int} {r : (Int × Int × Int × Int × Int × Int × Int × xM) ⊕ (Int × xM)} (h : f_304_L117 M (c : Int) (kup A : Nat) c3 c4 c5 c6 c7 c8 (k : Int) (aRing A (A 0 7).toNat c k) = some r) : f_304_L46 M (c : Int) (kup A : Nat) c3 c4 c5 c6 c7 c8 (k : Int) (0, 0) = some r := by
  have hW := hX.1
  have h7 := hW.1.2.2.2.2.2.1
  have hl := aLen_b hW (n := (A 0 7).toNat) (by omega)
  have hkp := kup_b hW
  unfold f_304_L46
  by_cases q : k + kup A < 36
  · have key := loop_to (b := fun s => f_304_L46b M (c : Int) (kup A : Nat) c3 c4 c5 c6 c7 c8 (k : Int) s.1 s.2) (fun j => (aRing A j c k, (j : Int))) (A 0 7).toNat (r := r) (fun j hj => ?_) ?_ (by show (A 0 7).toNat < 1000000; omega)
    · exact key
    · show f_304_L46b M (c : Int) (kup A : Nat) c3 c4 c5 c6 c7 c8 (k : Int) (aRing A j c k) (j : Int) = some (Sum.inl (aRing A j c k + aAdd A j c k, (j : Int) + 1))
      have hlen := WF_len hW (i := j) (by omega) (by omega) (by omega)
      have hmu := (hW.2.2.1 j (by omega) (by omega)).2.1
      have hcm := Nat.mod_lt c (show 0 < (A 0 (14 + j)).toNat by omega)
      have em : (c : Int).tmod (A 0 (14 + j)) = ((c % (A 0 (14 + j)).toNat : Nat) : Int) := by
        rw [Int.tmod_eq_emod_of_nonneg (by omega), Int.natCast_emod]; congr 1; omega
      unfold f_304_L46b
      rw [k_c3 hR, Option.bind_some, wri (A 0 7) (by omega) (by omega), wri (j : Int) (by omega) (by omega), if_neg (by omega), if_neg (by omega), wri ((k : Int) + (kup A : Nat)) (by omega) (by omega), if_neg (by omega), k_l4 hR hX (by omega), Option.bind_some, wri (A 0 (20 + j)) (by omega) (by omega)]
      unfold aAdd
      by_cases z : A 0 (20 + j) = 1
      · rw [if_pos z, if_neg (show ¬ (A 0 (20 + j) = 0 ∧ k + kup A < 36) by omega)]
      · rw [if_neg z, if_pos (show A 0 (20 + j) = 0 ∧ k + kup A < 36 by omega), k_l0 hR hX (by omega), Option.bind_some, wri (A 0 (14 + j)) (by omega) (by omega), gd_pos (by omega), wri (c : Int) (by omega) (by omega), em, show (k : Int) + (kup A : Nat) = ((k + kup A : Nat) : Int) by omega, k_note hR hX (by omega) (by omega) q, Option.bind_some]
    · show f_304_L46b M (c : Int) (kup A : Nat) c3 c4 c5 c6 c7 c8 (k : Int) (aRing A (A 0 7).toNat c k) (((A 0 7).toNat : Nat) : Int) = some (Sum.inr r)
      unfold f_304_L46b
      rw [k_c3 hR, Option.bind_some, wri (A 0 7) (by omega) (by omega), wri (((A 0 7).toNat : Nat) : Int) (by omega) (by omega), if_pos (by omega), h, Option.bind_some]
  · have e0 : aRing A (A 0 7).toNat c k = 0 := sumN_0 _ (fun i _ => by unfold aAdd; rw [if_neg (fun w => q w.2)])
    rw [e0] at h
    have key := loop_to (b := fun s => f_304_L46b M (c : Int) (kup A : Nat) c3 c4 c5 c6 c7 c8 (k : Int) s.1 s.2) (fun j => ((0 : Int), (j : Int))) 0 (r := r) (fun j hj => absurd hj (Nat.not_lt_zero j)) ?_ (by show 0 < 1000000; omega)
    · exact key
    · show f_304_L46b M (c : Int) (kup A : Nat) c3 c4 c5 c6 c7 c8 (k : Int) 0 ((0 : Nat) : Int) = some (Sum.inr r)
      unfold f_304_L46b
      rw [k_c3 hR, Option.bind_some, wri (A 0 7) (by omega) (by omega), wri ((0 : Nat) : Int) (by omega) (by omega), wri ((k : Int) + (kup A : Nat)) (by omega) (by omega)]
      by_cases z : A 0 7 ≤ ((0 : Nat) : Int)
      · rw [if_pos z, h, Option.bind_some]
      · rw [if_neg z, if_neg (by omega), if_pos (by omega), h, Option.bind_some]
/-- what is gathered of a key -/
theorem p_cellG (hR : RC M 2 A) (hX : WX T A) {c k : Nat} (hc : (c : Int) < aLen A (A 0 7).toNat) (hk : k < 36) {R : Nat → Int} (hRR : R = aRing A (A 0 7).toNat c) : ∃ X, EF M X ∧ f_304_L117 M (c : Int) (kup A : Nat) (sumN k (pos1 R)) (sumN k R) (fnd 2 R k) (fnd 3 R k) (fnd 4 R k) (maxN k R) (k : Int) (R k) = some (Sum.inl (sumN (k + 1) (pos1 R), sumN (k + 1) R, fnd 2 R (k + 1), fnd 3 R (k + 1), fnd 4 R (k + 1), maxN (k + 1) R, (k : Int) + 1, X)) := by
  have h7 := hX.1.1.2.2.2.2.2.1
  have hb : ∀ j, 0 ≤ R j ∧ R j ≤ 594 := fun j => by rw [hRR]; exact aRing_b hX.1 (by omega)
  have hm := maxN_b (f := R) (hi := 594) (by decide) k (fun j _ => (hb j).2)
  have hd := fnd_b (R := R) (w := 3) k
  have hr := hb k
  obtain ⟨X, k1, k2⟩ := k_ring hR hX hc hk
  rw [← hRR] at k1
  refine ⟨X, k2, ?_⟩
  rw [show sumN (k + 1) (pos1 R) = sumN k (pos1 R) + (if 0 < R k then 1 else 0) from rfl, show sumN (k + 1) R = sumN k R + R k from rfl, fnd_2, fnd_3, fnd_4 (by decide) (by decide), show maxN (k + 1) R = (if maxN k R < R k then R k else maxN k R) from rfl]
  unfold f_304_L117 f_304_L142 f_304_L163 f_304_L180 f_304_L182 f_304_L198
  rw [k1, Option.bind_some, if_pos rfl, wri (R k) (by omega) (by omega), wri (maxN k R) (by omega) (by omega), wri (fnd 3 R k) (by omega) (by omega)]
  by_cases q0 : R k ≤ 0
  · have q2 : R k ≤ maxN k R := by omega
    simp only [if_pos q0, if_pos q2, if_neg (show ¬ 0 < R k by omega), if_neg (show ¬ (0 < R k ∧ fnd 3 R k < 0) by omega), if_neg (show ¬ maxN k R < R k by omega)]
  · by_cases q1 : 0 ≤ fnd 3 R k
    · by_cases q2 : R k ≤ maxN k R
      · simp only [if_neg q0, if_pos q1, if_pos q2, if_pos (show 0 < R k by omega), if_neg (show ¬ (0 < R k ∧ fnd 3 R k < 0) by omega), if_neg (show ¬ maxN k R < R k by omega)]
      · simp only [if_neg q0, if_pos q1, if_neg q2, if_pos (show 0 < R k by omega), if_neg (show ¬ (0 < R k ∧ fnd 3 R k < 0) by omega), if_pos (show maxN k R < R k by omega)]
    · by_cases q2 : R k ≤ maxN k R
      · simp only [if_neg q0, if_neg q1, if_pos q2, if_pos (show 0 < R k by omega), if_pos (show (0 < R k ∧ fnd 3 R k < 0) by omega), if_neg (show ¬ maxN k R < R k by omega)]
      · simp only [if_neg q0, if_neg q1, if_neg q2, if_pos (show 0 < R k by omega), if_pos (show (0 < R k ∧ fnd 3 R k < 0) by omega), if_pos (show maxN k R < R k by omega)]
theorem p_cell (hR : RC M 2 A) (hX : WX T A) {c : Nat} (hc : (c : Int) < aLen A (A 0 7).toNat) : ∃ M', f_304 M (c : Int) = some (1, M') ∧ EF M M' := by
  obtain ⟨R, hRR⟩ : ∃ R, R = aRing A (A 0 7).toNat c := ⟨_, rfl⟩
  have h7 := hX.1.1.2.2.2.2.2.1
  have hl := aLen_b hX.1 (n := (A 0 7).toNat) (by omega)
  have key := loop_inv (b := fun s => f_304_L33b (c : Int) (kup A : Nat) s.1 s.2.1 s.2.2.1 s.2.2.2.1 s.2.2.2.2.1 s.2.2.2.2.2.1 s.2.2.2.2.2.2.1 s.2.2.2.2.2.2.2) (s := ((0 : Int), (0 : Int), (-4 : Int), (-4 : Int), (-4 : Int), (0 : Int), (0 : Int), M)) (fun k s => ∃ X, EF M X ∧ s = (sumN k (pos1 R), sumN k R, fnd 2 R k, fnd 3 R k, fnd 4 R k, maxN k R, (k : Int), X)) (Q := fun r => r.1 = 1 ∧ EF M r.2) 36 ⟨M, EF_rf, rfl⟩ (fun k s hk hs => ?_) (fun s hs => ?_) (by show 36 < 1000000; omega)
  · obtain ⟨r, e1, e2, e3⟩ := key
    obtain ⟨z, M'⟩ := r
    dsimp only at e2 e3
    subst e2
    refine ⟨M', ?_, e3⟩
    unfold f_304
    rw [k_c9 hR hX, Option.bind_some, kup_i hX]
    exact e1
  · obtain ⟨X, x1, rfl⟩ := hs
    obtain ⟨X', x2, x3⟩ := p_cellG (EF_RC x1 hR) hX hc hk hRR
    refine ⟨_, ?_, X', EF_tr x1 x2, rfl⟩
    show f_304_L33b (c : Int) (kup A : Nat) (sumN k (pos1 R)) (sumN k R) (fnd 2 R k) (fnd 3 R k) (fnd 4 R k) (maxN k R) (k : Int) X = some (Sum.inl (sumN (k + 1) (pos1 R), sumN (k + 1) R, fnd 2 R (k + 1), fnd 3 R (k + 1), fnd 4 R (k + 1), maxN (k + 1) R, (k : Int) + 1, X'))
    rw [hRR] at x3 ⊢
    unfold f_304_L33b
    rw [wri (k : Int) (by omega) (by omega), if_neg (by omega)]
    exact p_cellK (EF_RC x1 hR) hX hc hk x3
  · obtain ⟨X, x1, rfl⟩ := hs
    obtain ⟨X0, a0, b0⟩ := k_heard (EF_RC x1 hR) hX (w := 0) hc (by decide)
    have y0 := EF_tr x1 b0
    obtain ⟨X1, a1, b1⟩ := k_heard (EF_RC y0 hR) hX (w := 1) hc (by decide)
    have y1 := EF_tr y0 b1
    obtain ⟨X2, a2, b2⟩ := k_heard (EF_RC y1 hR) hX (w := 2) hc (by decide)
    have y2 := EF_tr y1 b2
    obtain ⟨X3, a3, b3⟩ := k_heard (EF_RC y2 hR) hX (w := 3) hc (by decide)
    have y3 := EF_tr y2 b3
    obtain ⟨X4, a4, b4⟩ := k_heard (EF_RC y3 hR) hX (w := 4) hc (by decide)
    have y4 := EF_tr y3 b4
    rw [aHeard_0, ← hRR] at a0
    rw [aHeard_1, ← hRR] at a1
    rw [aHeard_w (by decide) (by decide), ← hRR] at a2 a3 a4
    refine ⟨(1, X4), ?_, rfl, y4⟩
    show f_304_L33b (c : Int) (kup A : Nat) (sumN 36 (pos1 R)) (sumN 36 R) (fnd 2 R 36) (fnd 3 R 36) (fnd 4 R 36) (maxN 36 R) ((36 : Nat) : Int) X = some (Sum.inr (1, X4))
    unfold f_304_L33b
    rw [wri ((36 : Nat) : Int) (by omega) (by omega), if_pos (by omega), a0, Option.bind_some, if_pos rfl, a1, Option.bind_some, if_pos rfl, a2, Option.bind_some, if_pos rfl, a3, Option.bind_some, if_pos rfl, a4, Option.bind_some, if_pos rfl]
end KI
