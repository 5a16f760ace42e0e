/-! MEANING, 15: the class's takes over a loop; press, stop, empty, hit -/
section C4
variable {M : xM} {T : Int}
theorem aLen_two {A : xM} (hW : WF T A) (h1 : 1 ≤ A 0 7) {n : Nat} (hn1 : 1 ≤ n) (hn : (n : Int) ≤ A 0 7 + A 0 8) : aLen A n = A 0 6 ∨ aLen A n = 2 * A 0 6 := by
  have h7 := hW.1.2.2.2.2.2.1
  have h6 := hW.2.1.2.2.1 h1
  have g : A 0 (14 + 0) ≤ aLen A n := maxN_ge (f := fun i => A 0 (14 + i)) n 0 (by omega)
  have g0 : A 0 (14 + 0) = A 0 14 := rfl
  rcases maxN_is (f := fun i => A 0 (14 + i)) n with h | ⟨i, h2, h3⟩
  · have : aLen A n = 0 := h
    omega
  · have h4 := (hW.2.2.1 i (by omega) (by omega)).1
    have : aLen A n = A 0 (14 + i) := h3
    omega
theorem c_62' {b : Nat} {A : xM} (hb : Tg b = 7) (hR : RC M b A) (hW : WF T A) : f_62 M b (M b 5) = some (aLen A (A 0 7).toNat) := by
  have h7 := hW.1.2.2.2.2.2.1
  have e5 : M b 5 = A 0 7 := hR.1.2.2.1
  have := c_62 hb hR hW (A 0 7).toNat (by omega)
  rw [show (((A 0 7).toNat : Nat) : Int) = A 0 7 by omega] at this
  rw [e5, this]
/-- the state behind a take over the loop -/
theorem RC_over {b c on : Nat} {A M1 M2 : xM} (hb : Tg b = 7) (hR : RC M b A) (hW : WF T A) (h0 : A 0 0 = 3)
    (l2 : ∀ i : Nat, (i : Int) < A 0 7 + 1 → RCl M1 b (aLays A c on) i) (l3 : M1 b 5 = A 0 7 + 1) (l4 : M1 b 6 = 0) (l5 : M1 b 10 = A 0 13 + 1)
    (l6 : ∀ k, k ≠ 4 → k ≠ 5 → k ≠ 6 → k ≠ 7 → k ≠ 10 → M1 b k = M b k) (p7 : M1 b 7 = aEndOver A 0 1) (l7 : M1 (b + 1) = M (b + 1)) (l8 : ∀ r, (r < b ∨ b + 24 ≤ r) → M1 r = M r)
    (hE : ∀ k, k ≠ 0 → k ≠ 1 → k ≠ 11 → aEndOver A 0 k = aLays A c on 0 k) (hEr : ∀ r x, r ≠ 0 → r ≠ 7 → aEndOver A r x = aLays A c on r x) (hM2 : M2 = xset M1 b 4 2) : CU M b (aEndOver A) M2 := by
  have h7 := hW.1.2.2.2.2.2.1
  have h75 := hW.2.1.2.2.2.2.1 h0
  have hs := hR.1
  have ne2 : ∀ r, r ≠ b → M2 r = M1 r := fun r q => by
    funext k; rw [hM2, xset_r q]
  have m2 : ∀ k, k ≠ 4 → M2 b k = M1 b k := fun k d => by rw [hM2, xset_j d]
  have sc : ∀ k, k < 14 → k ≠ 7 → k ≠ 8 → k ≠ 13 → k ≠ 0 → k ≠ 1 → k ≠ 11 → aEndOver A 0 k = A 0 k := fun k a b c d e f g => by
    rw [hE k e f g, aLays_sc (by omega)]
  have e0 : aEndOver A 0 0 = 2 := by unfold aEndOver; rw [xset_eq]
  have e7 : aEndOver A 0 7 = A 0 7 + 1 := by rw [hE 7 (by decide) (by decide) (by decide), aLays_7]
  have e8 : aEndOver A 0 8 = 0 := by rw [hE 8 (by decide) (by decide) (by decide), aLays_8]
  refine ⟨⟨?_, fun i hi hil => ?_, fun q => ?_⟩, fun r hr => ?_⟩
  · obtain ⟨s1, s2, s3, s4, s5, s6, s7, s8, s9, s10, s11⟩ := hs
    unfold RCs
    rw [ne2 (b + 1) (by omega), l7, m2 3 (by decide), m2 5 (by decide), m2 6 (by decide), m2 7 (by decide), m2 8 (by decide), m2 9 (by decide), m2 10 (by decide), l3, l4, l5, p7, l6 3 (by decide) (by decide) (by decide) (by decide) (by decide), l6 8 (by decide) (by decide) (by decide) (by decide) (by decide), l6 9 (by decide) (by decide) (by decide) (by decide) (by decide)]
    rw [e0, e7, e8, sc 2 (by decide) (by decide) (by decide) (by decide) (by decide) (by decide) (by decide), sc 3 (by decide) (by decide) (by decide) (by decide) (by decide) (by decide) (by decide), sc 4 (by decide) (by decide) (by decide) (by decide) (by decide) (by decide) (by decide), sc 5 (by decide) (by decide) (by decide) (by decide) (by decide) (by decide) (by decide), sc 9 (by decide) (by decide) (by decide) (by decide) (by decide) (by decide) (by decide), sc 10 (by decide) (by decide) (by decide) (by decide) (by decide) (by decide) (by decide), hE 13 (by decide) (by decide) (by decide), aLays_13]
    exact ⟨s1, by rw [hM2, xset_eq], rfl, rfl, rfl, s6, s7, rfl, s9, s10, s11⟩
  · rw [e7, e8] at hil
    exact RCl_c (A := aLays A c on) (fun k hk => hE k (by omega) (by omega) (by omega)) (fun x => hEr _ x (by omega) (by omega)) (RCl_f (ne2 _ (by omega)) (ne2 _ (by omega)) (ne2 _ (by omega)) (l2 i (by omega)))
  · exfalso
    rcases q with q | q <;> omega
  · rw [ne2 r (by omega)]; exact l8 r hr
theorem c_73b {b : Nat} {A : xM} (hb : Tg b = 7) (hR : RC M b A) (hW : WF T A) (h0 : A 0 0 = 3) (h1 : 1 ≤ A 0 11) : ∃ M', f_73 M b = some (2, M') ∧ CU M b (aEndOver A) M' := by
  have hb1 := (hW.2.1.2.1 (by omega)).1
  have h6 := hW.2.1.2.2.1 hb1
  have h75 := hW.2.1.2.2.2.2.1 h0
  have h7 := hW.1.2.2.2.2.2.1
  have h11 := hW.1.2.2.2.2.2.2.2.2.2.1
  have h12 := hW.1.2.2.2.2.2.2.2.2.2.2.1
  have hl2 := aLen_two hW hb1 (n := (A 0 7).toNat) (by omega) (by omega)
  have ht := hR.2.2 (Or.inr h0)
  have hs := hR.1
  have etk : tkc A = 2 * A 0 6 := by unfold tkc; rw [if_neg (by omega)]
  have e0 : M b 4 = 3 := by rw [hs.2.1, h0]
  have e1 : M (b + 3) 1 = A 0 11 := ht.1
  have e2 : M (b + 3) 2 = A 0 12 := ht.2.1
  have w3 : ¬ wr 3 = 1 := by decide +kernel
  -- the longer layer
  have L80 : (aLen A (A 0 7).toNat = 2 * A 0 6 ∨ 2 * A 0 6 < A 0 11) → ∃ M', f_73_L80 M b (A 0 6) = some (2, M') ∧ CU M b (aEndOver A) M' := by
    intro q
    obtain ⟨M0, hM0⟩ : ∃ M0, M0 = xset M b 7 ((A 0 12 + A 0 11) % (4 * A 0 6)) := ⟨_, rfl⟩
    have ne0 : ∀ r, r ≠ b → M0 r = M r := fun r q => by
      funext k; rw [hM0, xset_r q]
    have m0 : ∀ k, k ≠ 7 → M0 b k = M b k := fun k d => by rw [hM0, xset_j d]
    obtain ⟨M1, l1, l2, l3, l4, l5, l6, l7, l8⟩ := c_74 (M := M0) (b := b) (c := 2 * (A 0 6).toNat) (on := 0) (A := A) hb (by omega) (by omega) (by rw [m0 5 (by decide)]; exact hs.2.2.1) (by rw [m0 10 (by decide)]; exact hs.2.2.2.2.2.2.2.1) (fun x hx => by
      have e := ht.2.2.2 x (by omega) (by rw [etk]; omega)
      have := hW.2.2.2.1 6 x (by decide) (by omega)
      rw [ne0 _ (by omega), e]
      unfold layF
      rw [if_pos rfl, both0 this]) (fun i hi => RCl_f (ne0 _ (by omega)) (ne0 _ (by omega)) (ne0 _ (by omega)) (hR.2.1 i (by omega) (by omega)))
    rw [show ((2 * (A 0 6).toNat : Nat) : Int) = 2 * A 0 6 by omega] at l1
    refine ⟨xset M1 b 4 2, ?_, RC_over (M1 := M1) (c := 2 * (A 0 6).toNat) (on := 0) hb hR hW h0 l2 l3 l4 l5 (fun k a b c d e => by rw [l6 k b c e, m0 k d]) ?_ (by rw [l7 (b + 1) (by omega) (by omega), ne0 _ (by omega)]) (fun r hr => ?_) ?_ ?_ rfl⟩
    · unfold f_73_L80
      rw [e1, e2, c_134 (by omega) (by omega), bnd_def, ← hM0, l1, Option.bind_some, bnd_def, xset_eq]
    · rw [l6 7 (by decide) (by decide) (by decide), hM0, xset_eq]
      unfold aEndOver
      rw [if_pos q, xset_j (by decide), aClr_sc (by decide), xset_eq]
    · rcases hr with h | h
      · rw [l7 r (by omega) (by omega), ne0 r (by omega)]
      · rw [l8 r h, ne0 r (by omega)]
    · intro k a b' c
      unfold aEndOver
      rw [if_pos q, xset_j a, aClr_sc c, xset_j b']
    · intro r x a c
      unfold aEndOver
      rw [if_pos q, xset_r a, aClr_row a c, xset_r a]
  unfold f_73
  rw [e0, e1, wri (A 0 11) (by omega) (by omega), if_neg (by omega), if_neg w3, c_63 hb hR hW hb1, Option.bind_some, c_62' hb hR hW, Option.bind_some, wri (A 0 6) (by omega) (by omega), wri (aLen A (A 0 7).toNat) (by omega) (by omega), wri (2 * A 0 6) (by omega) (by omega)]
  by_cases q1 : A 0 6 < aLen A (A 0 7).toNat
  · rw [if_pos q1]
    exact L80 (Or.inl (by omega))
  · rw [if_neg q1]
    by_cases q2 : A 0 11 ≤ 2 * A 0 6
    · rw [if_pos q2]
      have qn : ¬ (aLen A (A 0 7).toNat = 2 * A 0 6 ∨ 2 * A 0 6 < A 0 11) := by omega
      have etv : ∀ x, x < 72 * (A 0 6).toNat → M (b + 4 + 1) x = A 7 x := fun x hx => by
        rw [show b + 4 + 1 = b + 5 by omega]
        exact ht.2.2.2 x (by omega) (by rw [etk]; omega)
      have e34 := c_34 (M := M) (n := b + 4) (f := (A 0 6).toNat) (by omega) (fun x hx => by rw [etv x hx]; exact hW.2.2.2.1 6 x (by decide) (by omega))
      rw [show (((A 0 6).toNat : Nat) : Int) = A 0 6 by omega] at e34
      obtain ⟨M0, hM0⟩ : ∃ M0, M0 = rowU M (b + 4 + 1) (36 * (A 0 6).toNat) (fun x => both (M (b + 4 + 1) x) (M (b + 4 + 1) (x + 36 * (A 0 6).toNat))) := ⟨_, rfl⟩
      have ne0 : ∀ r, r ≠ b + 5 → M0 r = M r := fun r q => by rw [hM0]; exact rowU_ne (by omega)
      obtain ⟨M1, l1, l2, l3, l4, l5, l6, l7, l8⟩ := c_74 (M := M0) (b := b) (c := (A 0 6).toNat) (on := (A 0 6).toNat) (A := A) hb (by omega) (by omega) (by rw [ne0 b (by omega)]; exact hs.2.2.1) (by rw [ne0 b (by omega)]; exact hs.2.2.2.2.2.2.2.1) (fun x hx => by
        rw [hM0, show b + 5 = b + 4 + 1 by omega, rowU_at hx, etv x (by omega), etv _ (by omega)]
        unfold layF
        rw [if_neg (by omega)]) (fun i hi => RCl_f (ne0 _ (by omega)) (ne0 _ (by omega)) (ne0 _ (by omega)) (hR.2.1 i (by omega) (by omega)))
      rw [show (((A 0 6).toNat : Nat) : Int) = A 0 6 by omega] at l1
      refine ⟨xset M1 b 4 2, ?_, RC_over (M1 := M1) (c := (A 0 6).toNat) (on := (A 0 6).toNat) hb hR hW h0 l2 l3 l4 l5 (fun k a b' c d e => by rw [l6 k b' c e, ne0 b (by omega)]) ?_ (by rw [l7 (b + 1) (by omega) (by omega), ne0 _ (by omega)]) (fun r hr => ?_) ?_ ?_ rfl⟩
      · rw [e34, Option.bind_some, ← hM0, l1, Option.bind_some, bnd_def, xset_eq]
      · rw [l6 7 (by decide) (by decide) (by decide), ne0 b (by omega), hs.2.2.2.2.1]
        unfold aEndOver
        rw [if_neg qn, xset_j (by decide), aClr_sc (by decide), aLays_sc (by omega)]
      · rcases hr with h | h
        · rw [l7 r (by omega) (by omega), ne0 r (by omega)]
        · rw [l8 r h, ne0 r (by omega)]
      · intro k a b' c
        unfold aEndOver
        rw [if_neg qn, xset_j a, aClr_sc c]
      · intro r x a c
        unfold aEndOver
        rw [if_neg qn, xset_r a, aClr_row a c]
    · rw [if_neg q2]
      exact L80 (Or.inr (by omega))
theorem c_73n {b : Nat} {A : xM} (hR : RC M b A) (ht : tkr A) (h1 : A 0 11 = 0) : f_73 M b = some (-2, M) := by
  have e1 : M (b + 3) 1 = A 0 11 := (hR.2.2 ht).1
  unfold f_73
  rw [e1, h1, if_pos wr0]
/-- starts the loop -/
theorem c_72 {b : Nat} {A : xM} (hR : RC M b A) (h4 : A 0 0 = 4) : f_72 M b = (2, (f_72 M b).2) ∧ CU M b (aStarts A) (f_72 M b).2 := by
  have hs := hR.1
  obtain ⟨M2, hM2⟩ : ∃ M2, M2 = xset (xset (xset (xset M b 7 0) b 8 0) b 9 0) b 4 2 := ⟨_, rfl⟩
  have e : f_72 M b = (2, M2) := by
    unfold f_72
    simp only [bnd_def]
    rw [← hM2]
    congr 1
    rw [hM2, xset_eq]
  have ne2 : ∀ r, r ≠ b → M2 r = M r := fun r q => by
    funext k; rw [hM2, xset_r q, xset_r q, xset_r q, xset_r q]
  rw [e]
  refine ⟨rfl, RC_nums hR (fun r a _ => ne2 r a) ?_ ?_ (fun k hk => ?_) (fun r x h1 h2 => ?_) (fun q => ?_), fun r hr => ne2 r (by omega)⟩
  · obtain ⟨s1, s2, s3, s4, s5, s6, s7, s8, s9, s10, s11⟩ := hs
    have m2 : ∀ k, k ≠ 7 → k ≠ 8 → k ≠ 9 → k ≠ 4 → M2 b k = M b k := fun k a b c d => by
      rw [hM2, xset_j d, xset_j c, xset_j b, xset_j a]
    have d2 : ∀ k, k ≠ 0 → k ≠ 1 → k ≠ 9 → k ≠ 10 → aStarts A 0 k = A 0 k := fun k a b c d => by
      unfold aStarts; rw [xset_j d, xset_j c, xset_j b, xset_j a]
    unfold RCs
    show M2 b 3 = _ ∧ M2 b 4 = _ ∧ M2 b 5 = _ ∧ M2 b 6 = _ ∧ M2 b 7 = _ ∧ M2 b 8 = _ ∧ M2 b 9 = _ ∧ M2 b 10 = _ ∧ M2 (b + 1) 0 = _ ∧ M2 (b + 1) 1 = _ ∧ M2 (b + 1) 2 = _
    rw [ne2 (b + 1) (by omega), m2 3 (by decide) (by decide) (by decide) (by decide), m2 5 (by decide) (by decide) (by decide) (by decide), m2 6 (by decide) (by decide) (by decide) (by decide), m2 10 (by decide) (by decide) (by decide) (by decide), d2 2 (by decide) (by decide) (by decide) (by decide), d2 7 (by decide) (by decide) (by decide) (by decide), d2 8 (by decide) (by decide) (by decide) (by decide), d2 13 (by decide) (by decide) (by decide) (by decide), d2 3 (by decide) (by decide) (by decide) (by decide), d2 4 (by decide) (by decide) (by decide) (by decide), d2 5 (by decide) (by decide) (by decide) (by decide)]
    refine ⟨s1, ?_, s3, s4, ?_, ?_, ?_, s8, s9, s10, s11⟩
    · rw [hM2, xset_eq]; unfold aStarts; rw [xset_j (by decide), xset_j (by decide), xset_j (by decide), xset_eq]
    · rw [hM2, xset_j (by decide), xset_j (by decide), xset_j (by decide), xset_eq]; unfold aStarts; rw [xset_j (by decide), xset_j (by decide), xset_eq]
    · rw [hM2, xset_j (by decide), xset_j (by decide), xset_eq]; unfold aStarts; rw [xset_j (by decide), xset_eq]
    · rw [hM2, xset_j (by decide), xset_eq]; unfold aStarts; rw [xset_eq]
  · unfold aStarts; rw [xset_j (by decide), xset_j (by decide), xset_j (by decide), xset_j (by decide), xset_j (by decide), xset_j (by decide), xset_j (by decide), xset_j (by decide)]; exact Int.le_refl _
  · unfold aStarts; rw [xset_j (by omega), xset_j (by omega), xset_j (by omega), xset_j (by omega)]
  · unfold aStarts; rw [xset_r (by omega), xset_r (by omega), xset_r (by omega), xset_r (by omega)]
  · exfalso
    have e0 : aStarts A 0 0 = 2 := by unfold aStarts; rw [xset_j (by decide), xset_j (by decide), xset_j (by decide), xset_eq]
    rcases q with q | q <;> omega
end C4
