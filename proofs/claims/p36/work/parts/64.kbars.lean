/-! P36, 5: bars; the last layer peeled off and put back -/
section KB
variable {M A : xM} {T : Int} {P : Nat → xM} {n o : Nat} {S : xM} {sv : Int}
theorem p_bars (hR : RC M 2 A) (hX : WX T A) {p : Int} (hp : 0 ≤ p ∧ p ≤ 99) : f_306 M p = some 1 := by
  have hW := hX.1
  have h7 := hW.1.2.2.2.2.2.1
  have hb := hW.1.2.2.1
  unfold f_306
  rw [k_c1 hR hX, Option.bind_some, k_c10 hR, Option.bind_some]
  by_cases z : A 0 7 = 0
  · rw [len_0 z, if_pos wr0, k_meets0 hR hX z, Option.bind_some, if_pos (by decide +kernel), k_drift hR hX hp, if_pos z, Option.bind_some, if_pos (by decide +kernel)]
  · obtain ⟨m, m1, m2, m3, m4⟩ := k_meets hR hX z
    have hd := k_drift hR hX hp
    have hd0 := k_drift hR hX (p := 0) (by decide)
    rw [if_neg z] at hd hd0
    have hl := len_pos hX z
    obtain ⟨L, hL⟩ : ∃ L, L = aLen A (A 0 7).toNat := ⟨_, rfl⟩
    rw [← hL] at hl m3 m4 hd hd0 ⊢
    have mb : ∀ i : Nat, i ≤ m → 0 ≤ ((1 + i : Nat) : Int) * L ∧ ((1 + i : Nat) : Int) * L ≤ 1000 := fun i hi => by
      have a : 0 ≤ ((1 + i : Nat) : Int) * L := Int.mul_nonneg (by omega) (by omega)
      have b : ((1 + i : Nat) : Int) * L ≤ 16 * 48 := Int.mul_le_mul (by omega) hl.2 (by omega) (by decide)
      omega
    have eb : ∀ x : Int, 0 ≤ x % A 0 3 ∧ x % A 0 3 < A 0 3 := fun x => ⟨Int.emod_nonneg _ (by omega), Int.emod_lt_of_pos _ (by omega)⟩
    obtain ⟨x, hx⟩ : ∃ x, x = p * L := ⟨_, rfl⟩
    rw [← hx] at hd
    have hxb : 0 ≤ x ∧ x ≤ 5000 := by
      have a : 0 ≤ p * L := Int.mul_nonneg hp.1 (by omega)
      have b : p * L ≤ 99 * 48 := Int.mul_le_mul hp.2 hl.2 (by omega) (by decide)
      omega
    have hu := unt_b (x := x) (d := A 0 3) (by omega)
    have e00 : unt (0 * L) (A 0 3) = 0 := by unfold unt; rw [Int.zero_mul, if_pos (Int.zero_emod _)]
    rw [e00, if_pos (show (0 : Int) < L by omega)] at hd0
    have h164 : ∀ u : Int, f_306_L164 M u u = some 1 := fun u => by
      unfold f_306_L164
      rw [if_pos rfl, hd0, Option.bind_some, if_pos wr0]
    have h139 : f_306_L139 M p L 1 (unt x (A 0 3)) = some 1 := by
      unfold f_306_L139
      rw [if_neg (by decide +kernel), hd, Option.bind_some, wri L (by omega) (by omega), wri (unt x (A 0 3)) (by omega) (by omega)]
      by_cases q : L ≤ unt x (A 0 3)
      · rw [if_pos q, if_neg (show ¬ unt x (A 0 3) < L by omega)]; exact h164 _
      · rw [if_neg q, if_pos (show unt x (A 0 3) < L by omega)]; exact h164 _
    have h119 : f_306_L119 M p L (A 0 3) 1 = some 1 := by
      have ex := eb x
      unfold f_306_L119
      rw [wri (A 0 3) (by omega) (by omega), gd_pos (by omega), ← hx, wri x (by omega) (by omega), Int.tmod_eq_emod_of_nonneg hxb.1, wri (x % A 0 3) (by omega) (by omega)]
      by_cases q : x % A 0 3 = 0
      · have e : unt x (A 0 3) = 0 := by unfold unt; rw [if_pos q]
        rw [e] at h139
        rw [if_pos q, h139]
      · have e : unt x (A 0 3) = A 0 3 - x % A 0 3 := by unfold unt; rw [if_neg q]
        rw [e] at h139
        rw [if_neg q, h139]
    have h78 : f_306_L78 M p L (A 0 3) ((1 + m : Nat) : Int) (1, 1) = some 1 := by
      unfold f_306_L78
      have key := loop_to (b := fun s => f_306_L78b M p L (A 0 3) ((1 + m : Nat) : Int) s.1 s.2) (fun j => ((1 : Int), ((1 + j : Nat) : Int))) m (r := (1 : Int)) (fun j hj => ?_) ?_ (by show m < 1000000; omega)
      · exact key
      · show f_306_L78b M p L (A 0 3) ((1 + m : Nat) : Int) 1 ((1 + j : Nat) : Int) = some (Sum.inl (1, ((1 + (j + 1) : Nat) : Int)))
        have a := mb j (by omega)
        have b := eb (((1 + j : Nat) : Int) * L)
        unfold f_306_L78b
        rw [wri ((1 + m : Nat) : Int) (by omega) (by omega), wri ((1 + j : Nat) : Int) (by omega) (by omega), if_neg (by omega), if_neg (by omega), if_neg (by decide +kernel), wri (A 0 3) (by omega) (by omega), gd_pos (by omega), wri (((1 + j : Nat) : Int) * L) (by omega) (by omega), Int.tmod_eq_emod_of_nonneg a.1, wri ((((1 + j : Nat) : Int) * L) % A 0 3) (by omega) (by omega), if_neg (m4 j hj)]
        congr 2
      · show f_306_L78b M p L (A 0 3) ((1 + m : Nat) : Int) 1 ((1 + m : Nat) : Int) = some (Sum.inr 1)
        unfold f_306_L78b
        rw [if_pos (Int.le_refl _), h119, Option.bind_some]
    have a := mb m (Nat.le_refl _)
    rw [wri L (by omega) (by omega), if_neg (by omega), m1, Option.bind_some, wri ((1 + m : Nat) : Int) (by omega) (by omega), if_neg (by omega), wri (A 0 3) (by omega) (by omega), if_neg (by omega), gd_pos (by omega), wri (((1 + m : Nat) : Int) * L) (by omega) (by omega), Int.tmod_eq_emod_of_nonneg a.1, m3, if_pos wr0, h78]
/-- what sounds the same -/
def sameS (A B : xM) : Prop := (∀ r x, r ≠ 0 → B r x = A r x) ∧ B 0 2 = A 0 2 ∧ ∀ j, 14 ≤ j → B 0 j = A 0 j
theorem sameS_add {A B : xM} (h : sameS A B) (i c key : Nat) : aAdd B i c key = aAdd A i c key := by
  obtain ⟨h1, h2, h3⟩ := h
  unfold aAdd kup
  rw [h2, h3 (20 + i) (by omega), h3 (14 + i) (by omega), h1 _ _ (by omega)]
theorem sameS_sum {A B : xM} (h : sameS A B) (k c : Nat) : aSum B k c = aSum A k c := sumN_c 36 (fun key _ => sumN_c k (fun i _ => sameS_add h i c key))
theorem sameS_len {A B : xM} (h : sameS A B) (k : Nat) : aLen B k = aLen A k := maxN_c k (fun i _ => h.2.2 (14 + i) (by omega))
theorem sameS_all {A B : xM} (h : sameS A B) (k : Nat) : aAll B k = aAll A k := by
  unfold aAll
  rw [sameS_len h]
  exact sumN_c _ (fun c _ => sameS_sum h k c)
theorem sameS_tr {A B C : xM} (h : sameS A B) (k : sameS B C) : sameS A C := ⟨fun r x z => (k.1 r x z).trans (h.1 r x z), k.2.1.trans h.2.1, fun j z => (k.2.2 j z).trans (h.2.2 j z)⟩
theorem peel_is : sameS A (aPeel A) ∧ aPeel A 0 0 = A 0 0 ∧ aPeel A 0 7 = A 0 7 - 1 ∧ aPeel A 0 8 = A 0 8 + 1 ∧ aPeel A 0 1 = (if aLen A ((A 0 7).toNat - 1) < aLen A (A 0 7).toNat then A 0 1 % (2 * aLen A ((A 0 7).toNat - 1)) else A 0 1) := by
  unfold aPeel
  by_cases q : aLen A ((A 0 7).toNat - 1) < aLen A (A 0 7).toNat
  · rw [if_pos q, if_pos q]
    refine ⟨⟨fun r x h => ?_, ?_, fun j h => ?_⟩, ?_, ?_, ?_, ?_⟩
    · rw [xset_r h, xset_r h, xset_r h]
    · rw [xset_j (by decide), xset_j (by decide), xset_j (by decide)]
    · rw [xset_j (by omega), xset_j (by omega), xset_j (by omega)]
    · rw [xset_j (by decide), xset_j (by decide), xset_j (by decide)]
    · rw [xset_j (by decide), xset_j (by decide), xset_eq]
    · rw [xset_j (by decide), xset_eq]
    · rw [xset_eq]
  · rw [if_neg q, if_neg q]
    refine ⟨⟨fun r x h => ?_, ?_, fun j h => ?_⟩, ?_, ?_, ?_, ?_⟩
    · rw [xset_r h, xset_r h]
    · rw [xset_j (by decide), xset_j (by decide)]
    · rw [xset_j (by omega), xset_j (by omega)]
    · rw [xset_j (by decide), xset_j (by decide)]
    · rw [xset_j (by decide), xset_eq]
    · rw [xset_eq]
    · rw [xset_j (by decide), xset_j (by decide)]
theorem back_is : sameS A (aBack A) ∧ aBack A 0 0 = A 0 0 ∧ aBack A 0 7 = A 0 7 + 1 ∧ aBack A 0 8 = A 0 8 - 1 := by
  unfold aBack
  refine ⟨⟨fun r x h => ?_, ?_, fun j h => ?_⟩, ?_, ?_, ?_⟩
  · rw [xset_r h, xset_r h]
  · rw [xset_j (by decide), xset_j (by decide)]
  · rw [xset_j (by omega), xset_j (by omega)]
  · rw [xset_j (by decide), xset_j (by decide)]
  · rw [xset_j (by decide), xset_eq]
  · rw [xset_eq]
theorem push_last {P : Nat → xM} {n : Nat} {A : xM} (hn : n ≤ 4) : 1 ≤ pushN n ∧ pushN n ≤ 4 ∧ pushP P n A (pushN n - 1) = A := by
  unfold pushN pushP
  by_cases q : n < 4
  · rw [if_pos q, if_pos q]
    exact ⟨by omega, by omega, if_pos (by omega)⟩
  · rw [if_neg q, if_neg q]
    exact ⟨by omega, by omega, if_pos (by omega)⟩
theorem push_prev {P : Nat → xM} {n : Nat} {B : xM} (h1 : 1 ≤ n) (hn : n ≤ 4) : ∃ m, pushN n = m + 1 + 1 ∧ pushP P n B (m + 1) = B ∧ pushP P n B m = P (n - 1) := by
  unfold pushN pushP
  by_cases q : n < 4
  · rw [if_pos q, if_pos q]
    exact ⟨n - 1, by omega, if_pos (by omega), if_neg (by omega)⟩
  · rw [if_neg q, if_neg q]
    refine ⟨2, rfl, if_pos rfl, ?_⟩
    show (if 2 = 3 then B else P (2 + 1)) = P (n - 1)
    rw [if_neg (by decide)]
    congr 1; omega
/-- the class's object, whatever its past -/
def KXe (T : Int) (M : xM) : Prop := ∃ A P n o S sv, KX T M A P n o S sv
theorem KXe_mono {U : Int} {M : xM} (h : KXe T M) (ht : T ≤ U) : KXe U M := by
  obtain ⟨A, P, n, o, S, sv, h⟩ := h
  exact ⟨A, P, n, o, S, sv, KX_mono h ht⟩
theorem p_back (h : KX T M A P n o S sv) : ∃ M', f_307 M = some (1, M') ∧ KXe (T + 12200) M' := by
  have hR := h.1
  have hX := h.2.2.1
  have hW := hX.1
  have h7 := hW.1.2.2.2.2.2.1
  have hm := hW.1.1
  have bad : whyPeel A = -2 → ∃ M', f_307_L22 M = some (1, M') ∧ KXe (T + 12200) M' := fun w => by
    obtain ⟨r, k1, k2⟩ := k_peel h
    rcases k2 with ⟨_, e, k⟩ | ⟨e, _⟩
    · refine ⟨r.2, ?_, KXe_mono ⟨A, P, n, o, S, sv, k⟩ (by omega)⟩
      unfold f_307_L22
      rw [k1, Option.bind_some, e, w, if_pos (by decide +kernel)]
    · omega
  unfold f_307
  rw [k_c3 hR, Option.bind_some, k_c0 hR, Option.bind_some, wri (A 0 7) (by omega) (by omega), wri (A 0 0) (by omega) (by omega)]
  by_cases q1 : A 0 7 < 2
  · rw [if_pos q1]
    exact bad (by unfold whyPeel; rw [if_pos (Or.inr q1)])
  rw [if_neg q1]
  by_cases q2 : A 0 0 = 3
  · rw [if_pos q2]
    exact bad (by unfold whyPeel; rw [if_pos (Or.inl (Or.inr q2))])
  rw [if_neg q2]
  have hmode : 2 ≤ A 0 0 := by
    rcases Int.lt_or_le (A 0 0) 2 with q | q
    · have := hW.2.1.1 (by omega); omega
    · exact q
  have ht : ¬ tkr A := fun w => by rcases w with w | w <;> omega
  have wp : whyPeel A = 0 := by unfold whyPeel; rw [if_neg (fun w => by rcases w with w | w; exact ht w; omega)]
  obtain ⟨k, hk⟩ : ∃ k : Nat, A 0 7 = ((k + 1 : Nat) : Int) := ⟨(A 0 7).toNat - 1, by omega⟩
  have hkt : (A 0 7).toNat = k + 1 := by omega
  have hk1 : A 0 7 - 1 = (k : Int) := by omega
  have hlk := aLen_b hW (n := k) (by omega)
  have hlk1 := aLen_b hW (n := k + 1) (by omega)
  have hp1 := len_pos hX (by omega)
  rw [hkt] at hp1
  have hplen : 1 ≤ aLen A k := by
    have a := maxN_ge (f := fun j => A 0 (14 + j)) k 0 (by omega)
    have b := WF_len hW (i := 0) (by omega) (by omega) (by omega)
    have a : A 0 (14 + 0) ≤ aLen A k := a
    omega
  have hpl := (hW.2.1.2.1 hmode).2
  rw [hkt] at hpl
  have hpl0 := hW.1.2.2.2.2.2.2.2.2.2.2.2
  -- before
  obtain ⟨X1, a1, b1⟩ := k_if1 hR hX (k := k + 1) ⟨by omega, by omega⟩
  have y1 := b1
  have h1 := KX_EF y1 h
  have a2 := k_if0 h1.1 hX (k := k) ⟨by omega, by omega⟩
  obtain ⟨X2, a3, b3⟩ := k_if1 h1.1 hX (k := k) ⟨by omega, by omega⟩
  have h2 := KX_EF (EF_tr y1 b3) h
  have a4 := k_l1 h2.1 hX (i := k) (by omega)
  have a5 := k_l4 h2.1 hX (i := k) (by omega)
  -- peeled off
  obtain ⟨r, p1, p2⟩ := k_peel h2
  obtain ⟨_, e1, h3⟩ : whyPeel A = 0 ∧ r.1 = A 0 7 - 1 ∧ KX (T + 6100) r.2 (aPeel A) (pushP P n A) (pushN n) (pushO o n) S sv := by
    rcases p2 with ⟨w, _⟩ | w
    · omega
    · exact w
  obtain ⟨sB, B0, B7, B8, B1⟩ := peel_is (A := A)
  rw [hkt, show k + 1 - 1 = k from rfl] at B1
  have hXB := h3.2.2.1
  have hBt : (aPeel A 0 7).toNat = k := by rw [B7]; omega
  obtain ⟨X3, c1, d1⟩ := k_if1 h3.1 hXB (k := k) ⟨by omega, by rw [B7]; omega⟩
  rw [sameS_all sB] at c1
  have h4 := KX_EF d1 h3
  -- put back
  obtain ⟨s, u1, u2⟩ := k_back h4
  have htB : ¬ tkr (aPeel A) := fun w => ht (by unfold tkr at w ⊢; rw [B0] at w; exact w)
  have wb : whyBack (aPeel A) = 0 := by unfold whyBack; rw [if_neg (fun w => by rcases w with w | w; exact htB w; omega)]
  obtain ⟨_, e2, h5⟩ : whyBack (aPeel A) = 0 ∧ s.1 = aPeel A 0 7 + 1 ∧ KX (T + 6100 + 6100) s.2 (aBack (aPeel A)) (pushP (pushP P n A) (pushN n) (aPeel A)) (pushN (pushN n)) (pushO (pushO o n) (pushN n)) S sv := by
    rcases u2 with ⟨w, _⟩ | w
    · omega
    · exact w
  obtain ⟨sC, C0, C7, C8⟩ := back_is (A := aPeel A)
  have sAC := sameS_tr sB sC
  have hXC := h5.2.2.1
  have hC7 : aBack (aPeel A) 0 7 = A 0 7 := by rw [C7, B7]; omega
  obtain ⟨X4, v1, w1⟩ := k_if1 h5.1 hXC (k := k + 1) ⟨by omega, by rw [hC7]; omega⟩
  rw [sameS_all sAC] at v1
  have h6 := KX_EF w1 h5
  have v2 := k_l1 h6.1 hXC (i := k) (by rw [hC7]; omega)
  have v3 := k_l4 h6.1 hXC (i := k) (by rw [hC7]; omega)
  rw [sAC.2.2 (14 + k) (by omega), pos1_c (fun x _ => sAC.1 (k + 1) x (by omega))] at v2
  rw [sAC.2.2 (20 + k) (by omega)] at v3
  -- undone
  have hn := h.2.1.1.2.1
  obtain ⟨l1, l2, l3⟩ := push_last (P := P) (A := A) hn
  obtain ⟨m, g1, g2, g3⟩ := push_prev (P := pushP P n A) (B := aPeel A) l1 l2
  rw [g1] at h6
  obtain ⟨X5, z1, z2⟩ := k_undo h6
  rw [g2] at z2
  obtain ⟨X6, z3, z4⟩ := k_undo z2
  rw [g3, l3] at z4
  refine ⟨X6, ?_, KXe_mono ⟨_, _, _, _, _, _, z4⟩ (by omega)⟩
  have hm4 : m ≤ 4 := by
    have := h6.2.1.1.2.1
    omega
  have e163 : ∀ w : Int, w ≠ 0 → -10 ≤ w ∧ w ≤ 10 → f_307_L163 X3 (A 0 7) (aAll A (k + 1)) (sumN (36 * (A 0 (14 + k)).toNat) (pos1 (A (k + 1)))) (A 0 (20 + k)) (A 0 8) (if A 0 0 = 2 ∨ A 0 0 = 3 then A 0 1 else 0) w = some (1, X6) := fun w hw0 hwb => by
    unfold f_307_L163
    rw [wri w (by omega) (by omega), if_neg hw0, u1, Option.bind_some, e2, B7, show A 0 7 - 1 + 1 = A 0 7 by omega, if_pos rfl, k_c4 h5.1, C8, B8, show A 0 8 + 1 - 1 = A 0 8 by omega, Option.bind_some, if_pos rfl, hk, v1, Option.bind_some, if_pos rfl, show (((k + 1 : Nat) : Int) - 1) = (k : Int) by omega, v2, Option.bind_some, if_pos rfl, v3, Option.bind_some, if_pos rfl]
    unfold f_307_L229
    rw [if_neg (by decide +kernel), z1, Option.bind_some, wri ((m + 1 : Nat) : Int) (by omega) (by omega), if_neg (by omega), z3, Option.bind_some, wri (m : Int) (by omega) (by omega), if_neg (by omega), k_c5 z4.1 hX, Option.bind_some, if_pos rfl, k_c3 z4.1, Option.bind_some, hk, if_pos rfl]
  rw [show A 0 7 - 1 = (k : Int) from hk1, hk, a1, Option.bind_some, a2, Option.bind_some, a3, Option.bind_some, a4, Option.bind_some, a5, Option.bind_some, k_c4 h2.1, Option.bind_some, k_c5 h2.1 hX, Option.bind_some, p1, Option.bind_some, e1, hk1, if_pos rfl, k_c4 h3.1, Option.bind_some, B8, if_pos rfl, k_c1 h3.1 hXB, hBt, sameS_len sB, Option.bind_some, if_pos rfl, c1, Option.bind_some, if_pos rfl, k_c5 h4.1 hXB, Option.bind_some, B0, B1, wri (2 * aLen A k) (by omega) (by omega), gd_pos (by omega)]
  have fin : (if A 0 0 = 2 ∨ A 0 0 = 3 then (if aLen A k < aLen A (k + 1) then A 0 1 % (2 * aLen A k) else A 0 1) else 0) = (wr (if A 0 0 = 2 ∨ A 0 0 = 3 then A 0 1 else 0)).tmod (2 * aLen A k) := by
    by_cases z : A 0 0 = 2 ∨ A 0 0 = 3
    · rw [if_pos z, if_pos z, wri (A 0 1) (by omega) (by omega), Int.tmod_eq_emod_of_nonneg hpl0.1]
      by_cases y : aLen A k < aLen A (k + 1)
      · rw [if_pos y]
      · rw [if_neg y, Int.emod_eq_of_lt hpl0.1 (by
          have := hlk
          omega)]
    · rw [if_neg z, if_neg z, wr0]; exact (Int.zero_tmod _).symm
  rw [fin, if_pos rfl, ← hk]
  exact e163 1 (by decide) (by decide)
end KB
