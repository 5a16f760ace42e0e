/-! P36, 4: the loop -/
section KO
variable {M A : xM} {T : Int} {P : Nat → xM} {n o : Nat} {S : xM} {sv : Int}
theorem xdc_self {x : UInt64} (h : nnan x) : wr (xdc x x) = 0 := by
  unfold xdc
  rw [show FP.dcmp x x = some .eq from FP.Core.dcmp_refl ((nnan_iff x).mp h)]
  decide +kernel
theorem maxN_z {R : Nat → Int} {k : Nat} : maxN k R = 0 ↔ ∀ i, i < k → R i ≤ 0 := by
  constructor
  · intro h i hi
    have := maxN_ge (f := R) k i hi
    omega
  · intro h
    rcases maxN_is (f := R) k with q | ⟨i, q1, q2⟩
    · exact q
    · have := h i q1
      have := maxN_0 (f := R) k
      omega
theorem fnd4_q {R : Nat → Int} : ∀ k : Nat, fnd 4 R k = -4 ↔ maxN k R = 0
  | 0 => ⟨fun _ => rfl, fun _ => rfl⟩
  | k + 1 => by
    have ih := fnd4_q (R := R) k
    have h0 := maxN_0 (f := R) k
    rw [fnd_4 (by decide) (by decide), show maxN (k + 1) R = (if maxN k R < R k then R k else maxN k R) from rfl]
    by_cases q : maxN k R < R k
    · rw [if_pos q, if_pos q]
      constructor
      · intro w; omega
      · intro w; omega
    · rw [if_neg q, if_neg q]; exact ih
theorem sumN_q {R : Nat → Int} {k : Nat} (h : ∀ i, i < k → 0 ≤ R i) : sumN k R = 0 ↔ maxN k R = 0 := by
  rw [maxN_z]
  constructor
  · intro w i hi
    have := sumN_pos k h w i hi
    omega
  · intro w
    exact sumN_0 k (fun i hi => by have := h i hi; have := w i hi; omega)
theorem quiet (hX : WX T A) {k : Nat} (hk : A 0 7 = (k : Int)) : maxN (aLen A k).toNat (aSum A k) = 0 ↔ gAll A = 0 := by
  have hW := hX.1
  have h7 := hW.1.2.2.2.2.2.1
  have hkt : (A 0 7).toNat = k := by omega
  have hl := aLen_b hW (n := k) (by omega)
  unfold gAll
  rw [hkt, maxN_z, maxN_z]
  have hadd : ∀ i, i < k → ∀ c key, 0 ≤ aAdd A i c key := fun i hi c key => (aAdd_b hW (by omega)).1
  constructor
  · intro h i hi
    have hlen := WF_len hW (i := i) (by omega) (by omega) (by omega)
    have hle : A 0 (14 + i) ≤ aLen A k := maxN_ge (f := fun j => A 0 (14 + j)) k i hi
    refine maxN_le (by decide) _ (fun x hx => ?_)
    have hs : aSum A k (x / 36) = 0 := by
      have := h (x / 36) (by omega)
      have := (aSum_b hW (n := k) (cell := x / 36) (by omega)).1
      omega
    have hr : aRing A k (x / 36) (x % 36) = 0 := sumN_pos 36 (fun j _ => (aRing_b hW (n := k) (by omega)).1) hs (x % 36) (by omega)
    have ha : aAdd A i (x / 36) (x % 36) = 0 := sumN_pos k (fun j hj => hadd j hj _ _) hr i hi
    omega
  · intro h c hc
    have z : aSum A k c = 0 := sumN_0 36 (fun key hkey => sumN_0 k (fun i hi => by
      have hlen := WF_len hW (i := i) (by omega) (by omega) (by omega)
      have hcm := Nat.mod_lt c (show 0 < (A 0 (14 + i)).toNat by omega)
      have e : aAdd A i c key = aAdd A i (c % (A 0 (14 + i)).toNat) key := by unfold aAdd; rw [Nat.mod_mod]
      have g := h i hi
      have g2 := maxN_ge (f := fun x => aAdd A i (x / 36) (x % 36)) (36 * (A 0 (14 + i)).toNat) (36 * (c % (A 0 (14 + i)).toNat) + key) (by omega)
      have g3 : aAdd A i ((36 * (c % (A 0 (14 + i)).toNat) + key) / 36) ((36 * (c % (A 0 (14 + i)).toNat) + key) % 36) ≤ 0 := Int.le_trans g2 g
      rw [show (36 * (c % (A 0 (14 + i)).toNat) + key) / 36 = c % (A 0 (14 + i)).toNat by omega, show (36 * (c % (A 0 (14 + i)).toNat) + key) % 36 = key by omega] at g3
      have := hadd i hi (c % (A 0 (14 + i)).toNat) key
      omega))
    omega
theorem sil_0 {r : Int} (h : isSil A r) : r = 0 ↔ gAll A = 0 := by
  rcases h with ⟨rfl, h⟩ | ⟨p, rfl, h1, h2, h3⟩
  · have : gAll A ≠ 0 := h 0 (by decide)
    constructor
    · intro w; omega
    · intro w; exact absurd w this
  · constructor
    · intro w
      have e : p = 0 := by omega
      subst e
      exact h2
    · intro w
      rcases Nat.eq_zero_or_pos p with e | e
      · rw [e]; rfl
      · exact absurd w (h3 0 e)
theorem dmul_1' (s : Int) : FP.dmul FP.dconst1 (xi2d s) = xi2d s := (FP.Core.dmul_comm _ _).trans (dmul_1 s)
/-- the place, the bar -/
theorem p_end (hT : T < 1000000000) (hR : RC M 2 A) (hX : WX T A) (h0 : A 0 7 ≠ 0) : f_305_L380 M (aLen A (A 0 7).toNat) (A 0 0) 1 = some (1, M) := by
  have hW := hX.1
  have h7 := hW.1.2.2.2.2.2.1
  have hl := aLen_b hW (n := (A 0 7).toNat) (by omega)
  have hm := hW.1.1
  have hb := hW.1.2.2.1
  have hpl := hW.1.2.2.2.2.2.2.2.2.2.2.2
  have h2 : 2 ≤ A 0 0 := by
    rcases Int.lt_or_le (A 0 0) 2 with q | q
    · have := hW.2.1.1 (by omega); omega
    · exact q
  have hlt := (hW.2.1.2.1 h2).2
  have hu := unt_b (x := A 0 10) (d := 2 * A 0 3) (by omega)
  unfold f_305_L380
  rw [if_neg (by decide +kernel), wri (A 0 0) (by omega) (by omega), k_c5 hR hX, k_c10 hR, k_barIn hT hR hX]
  by_cases q : A 0 0 = 4
  · rw [if_pos q, Option.bind_some, if_neg (show ¬ (A 0 0 = 2 ∨ A 0 0 = 3) by omega), if_neg (show ¬ (A 0 0 = 2 ∨ A 0 0 = 3) by omega), if_pos wr0, if_pos (by decide +kernel)]
  · rw [if_neg q, Option.bind_some, if_pos (show A 0 0 = 2 ∨ A 0 0 = 3 by omega), if_pos (show A 0 0 = 2 ∨ A 0 0 = 3 by omega), wri (2 * aLen A (A 0 7).toNat) (by omega) (by omega), wri (A 0 1) (by omega) (by omega), if_neg (by omega), wri (unt (A 0 10) (2 * A 0 3)) (by omega) (by omega), if_neg (by omega), Option.bind_some, wri (2 * A 0 3) (by omega) (by omega), if_neg (by omega)]
/-- what the cells add up to -/
theorem p_sums (hT : T < 1000000000) (hR : RC M 2 A) (hX : WX T A) {k : Nat} (hk : A 0 7 = (k : Int)) (h0 : A 0 7 ≠ 0) : ∃ M', f_305_L293 M (A 0 7) (aLen A k) (A 0 0) (aAll A k) (fnd 4 (aSum A k) (aLen A k).toNat) (sumN (aLen A k).toNat (sil A k)) = some (1, M') ∧ EF M M' := by
  have hW := hX.1
  have h7 := hW.1.2.2.2.2.2.1
  have hkt : (A 0 7).toNat = k := by omega
  have hl := aLen_b hW (n := k) (by omega)
  have hp := len_pos hX h0
  obtain ⟨X1, a1, b1⟩ := k_loud hR hX h0
  rw [hkt] at a1 hp
  have R1 := EF_RC b1 hR
  have a2 := k_if0 R1 hX (k := k) ⟨by omega, by omega⟩
  obtain ⟨X2, a3, b3⟩ := k_if1 R1 hX (k := k) ⟨by omega, by omega⟩
  have y2 := EF_tr b1 b3
  have R2 := EF_RC y2 hR
  obtain ⟨X3, a4, b4⟩ := k_if2 R2 hX (k := k) ⟨by omega, by omega⟩
  have y3 := EF_tr y2 b4
  have R3 := EF_RC y3 hR
  obtain ⟨X4, a5, b5⟩ := k_lness R3 hX h0
  rw [hkt] at a5
  have y4 := EF_tr y3 b5
  have R4 := EF_RC y4 hR
  obtain ⟨r, a6, a7⟩ := k_silent R4 hX h0
  have e1 := p_end hT R4 hX h0
  rw [hkt] at e1
  have hn := ddiv_ok (s := aAll A k) (l := aLen A k) (by omega)
  have hsb : ∀ i, 0 ≤ aSum A k i ∧ aSum A k i ≤ 21384 := fun i => aSum_b hW (by omega)
  have hall : 0 ≤ aAll A k ∧ aAll A k ≤ 21384 * 48 := by
    have := sumN_b (f := aSum A k) (lo := 0) (hi := 21384) (aLen A k).toNat (fun i _ => hsb i)
    unfold aAll; omega
  have hz : r = 0 ↔ aAll A k = 0 := by
    rw [sil_0 a7, ← quiet hX hk]
    exact (sumN_q (fun i _ => (hsb i).1)).symm
  have hrb : -4 ≤ r ∧ r ≤ 99 := by
    rcases a7 with ⟨e, _⟩ | ⟨p, e, h1, _⟩ <;> omega
  refine ⟨X4, ?_, y4⟩
  unfold f_305_L293
  rw [a1, Option.bind_some, if_pos rfl, hk, a2, Option.bind_some, if_pos rfl, a3, Option.bind_some, if_pos rfl, a4, Option.bind_some, if_pos rfl, a5, Option.bind_some, dmul_1', gn_pos ((nnan_iff _).mpr (xi2d_fin _)), gn_pos hn, if_pos (xdc_self hn), a6, Option.bind_some, wri r (by omega) (by omega)]
  unfold f_305_L362 f_305_L372
  rw [wri (aAll A k) (by omega) (by omega)]
  by_cases q : r = 0
  · rw [if_pos q, if_pos (hz.mp q), if_pos rfl, e1]
  · rw [if_neg q, if_neg (fun w => q (hz.mpr w)), if_pos rfl, e1]
theorem p_cells (hT : T < 1000000000) (hR : RC M 2 A) (hX : WX T A) {k : Nat} (hk : A 0 7 = (k : Int)) (h0 : A 0 7 ≠ 0) : ∃ M', f_305_L211 (A 0 7) (aLen A k) (A 0 0) (0, (-4), 0, 0, 0, M) = some (1, M') ∧ EF M M' := by
  have hW := hX.1
  have h7 := hW.1.2.2.2.2.2.1
  have hkt : (A 0 7).toNat = k := by omega
  have hl := aLen_b hW (n := k) (by omega)
  have hsb : ∀ i, 0 ≤ aSum A k i ∧ aSum A k i ≤ 21384 := fun i => aSum_b hW (by omega)
  have hmx : ∀ i, 0 ≤ maxN i (aSum A k) ∧ maxN i (aSum A k) ≤ 21384 := fun i => maxN_b (by decide) i (fun j _ => (hsb j).2)
  have key := loop_inv (b := fun s => f_305_L211b (A 0 7) (aLen A k) (A 0 0) s.1 s.2.1 s.2.2.1 s.2.2.2.1 s.2.2.2.2.1 s.2.2.2.2.2) (s := ((0 : Int), (-4 : Int), (0 : Int), (0 : Int), (0 : Int), M)) (fun c s => ∃ X, EF M X ∧ s = (sumN c (aSum A k), fnd 4 (aSum A k) c, maxN c (aSum A k), sumN c (sil A k), (c : Int), X)) (Q := fun r => r.1 = 1 ∧ EF M r.2) (aLen A k).toNat ⟨M, EF_rf, rfl⟩ (fun c s hc hs => ?_) (fun s hs => ?_) (by show (aLen A k).toNat < 1000000; omega)
  · obtain ⟨r, e1, e2, e3⟩ := key
    obtain ⟨z, M'⟩ := r
    dsimp only at e2 e3
    subst e2
    exact ⟨M', e1, e3⟩
  · obtain ⟨X, x1, rfl⟩ := hs
    obtain ⟨X', x2, x3⟩ := k_heard (EF_RC x1 hR) hX (c := c) (w := 1) (by rw [hkt]; omega) (by decide)
    rw [aHeard_1, hkt] at x2
    have x2 : f_115 X (c : Int) 1 = some (aSum A k c, X') := x2
    have hs1 := hsb c
    have hm1 := hmx c
    refine ⟨_, ?_, X', EF_tr x1 x3, rfl⟩
    show f_305_L211b (A 0 7) (aLen A k) (A 0 0) (sumN c (aSum A k)) (fnd 4 (aSum A k) c) (maxN c (aSum A k)) (sumN c (sil A k)) (c : Int) X = some (Sum.inl (sumN c (aSum A k) + aSum A k c, fnd 4 (aSum A k) (c + 1), (if maxN c (aSum A k) < aSum A k c then aSum A k c else maxN c (aSum A k)), sumN c (sil A k) + sil A k c, (c : Int) + 1, X'))
    unfold f_305_L211b f_305_L254 f_305_L270 sil
    rw [wri (aLen A k) (by omega) (by omega), wri (c : Int) (by omega) (by omega), if_neg (by omega), if_neg (by omega), x2, Option.bind_some, wri (aSum A k c) (by omega) (by omega), wri (maxN c (aSum A k)) (by omega) (by omega), fnd_4 (by decide) (by decide)]
    by_cases q1 : aSum A k c ≤ maxN c (aSum A k)
    · by_cases q2 : aSum A k c = 0
      · simp only [if_pos q1, if_pos q2, if_neg (show ¬ maxN c (aSum A k) < aSum A k c by omega)]
      · simp only [if_pos q1, if_neg q2, if_neg (show ¬ maxN c (aSum A k) < aSum A k c by omega)]
    · simp only [if_neg q1, if_neg (show ¬ aSum A k c = 0 by omega), if_pos (show maxN c (aSum A k) < aSum A k c by omega)]
  · obtain ⟨X, x1, rfl⟩ := hs
    obtain ⟨X', x2, x3⟩ := p_sums hT (EF_RC x1 hR) hX hk h0
    refine ⟨(1, X'), ?_, rfl, EF_tr x1 x3⟩
    show f_305_L211b (A 0 7) (aLen A k) (A 0 0) (aAll A k) (fnd 4 (aSum A k) (aLen A k).toNat) (maxN (aLen A k).toNat (aSum A k)) (sumN (aLen A k).toNat (sil A k)) (((aLen A k).toNat : Nat) : Int) X = some (Sum.inr (1, X'))
    unfold f_305_L211b
    rw [wri (aLen A k) (by omega) (by omega), wri (((aLen A k).toNat : Nat) : Int) (by omega) (by omega), if_pos (by omega), x2, Option.bind_some]
theorem p_loop (hT : T < 1000000000) (hR : RC M 2 A) (hX : WX T A) : ∃ M', f_305 M = some (1, M') ∧ EF M M' := by
  have hW := hX.1
  have h7 := hW.1.2.2.2.2.2.1
  have hm := hW.1.1
  obtain ⟨k, hk⟩ : ∃ k : Nat, A 0 7 = (k : Int) := ⟨(A 0 7).toNat, by omega⟩
  have hkt : (A 0 7).toNat = k := by omega
  have hl := aLen_b hW (n := k) (by omega)
  -- behind the layers
  have tail : ∃ M', f_305_L59 M (A 0 7) (aLen A k) (aLen A k) = some (1, M') ∧ EF M M' := by
    have h130 : f_305_L130 M (A 0 7) (aLen A k) (A 0 0) = f_305_L145 M (A 0 7) (aLen A k) (A 0 0) 1 := by
      unfold f_305_L130
      rw [k_lX hR hX (by omega) (by omega), Option.bind_some, if_pos (by decide +kernel)]
    unfold f_305_L59
    rw [k_c0 hR, Option.bind_some, if_pos rfl, k_c4 hR, Option.bind_some, wri (A 0 7 + A 0 8) (by omega) (by omega), if_neg (by omega), wri (A 0 7) (by omega) (by omega), if_neg (by omega)]
    unfold f_305_L98 f_305_L109
    rw [wri (A 0 0) (by omega) (by omega), wri (A 0 7) (by omega) (by omega)]
    by_cases z : A 0 7 = 0
    · have h2 : ¬ 2 ≤ A 0 0 := fun w => by have := (hW.2.1.2.1 w).1; omega
      rw [if_pos z, if_neg h2, if_pos rfl, if_pos z, h130]
      unfold f_305_L145
      rw [if_neg (by decide +kernel), wri (A 0 7) (by omega) (by omega), if_pos z]
      unfold f_305_L156
      rw [if_neg (by decide +kernel), k_loud0 hR z, Option.bind_some, if_pos (show wr (-2) = -2 by decide +kernel), k_ring0 hR hX z, Option.bind_some, if_pos (show wr (-1) = -1 by decide +kernel), k_lness0 hR hX z, Option.bind_some, if_pos (show wr (xdc FP.dconst0 FP.dconst0) = 0 by decide +kernel)]
      exact ⟨M, rfl, EF_rf⟩
    · have h2 : 2 ≤ A 0 0 := by
        rcases Int.lt_or_le (A 0 0) 2 with q | q
        · have := hW.2.1.1 (by omega); omega
        · exact q
      have h6 := hW.2.1.2.2.1 (by omega)
      have e0 := k_l0 hR hX (i := 0) (by omega)
      rw [show ((0 : Nat) : Int) = 0 from rfl, show 14 + 0 = 14 from rfl, h6.2.2] at e0
      rw [if_neg z, if_pos h2, if_pos rfl, if_neg z, e0, Option.bind_some, k_c2 hR hX, if_neg z, Option.bind_some, if_pos rfl, h130]
      unfold f_305_L145
      rw [if_neg (by decide +kernel), wri (A 0 7) (by omega) (by omega), if_neg z]
      exact p_cells hT hR hX hk z
  obtain ⟨M', t1, t2⟩ := tail
  refine ⟨M', ?_, t2⟩
  unfold f_305
  rw [k_c3 hR, Option.bind_some, k_c1 hR hX, Option.bind_some, hkt]
  unfold f_305_L17
  have key := loop_to (b := fun s => f_305_L17b M (A 0 7) (aLen A k) s.1 s.2) (fun j => (aLen A j, (j : Int))) k (r := ((1 : Int), M')) (fun j hj => ?_) ?_ (by show k < 1000000; omega)
  · exact key
  · show f_305_L17b M (A 0 7) (aLen A k) (aLen A j) (j : Int) = some (Sum.inl ((if aLen A j < A 0 (14 + j) then A 0 (14 + j) else aLen A j), (j : Int) + 1))
    have hlen := WF_len hW (i := j) (by omega) (by omega) (by omega)
    have hlj := aLen_b hW (n := j) (by omega)
    unfold f_305_L17b
    rw [wri (A 0 7) (by omega) (by omega), wri (j : Int) (by omega) (by omega), if_neg (by omega), if_neg (by omega), k_l0 hR hX (by omega), Option.bind_some, wri (A 0 (14 + j)) (by omega) (by omega), wri (aLen A j) (by omega) (by omega)]
    by_cases q : A 0 (14 + j) ≤ aLen A j
    · rw [if_pos q, if_neg (by omega)]
    · rw [if_neg q, Option.bind_some, if_pos (by omega)]
  · show f_305_L17b M (A 0 7) (aLen A k) (aLen A k) (k : Int) = some (Sum.inr (1, M'))
    unfold f_305_L17b
    rw [wri (A 0 7) (by omega) (by omega), wri (k : Int) (by omega) (by omega), if_pos (by omega), t1, Option.bind_some]
end KO
