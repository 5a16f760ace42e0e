/-! MEANING, 29: buried; loudness -/
section BU
variable {M A : xM} {T : Int} {P : Nat → xM} {n o : Nat} {S : xM} {sv : Int} {pd : Nat → Int} {len : Nat} {st : Nat → Int} {stp : Int}
def ind (A : xM) (k i cell key : Nat) : Int := if 0 < aAdd A i cell key ∧ 2 * aAdd A i cell key < aRing A k cell key then 1 else 0
def bur (A : xM) (k i cell : Nat) : Int := if (i : Int) < A 0 7 then sumN 36 (ind A k i cell) else 0
theorem ind_b {k i cell key : Nat} : 0 ≤ ind A k i cell key ∧ ind A k i cell key ≤ 1 := by unfold ind; split <;> omega
theorem bur_b {k i cell : Nat} : 0 ≤ bur A k i cell ∧ bur A k i cell ≤ 36 := by
  unfold bur
  split
  · have := sumN_b (f := ind A k i cell) (lo := 0) (hi := 1) 36 (fun j _ => ind_b)
    omega
  · omega
theorem sumN_flat {g : Nat → Nat → Int} : ∀ c k, k ≤ 36 → sumN (36 * c + k) (fun x => g (x / 36) (x % 36)) = sumN c (fun cell => sumN 36 (g cell)) + sumN k (g c)
  | 0, 0, _ => rfl
  | c + 1, 0, _ => by
    have := sumN_flat (g := g) c 36 (by decide)
    rw [show 36 * (c + 1) + 0 = 36 * c + 36 by omega, this]
    show _ = sumN c _ + sumN 36 (g c) + 0
    omega
  | c, k + 1, h => by
    have ih := sumN_flat (g := g) c k (by omega)
    show sumN (36 * c + k) (fun x => g (x / 36) (x % 36)) + g ((36 * c + k) / 36) ((36 * c + k) % 36) = _ + (sumN k (g c) + g c k)
    rw [ih, show (36 * c + k) / 36 = c by omega, show (36 * c + k) % 36 = k by omega]
    omega
theorem c_12 (hR : RC M 2 A) (hX : WX T A) {k cell i : Nat} (hk : A 0 7 = (k : Int)) (hc : cell < 48) (hi : i < 6) (hr : ∀ j, j < 36 → M 178 j = aRing A k cell j) : f_12 M 2 (i : Int) (cell : Int) = some (bur A k i cell) := by
  have hW := hX.1
  have h7 := hW.1.2.2.2.2.2.1
  have hkb := kup_b hW
  unfold f_12 bur
  rw [c_66 (b := 2) (by decide +kernel) hR hW i hi, Option.bind_some]
  by_cases q : (i : Int) < A 0 7
  · have hmu := (hW.2.2.1 i (by omega) (by omega)).2.1
    rw [if_pos q]
    by_cases q2 : A 0 (20 + i) = 0
    · have hl := hR.2.1 i hi (by omega)
      have hlen := WF_len hW (i := i) hi (by omega) (by omega)
      have hm := Nat.mod_lt cell (show 0 < (A 0 (14 + i)).toNat by omega)
      rw [if_pos (show (i : Int) < A 0 7 ∧ A 0 (20 + i) = 0 from ⟨q, q2⟩), if_neg (by omega), gd_pos (gL7 (r := 2) (by decide +kernel) i hi), c_65 hR hW]
      unfold f_29
      rw [show 2 + 6 + 3 * i + 1 = 2 + 7 + 3 * i by omega, hl.1, c_134 (by omega) (by omega)]
      have ec : (cell : Int) % A 0 (14 + i) = ((cell % (A 0 (14 + i)).toNat : Nat) : Int) := by rw [Int.natCast_emod]; congr 1; omega
      rw [ec]
      unfold f_12_L40
      refine loop_to (fun key => (sumN key (ind A k i cell), (key : Int))) 36 (fun key hkey => ?_) ?_ (by show 36 < 1000000; omega)
      · show f_12_L40b M 2 (2 + 6 + 3 * i) (kup A : Nat) ((cell % (A 0 (14 + i)).toNat : Nat) : Int) (sumN key (ind A k i cell)) (key : Int) = some (Sum.inl (sumN key (ind A k i cell) + ind A k i cell key, ((key + 1 : Nat) : Int)))
        have ba := aAdd_b hW (i := i) (cell := cell) (key := key) (by omega)
        have br := aRing_b hW (n := k) (cell := cell) (key := key) (by omega)
        have ef : f_30 M (2 + 6 + 3 * i + 1) ((cell % (A 0 (14 + i)).toNat : Nat) : Int) ((key : Int) + (kup A : Nat)) = aAdd A i cell key := by
          rw [show (key : Int) + (kup A : Nat) = ((key + kup A : Nat) : Int) by omega, c_30 (by omega) (by omega)]
          unfold aAdd
          by_cases w : key + kup A < 36
          · rw [if_pos w, if_pos ⟨q2, w⟩, show 2 + 6 + 3 * i + 1 + 1 = 2 + 8 + 3 * i by omega]
            exact hl.2.2.2 _ (by omega) (by omega)
          · rw [if_neg w, if_neg (fun x => w x.2)]
        unfold f_12_L40b
        rw [wri (key : Int) (by omega) (by omega), if_neg (by omega), ef, gd_pos (by omega), Int.toNat_natCast, hr key hkey, wri (aAdd A i cell key) (by omega) (by omega), wri (aRing A k cell key) (by omega) (by omega), wri (2 * aAdd A i cell key) (by omega) (by omega)]
        unfold ind
        by_cases w1 : aAdd A i cell key ≤ 0
        · rw [if_pos w1, if_neg (show ¬ (0 < aAdd A i cell key ∧ 2 * aAdd A i cell key < aRing A k cell key) by omega), Int.add_zero]; rfl
        · rw [if_neg w1]
          by_cases w2 : aRing A k cell key ≤ 2 * aAdd A i cell key
          · rw [if_pos w2, if_neg (show ¬ (0 < aAdd A i cell key ∧ 2 * aAdd A i cell key < aRing A k cell key) by omega), Int.add_zero]; rfl
          · rw [if_neg w2, if_pos (show 0 < aAdd A i cell key ∧ 2 * aAdd A i cell key < aRing A k cell key by omega)]; rfl
      · show f_12_L40b M 2 (2 + 6 + 3 * i) (kup A : Nat) ((cell % (A 0 (14 + i)).toNat : Nat) : Int) _ ((36 : Nat) : Int) = _
        unfold f_12_L40b
        rw [wri _ (by omega) (by omega), if_pos (by omega)]
    · rw [if_neg (show ¬ ((i : Int) < A 0 7 ∧ A 0 (20 + i) = 0) from fun w => q2 w.2), if_pos rfl]
      congr 1
      refine (sumN_0 36 (fun key _ => ?_)).symm
      unfold ind aAdd
      rw [if_neg (show ¬ (A 0 (20 + i) = 0 ∧ key + kup A < 36) from fun w => q2 w.1), if_neg (by omega)]
  · rw [if_neg (show ¬ ((i : Int) < A 0 7 ∧ A 0 (20 + i) = 0) from fun w => q w.1), if_pos rfl, if_neg q]
theorem c_11 (hR : RC M 2 A) (hX : WX T A) {k : Nat} (hk : A 0 7 = (k : Int)) : ∃ M', f_11 M 2 = some (fnd 4 (fun i => sumN (aLen A k).toNat (bur A k i)) 6, M') ∧ EF M M' := by
  have hW := hX.1
  have h7 := hW.1.2.2.2.2.2.1
  have hkt : (A 0 7).toNat = k := by omega
  have hl := aLen_b hX.1 (n := k) (by omega)
  have hbb : ∀ c i, c ≤ 48 → 0 ≤ sumN c (bur A k i) ∧ sumN c (bur A k i) ≤ 1728 := fun c i hc => by
    have := sumN_b (f := bur A k i) (lo := 0) (hi := 36) c (fun j _ => bur_b)
    omega
  -- the search
  have L102 : ∀ M1 : xM, (∀ i, i < 6 → M1 179 i = sumN (aLen A k).toNat (bur A k i)) → f_11_L102 M1 2 (0, -4, 0) = some (fnd 4 (fun i => sumN (aLen A k).toNat (bur A k i)) 6, M1) := by
    intro M1 h1
    obtain ⟨R, hRd⟩ : ∃ R : Nat → Int, R = fun i => sumN (aLen A k).toNat (bur A k i) := ⟨_, rfl⟩
    have hb : ∀ i, 0 ≤ R i ∧ R i ≤ 1728 := fun i => by rw [hRd]; exact hbb _ i (by omega)
    have h1' : ∀ i, i < 6 → M1 179 i = R i := fun i hi => by rw [hRd]; exact h1 i hi
    rw [← hRd]
    unfold f_11_L102
    refine loop_to (fun i => (maxN i R, fnd 4 R i, (i : Int))) 6 (fun i hi => ?_) ?_ (by show 6 < 1000000; omega)
    · show f_11_L102b M1 2 (maxN i R) (fnd 4 R i) (i : Int) = some (Sum.inl ((if maxN i R < R i then R i else maxN i R), fnd 4 R (i + 1), ((i + 1 : Nat) : Int)))
      have b1 := hb i
      have b2 := maxN_b (f := R) (hi := 1728) (by decide) i (fun j _ => (hb j).2)
      unfold f_11_L102b
      rw [wri (i : Int) (by omega) (by omega), if_neg (by omega), gd_pos (by omega), Int.toNat_natCast, h1' i hi, wri (R i) (by omega) (by omega), wri (maxN i R) (by omega) (by omega), fnd_4 (by decide) (by decide)]
      by_cases q : R i ≤ maxN i R
      · have hq : ¬ maxN i R < R i := by omega
        rw [if_pos q, if_neg hq, if_neg hq]; rfl
      · have hq : maxN i R < R i := by omega
        rw [if_neg q, gd_pos (by omega), if_pos hq, if_pos hq]; rfl
    · show f_11_L102b M1 2 _ _ ((6 : Nat) : Int) = _
      unfold f_11_L102b
      rw [wri _ (by omega) (by omega), if_pos (by omega)]
  -- one cell
  have L53 : ∀ (M1 : xM) (c : Nat), c < 48 → RC M1 2 A → (∀ j, j < 36 → M1 178 j = aRing A k c j) → (∀ i, i < 6 → M1 179 i = sumN c (bur A k i)) → ∃ M', f_11_L53 2 (aLen A k) (c : Int) (0, M1) = some (Sum.inl ((c : Int) + 1, M')) ∧ EF M1 M' ∧ ∀ i, i < 6 → M' 179 i = sumN (c + 1) (bur A k i) := by
    intro M1 c hc r1 r2 r3
    unfold f_11_L53
    have key := loop_inv (b := fun s => f_11_L53b 2 (aLen A k) (c : Int) s.1 s.2) (s := ((0 : Int), M1)) (fun i s => s.1 = (i : Int) ∧ (∀ r, r ≠ 179 → s.2 r = M1 r) ∧ ∀ j, j < 6 → s.2 179 j = if j < i then sumN (c + 1) (bur A k j) else sumN c (bur A k j)) (Q := fun r => ∃ M', r = Sum.inl ((c : Int) + 1, M') ∧ (∀ r, r ≠ 179 → M' r = M1 r) ∧ ∀ i, i < 6 → M' 179 i = sumN (c + 1) (bur A k i)) 6 ⟨rfl, fun _ _ => rfl, fun j hj => by rw [if_neg (by omega)]; exact r3 j hj⟩ (fun i s hi hs => ?_) (fun s hs => ?_) (by show 6 < 1000000; omega)
    · obtain ⟨r, k1, M', rfl, k2, k3⟩ := key
      exact ⟨M', k1, fun r a b _ _ => k2 r b, k3⟩
    · obtain ⟨v, M2⟩ := s
      obtain ⟨rfl, p1, p2⟩ := hs
      dsimp only at p1 p2
      have e12 := c_12 (M := M2) (A := A) (k := k) (cell := c) (i := i) (RC_frame (fun r a b => p1 r (by omega)) r1) hX hk hc hi (fun j hj => by rw [p1 178 (by decide)]; exact r2 j hj)
      have e179 := p2 i hi
      rw [if_neg (by omega)] at e179
      refine ⟨((i : Int) + 1, xset M2 179 i (sumN c (bur A k i) + bur A k i c)), ?_, by show (i : Int) + 1 = ((i + 1 : Nat) : Int); omega, fun r hr => ?_, fun j hj => ?_⟩
      · show f_11_L53b 2 (aLen A k) (c : Int) (i : Int) M2 = _
        unfold f_11_L53b
        rw [wri (i : Int) (by omega) (by omega), if_neg (by omega), gd_pos (by omega), e12, Option.bind_some, gd_pos (by omega), bnd_def, Int.toNat_natCast, e179]
      · show xset M2 179 i _ r = M1 r
        rw [← p1 r hr]; funext z; exact xset_r hr
      · show xset M2 179 i _ 179 j = _
        rw [xset_d]
        by_cases q : j = i
        · rw [if_pos ⟨rfl, q⟩, if_pos (by omega), q]; rfl
        · rw [if_neg (fun w => q w.2), p2 j hj]
          by_cases q2 : j < i
          · rw [if_pos q2, if_pos (by omega)]
          · rw [if_neg q2, if_neg (by omega)]
    · obtain ⟨v, M2⟩ := s
      obtain ⟨rfl, p1, p2⟩ := hs
      dsimp only at p1 p2
      refine ⟨Sum.inl ((c : Int) + 1, M2), ?_, M2, rfl, p1, fun i hi => by rw [p2 i hi, if_pos hi]⟩
      show f_11_L53b 2 (aLen A k) (c : Int) ((6 : Nat) : Int) M2 = _
      unfold f_11_L53b
      rw [wri _ (by omega) (by omega), if_pos (by omega)]
  have L35 : ∀ M1 : xM, EF M M1 → (∀ i, i < 6 → M1 179 i = 0) → ∃ M', f_11_L35 2 (aLen A k) (0, M1) = some (fnd 4 (fun i => sumN (aLen A k).toNat (bur A k i)) 6, M') ∧ EF M M' := by
    intro M1 h1 h2
    unfold f_11_L35
    have key := loop_inv (b := fun s => f_11_L35b 2 (aLen A k) s.1 s.2) (s := ((0 : Int), M1)) (fun c s => s.1 = (c : Int) ∧ EF M s.2 ∧ ∀ i, i < 6 → s.2 179 i = sumN c (bur A k i)) (Q := fun r => r.1 = fnd 4 (fun i => sumN (aLen A k).toNat (bur A k i)) 6 ∧ EF M r.2) (aLen A k).toNat ⟨rfl, h1, h2⟩ (fun c s hc hs => ?_) (fun s hs => ?_) (by show (aLen A k).toNat < 1000000; omega)
    · obtain ⟨r, k1, k2, k3⟩ := key
      obtain ⟨z, M'⟩ := r
      dsimp only at k2
      exact ⟨M', by rw [k1, k2], k3⟩
    · obtain ⟨v, M2⟩ := s
      obtain ⟨rfl, p1, p2⟩ := hs
      dsimp only at p1 p2
      have a1 := c_1' (EF_RC p1 hR) hX (cell := c) (by omega)
      rw [hkt] at a1
      obtain ⟨M', k1, k2, k3⟩ := L53 (rowU M2 178 36 (aRing A k c)) c (by omega) (EF_RC (EF_ring p1) hR) (fun j hj => rowU_at hj) (fun i hi => by rw [rowU_ne (by decide)]; exact p2 i hi)
      refine ⟨((c : Int) + 1, M'), ?_, by show (c : Int) + 1 = ((c + 1 : Nat) : Int); omega, fun r a b d e => ?_, k3⟩
      · show f_11_L35b 2 (aLen A k) (c : Int) M2 = _
        unfold f_11_L35b
        rw [wri (aLen A k) (by omega) (by omega), wri (c : Int) (by omega) (by omega), if_neg (by omega), a1, Option.bind_some, k1]
      · show M' r = M r
        rw [k2 r a b d e, EF_ring p1 r a b d e]
    · obtain ⟨v, M2⟩ := s
      obtain ⟨rfl, p1, p2⟩ := hs
      dsimp only at p1 p2
      refine ⟨(fnd 4 (fun i => sumN (aLen A k).toNat (bur A k i)) 6, M2), ?_, rfl, p1⟩
      show f_11_L35b 2 (aLen A k) (((aLen A k).toNat : Nat) : Int) M2 = _
      unfold f_11_L35b
      rw [wri (aLen A k) (by omega) (by omega), wri _ (by omega) (by omega), if_pos (by omega), L102 M2 p2]
      rfl
  unfold f_11 f_11_L2
  have hz : EF M (rowU M 179 6 (fun _ => 0)) := fun r a b c d => rowU_ne b
  obtain ⟨M', k1, k2⟩ := L35 (rowU M 179 6 (fun _ => 0)) hz (fun i hi => rowU_at hi)
  refine ⟨M', ?_, k2⟩
  have key := loop_to (b := fun s => f_11_L2b 2 s.1 s.2) (fun i => ((i : Int), rowU M 179 i (fun _ => 0))) 6 (r := (fnd 4 (fun i => sumN (aLen A k).toNat (bur A k i)) 6, M')) (fun i hi => ?_) ?_ (by show 6 < 1000000; omega)
  · have e0 : ((0 : Int), M) = ((fun i : Nat => ((i : Int), rowU M 179 i (fun _ => 0))) 0) := by
      show _ = (((0 : Nat) : Int), _)
      rw [rowU_0]; rfl
    rw [e0]; exact key
  · show f_11_L2b 2 (i : Int) (rowU M 179 i (fun _ => 0)) = some (Sum.inl (((i + 1 : Nat) : Int), rowU M 179 (i + 1) (fun _ => 0)))
    unfold f_11_L2b
    rw [wri (i : Int) (by omega) (by omega), if_neg (by omega), gd_pos (by omega), bnd_def, Int.toNat_natCast, rowU_s (f := fun _ => 0)]
    rfl
  · show f_11_L2b 2 ((6 : Nat) : Int) (rowU M 179 6 (fun _ => 0)) = _
    unfold f_11_L2b
    rw [wri _ (by omega) (by omega), if_pos (by omega), c_62' (by decide +kernel) (EF_RC hz hR) hX.1, Option.bind_some, hkt, k1]
    rfl
theorem m_204 (hX : WX T A) {k i : Nat} (hk : A 0 7 = (k : Int)) (hi : i < k) : f_204 (mS M A) (i : Int) = some (sumN (aLen A k).toNat (bur A k i)) := by
  have hW := hX.1
  have h7 := hW.1.2.2.2.2.2.1
  have hkt : (A 0 7).toNat = k := by omega
  have hl := aLen_b hX.1 (n := k) (by omega)
  have e147 := m_147 (M := M) hW
  rw [hkt] at e147
  have eb : sumN (aLen A k).toNat (bur A k i) = sumN (36 * (aLen A k).toNat) (fun x => ind A k i (x / 36) (x % 36)) := by
    have := sumN_flat (g := fun cell key => ind A k i cell key) (aLen A k).toNat 0 (by decide)
    rw [Nat.add_zero] at this
    rw [this]
    show _ = _ + 0
    rw [Int.add_zero]
    exact sumN_c _ (fun c _ => by unfold bur; rw [if_pos (by omega)])
  rw [eb]
  unfold f_204 f_204_L4
  refine loop_to (fun x => (sumN x (fun x => ind A k i (x / 36) (x % 36)), (x : Int))) (36 * (aLen A k).toNat) (fun x hx => ?_) ?_ (by show 36 * (aLen A k).toNat < 1000000; omega)
  · show f_204_L4b (mS M A) (i : Int) (sumN x (fun x => ind A k i (x / 36) (x % 36))) (x : Int) = some (Sum.inl (sumN x (fun x => ind A k i (x / 36) (x % 36)) + ind A k i (x / 36) (x % 36), ((x + 1 : Nat) : Int)))
    have ba := aAdd_b hW (i := i) (cell := x / 36) (key := x % 36) (by omega)
    have br := aRing_b hW (n := k) (cell := x / 36) (key := x % 36) (by omega)
    have d1 : (x : Int).tdiv 36 = ((x / 36 : Nat) : Int) := by rw [Int.tdiv_eq_ediv_of_nonneg (by omega)]; omega
    have d2 : (x : Int).tmod 36 = ((x % 36 : Nat) : Int) := by rw [Int.tmod_eq_emod_of_nonneg (by omega)]; omega
    have a1 := m_197 (M := M) hW (k := k) (cell := x / 36) (key := x % 36) (by omega) (by omega) (by omega)
    rw [← hk] at a1
    unfold f_204_L4b
    rw [e147, Option.bind_some, wri (aLen A k * 36) (by omega) (by omega), wri (x : Int) (by omega) (by omega), if_neg (by omega), d1, d2, m_196 hW (by omega) (by omega) (by omega), Option.bind_some, wri (aAdd A i (x / 36) (x % 36)) (by omega) (by omega), m_7, Option.bind_some, a1, Option.bind_some, wri (aRing A k (x / 36) (x % 36)) (by omega) (by omega), wri (2 * aAdd A i (x / 36) (x % 36)) (by omega) (by omega)]
    unfold ind
    by_cases w1 : aAdd A i (x / 36) (x % 36) ≤ 0
    · rw [if_pos w1, if_neg (show ¬ (0 < aAdd A i (x / 36) (x % 36) ∧ 2 * aAdd A i (x / 36) (x % 36) < aRing A k (x / 36) (x % 36)) by omega)]; rfl
    · rw [if_neg w1]
      by_cases w2 : aRing A k (x / 36) (x % 36) ≤ 2 * aAdd A i (x / 36) (x % 36)
      · rw [if_pos w2, if_neg (show ¬ (0 < aAdd A i (x / 36) (x % 36) ∧ 2 * aAdd A i (x / 36) (x % 36) < aRing A k (x / 36) (x % 36)) by omega)]; rfl
      · rw [if_neg w2, if_pos (show 0 < aAdd A i (x / 36) (x % 36) ∧ 2 * aAdd A i (x / 36) (x % 36) < aRing A k (x / 36) (x % 36) by omega)]; rfl
  · show f_204_L4b (mS M A) (i : Int) _ ((36 * (aLen A k).toNat : Nat) : Int) = _
    unfold f_204_L4b
    rw [e147, Option.bind_some, wri (aLen A k * 36) (by omega) (by omega), wri _ (by omega) (by omega), if_pos (by omega)]
theorem fnd_pad {R : Nat → Int} {k : Nat} (hb : ∀ i, 0 ≤ R i) : ∀ m, (∀ i, k ≤ i → R i = 0) → fnd 4 R (k + m) = fnd 4 R k
  | 0, _ => rfl
  | m + 1, h => by
    show fnd 4 R ((k + m) + 1) = _
    rw [fnd_4 (by decide) (by decide), h (k + m) (by omega), if_neg (by have := maxN_0 (f := R) (k + m); omega)]
    exact fnd_pad hb m h
theorem step_buried (h : ALLx T M A P n o S sv pd len st stp) : ∃ r1, f_117 M = some r1 ∧ ∃ r2, f_205 r1.2 = some r2 ∧ r1.1 = r2 ∧ ALL (T + 6100) r1.2 := by
  have hX := h.2.2.1
  have h7 := hX.1.1.2.2.2.2.2.1
  obtain ⟨k, hk⟩ : ∃ k : Nat, A 0 7 = (k : Int) := ⟨(A 0 7).toNat, by omega⟩
  have hl := aLen_b hX.1 (n := k) (by omega)
  obtain ⟨M', k1, k2⟩ := c_11 h.1.1 hX hk
  have hM' := EF_all k2 h
  obtain ⟨R, hRd⟩ : ∃ R : Nat → Int, R = fun i => sumN (aLen A k).toNat (bur A k i) := ⟨_, rfl⟩
  rw [← hRd] at k1
  have hb : ∀ i, 0 ≤ R i ∧ R i ≤ 1728 := fun i => by
    rw [hRd]
    have := sumN_b (f := bur A k i) (lo := 0) (hi := 36) (aLen A k).toNat (fun j _ => bur_b)
    show 0 ≤ sumN (aLen A k).toNat (bur A k i) ∧ sumN (aLen A k).toNat (bur A k i) ≤ 1728
    omega
  have hz : ∀ i, k ≤ i → R i = 0 := fun i hi => by
    rw [hRd]
    exact sumN_0 _ (fun c _ => by unfold bur; rw [if_neg (by omega)])
  have e6 : fnd 4 R 6 = fnd 4 R k := by
    have := fnd_pad (R := R) (k := k) (fun i => (hb i).1) (6 - k) hz
    rw [show k + (6 - k) = 6 by omega] at this
    exact this
  have e7 : f_139 M' 7 = some (A 0 7) := by rw [← inS_mS hM'.2.1.1]; exact m_7
  have em : f_205 M' = some (fnd 4 R k) := by
    unfold f_205 f_205_L7
    refine loop_to (fun i => (fnd 4 R i, maxN i R, (i : Int))) k (fun i hi => ?_) ?_ (by show k < 1000000; omega)
    · show f_205_L7b M' (fnd 4 R i) (maxN i R) (i : Int) = some (Sum.inl (fnd 4 R (i + 1), (if maxN i R < R i then R i else maxN i R), ((i + 1 : Nat) : Int)))
      have b1 := hb i
      have b2 := maxN_b (f := R) (hi := 1728) (by decide) i (fun j _ => (hb j).2)
      have a1 := m_204 (M := M') hX hk hi
      rw [inS_mS hM'.2.1.1] at a1
      have a2 : sumN (aLen A k).toNat (bur A k i) = R i := by rw [hRd]
      rw [a2] at a1
      unfold f_205_L7b f_205_L35
      rw [e7, Option.bind_some, hk, wri (k : Int) (by omega) (by omega), wri (i : Int) (by omega) (by omega), if_neg (by omega), a1, Option.bind_some, wri (R i) (by omega) (by omega), wri (maxN i R) (by omega) (by omega), fnd_4 (by decide) (by decide)]
      by_cases q : R i ≤ maxN i R
      · have hq : ¬ maxN i R < R i := by omega
        rw [if_pos q, if_pos q, if_neg hq, if_neg hq]; rfl
      · have hq : maxN i R < R i := by omega
        rw [if_neg q, if_neg q, if_pos hq, if_pos hq]; rfl
    · show f_205_L7b M' _ _ (k : Int) = _
      unfold f_205_L7b
      rw [e7, Option.bind_some, hk, if_pos (Int.le_refl _)]
  have ec : f_117 M = some (fnd 4 R 6, M') := by unfold f_117; rw [k1]; rfl
  exact ⟨_, ec, _, em, e6, ALL_of hM'⟩
/-! doubles -/
theorem nnan_iff (x : UInt64) : nnan x ↔ FP.Core.dIsNaN x = false := by
  have h := FP.Core.isNaN_bits x
  have e : (x &&& 0x7fffffffffffffff).toNat = x.toNat % 2 ^ 63 := by
    rw [UInt64.toNat_and]
    exact Nat.and_two_pow_sub_one_eq_mod x.toNat 63
  have e2 : nnan x ↔ x.toNat % 2 ^ 63 ≤ 9218868437227405312 := by
    unfold nnan
    rw [UInt64.le_iff_toNat_le, e]
    exact Iff.rfl
  rw [e2]
  constructor
  · intro w
    cases q : FP.Core.dIsNaN x with
    | false => rfl
    | true => have := h.mp q; omega
  · intro w
    rcases Nat.lt_or_ge 9218868437227405312 (x.toNat % 2 ^ 63) with q | q
    · have := h.mpr q; rw [this] at w; cases w
    · exact q
theorem xi2d_fin (s : Int) : FP.Core.dIsNaN (xi2d s) = false := (FP.Core.i2d_fin (Int32.ofInt s)).notNaN
theorem gn_pos {α : Type} {x : UInt64} {k : Option α} (h : nnan x) : gn x k = k := by unfold gn; rw [if_pos h]
theorem ddiv_ok {s l : Int} (hl : 1 ≤ l ∧ l ≤ 48) : nnan (FP.ddiv (xi2d s) (xi2d l)) := by
  rw [nnan_iff]
  refine FP.Core.ddiv_out (xi2d_fin s) (FP.Core.i2d_fin _) ?_
  rw [FP.Core.zero_bits2]
  refine FP.Core.i2d_ne_zero (v := Int32.ofInt l) (fun w => ?_)
  have : wr l = 0 := by unfold wr; rw [w]; rfl
  rw [wri l (by omega) (by omega)] at this
  omega
theorem dmul_1 (s : Int) : FP.dmul (xi2d s) FP.dconst1 = xi2d s := FP.Core.dmul_one ((FP.Core.notNaN_iff _).mp (xi2d_fin s))
theorem step_loudness (h : ALLx T M A P n o S sv pd len st stp) : ∃ r1, f_120 M = some r1 ∧ ∃ r2, f_210 r1.2 = some r2 ∧ r1.1 = r2 ∧ nnan r2 ∧ ALL (T + 6100) r1.2 := by
  have hX := h.2.2.1
  have h7 := hX.1.1.2.2.2.2.2.1
  have e5 : M 2 5 = A 0 7 := h.1.1.1.2.2.1
  obtain ⟨k, hk⟩ : ∃ k : Nat, A 0 7 = (k : Int) := ⟨(A 0 7).toNat, by omega⟩
  have hkt : (A 0 7).toNat = k := by omega
  have hl := aLen_b hX.1 (n := k) (by omega)
  unfold f_120
  rw [c_62' (by decide +kernel) h.1.1 hX.1, Option.bind_some, hkt, wri (aLen A k) (by omega) (by omega)]
  by_cases q : A 0 7 = 0
  · have e0 : aLen A k = 0 := by rw [show k = 0 by omega]; rfl
    have e7 : f_139 M 7 = some (A 0 7) := by rw [← inS_mS h.2.1.1]; exact m_7
    rw [e0, if_neg (by decide)]
    refine ⟨_, rfl, FP.dconst0, ?_, rfl, ?_, ALL_of h⟩
    · unfold f_210
      rw [e7, Option.bind_some, q, if_pos wr0]
    · unfold nnan; decide +kernel
  · have hp := len_pos hX q
    rw [hkt] at hp
    obtain ⟨M', k1, k2⟩ := c_8 h.1.1 hX (k := k) (by omega)
    have hM' := EF_all k2 h
    have e7 : f_139 M' 7 = some (A 0 7) := by rw [← inS_mS hM'.2.1.1]; exact m_7
    have a3 := m_209 (M := M') hX (k := k) (by omega)
    rw [inS_mS hM'.2.1.1] at a3
    have e147 := m_147' hM'.2.1.1 hX.1
    rw [hkt] at e147
    have hn := ddiv_ok (s := sumN (aLen A k).toNat (aSum A k)) (l := aLen A k) (by omega)
    rw [if_pos (by omega), e5, hk, k1, Option.bind_some, gn_pos hn]
    refine ⟨_, rfl, _, ?_, rfl, hn, ALL_of hM'⟩
    show f_210 M' = some (FP.ddiv (xi2d (sumN (aLen A k).toNat (aSum A k))) (xi2d (aLen A k)))
    unfold f_210
    rw [e7, Option.bind_some, hk, wri (k : Int) (by omega) (by omega), if_neg (by omega), Option.bind_some, a3, Option.bind_some, dmul_1, gn_pos ((nnan_iff _).mpr (xi2d_fin _)), e147, Option.bind_some, gn_pos hn]
end BU
