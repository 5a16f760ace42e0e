/-! MEANING, 3: rows that are written; what is heard -/
theorem ped_le {b : Nat} (h : Tg b = 7) : 2 ≤ b ∧ b + 24 ≤ 172 := Tg_dec (P := fun r => Tg r = 7 → 2 ≤ r ∧ r + 24 ≤ 172) (by decide +kernel) h (by decide) h
def rowU (M : xM) (r n : Nat) (f : Nat → Int) : xM := fun a c => if a = r ∧ c < n then f c else M a c
theorem rowU_0 {M : xM} {r : Nat} {f : Nat → Int} : rowU M r 0 f = M := by
  funext a c; unfold rowU; rw [if_neg (by omega)]
theorem rowU_s {M : xM} {r i : Nat} {f : Nat → Int} : xset (rowU M r i f) r i (f i) = rowU M r (i + 1) f := by
  funext a c
  unfold xset rowU
  by_cases q : a = r ∧ c = i
  · rw [if_pos q, if_pos (by omega), q.2]
  · rw [if_neg q]
    by_cases q2 : a = r ∧ c < i
    · rw [if_pos q2, if_pos (by omega)]
    · rw [if_neg q2, if_neg (by omega)]
theorem rowU_at {M : xM} {r n c : Nat} {f : Nat → Int} (h : c < n) : rowU M r n f r c = f c := by unfold rowU; rw [if_pos ⟨rfl, h⟩]
theorem rowU_ge {M : xM} {r n c : Nat} {f : Nat → Int} (h : n ≤ c) : rowU M r n f r c = M r c := by unfold rowU; rw [if_neg (by omega)]
theorem rowU_ne {M : xM} {r n a : Nat} {f : Nat → Int} (h : a ≠ r) : rowU M r n f a = M a := by funext c; unfold rowU; rw [if_neg (by omega)]
theorem rowU_set {M : xM} {r n j : Nat} {f : Nat → Int} {v : Int} (h : j < n) : xset (rowU M r n f) r j v = rowU M r n (fun c => if c = j then v else f c) := by
  funext a c
  unfold xset rowU
  by_cases q : a = r ∧ c = j
  · rw [if_pos q, if_pos (by omega)]; exact (if_pos q.2).symm
  · rw [if_neg q]
    by_cases q2 : a = r ∧ c < n
    · rw [if_pos q2, if_pos q2]; exact (if_neg (by omega)).symm
    · rw [if_neg q2, if_neg q2]
theorem rowU_c {M : xM} {r n : Nat} {f g : Nat → Int} (h : ∀ c, c < n → f c = g c) : rowU M r n f = rowU M r n g := by
  funext a c
  unfold rowU
  by_cases q : a = r ∧ c < n
  · rw [if_pos q, if_pos q, h c q.2]
  · rw [if_neg q, if_neg q]
theorem rowU_rowU {M : xM} {r n : Nat} {f g : Nat → Int} : rowU (rowU M r n f) r n g = rowU M r n g := by
  funext a c
  unfold rowU
  by_cases q : a = r ∧ c < n
  · rw [if_pos q, if_pos q]
  · rw [if_neg q, if_neg q, if_neg q]
def kup (A : xM) : Nat := 12 * (A 0 2).toNat
/-- what a layer adds to the ring of a key -/
def aAdd (A : xM) (i cell key : Nat) : Int := if A 0 (20 + i) = 0 ∧ key + kup A < 36 then A (i + 1) (36 * (cell % (A 0 (14 + i)).toNat) + (key + kup A)) else 0
def aRing (A : xM) (n cell key : Nat) : Int := sumN n (fun i => aAdd A i cell key)
def aSum (A : xM) (n cell : Nat) : Int := sumN 36 (fun k => aRing A n cell k)
theorem aAdd_b {T : Int} {A : xM} (hW : WF T A) {i cell key : Nat} (hi : (i : Int) < A 0 7 + A 0 8) : 0 ≤ aAdd A i cell key ∧ aAdd A i cell key ≤ 99 := by
  unfold aAdd
  have h7 := hW.1.2.2.2.2.2.1
  split
  · rename_i q
    have h1 := WF_len hW (i := i) (by omega) (by omega) (WF_lay1 hW (i := i) (by omega))
    have := Nat.mod_lt cell (show 0 < (A 0 (14 + i)).toNat by omega)
    exact hW.2.2.2.1 i _ (by omega) (by omega)
  · omega
theorem aRing_b {T : Int} {A : xM} (hW : WF T A) {n cell key : Nat} (hn : (n : Int) ≤ A 0 7 + A 0 8) : 0 ≤ aRing A n cell key ∧ aRing A n cell key ≤ 594 := by
  have h7 := hW.1.2.2.2.2.2.1
  have := sumN_b (f := fun i => aAdd A i cell key) (lo := 0) (hi := 99) n (fun i hi => aAdd_b hW (by omega))
  unfold aRing
  omega
theorem aSum_b {T : Int} {A : xM} (hW : WF T A) {n cell : Nat} (hn : (n : Int) ≤ A 0 7 + A 0 8) : 0 ≤ aSum A n cell ∧ aSum A n cell ≤ 21384 := by
  have := sumN_b (f := fun k => aRing A n cell k) (lo := 0) (hi := 594) 36 (fun i hi => aRing_b hW hn)
  unfold aSum
  omega
theorem c_65 {M : xM} {b : Nat} {A : xM} {T : Int} (hR : RC M b A) (hW : WF T A) : f_65 M b = (kup A : Nat) := by
  have h3 : M b 3 = A 0 2 := hR.1.1
  have h2 := hW.1.2.1
  unfold f_65 kup
  rw [h3, wri _ (by omega) (by omega)]
  rcases h2 with h | h <;> rw [h] <;> rfl
theorem kup_b {A : xM} {T : Int} (hW : WF T A) : kup A ≤ 12 := by
  have h2 := hW.1.2.1
  unfold kup; omega
theorem c_1 {M : xM} {b : Nat} {A : xM} {T : Int} (hb : Tg b = 7) (hR : RC M b A) (hW : WF T A) (n cell : Nat) (hn : (n : Int) ≤ A 0 7) (hc : cell < 48) : f_1 M b (n : Int) (cell : Int) = some (rowU M 178 36 (fun k => aRing A n cell k)) := by
  have h7 := hW.1.2.2.2.2.2.1
  have hp := ped_le hb
  have hk := kup_b hW
  -- one layer
  have L75 : ∀ i : Nat, i < n → A 0 (20 + i) = 0 → f_1_L75 b (n : Int) (cell : Int) (kup A : Nat) (i : Int) (b + 6 + 3 * i) ((cell % (A 0 (14 + i)).toNat : Nat) : Int) (0, rowU M 178 36 (fun k => aRing A i cell k)) = some (.inl ((i : Int) + 1, rowU M 178 36 (fun k => aRing A (i + 1) cell k))) := by
    intro i hi hm
    have hl := hR.2.1 i (by omega) (by omega)
    have h1 := WF_len hW (i := i) (by omega) (by omega) (WF_lay1 hW (i := i) (by omega))
    have hcm := Nat.mod_lt cell (show 0 < (A 0 (14 + i)).toNat by omega)
    have key := loop_to (b := fun s => f_1_L75b b (n : Int) (cell : Int) (kup A : Nat) (i : Int) (b + 6 + 3 * i) ((cell % (A 0 (14 + i)).toNat : Nat) : Int) s.1 s.2) (fun k => ((k : Int), rowU M 178 36 (fun c => if c < k then aRing A (i + 1) cell c else aRing A i cell c))) 36 (r := .inl ((i : Int) + 1, rowU M 178 36 (fun k => aRing A (i + 1) cell k))) (fun k hk36 => ?_) ?_ (by show 36 < 1000000; omega)
    · unfold f_1_L75
      have e0 : ((0 : Int), rowU M 178 36 (fun k => aRing A i cell k)) = ((fun k : Nat => ((k : Int), rowU M 178 36 (fun c => if c < k then aRing A (i + 1) cell c else aRing A i cell c))) 0) := by
        show _ = (((0 : Nat) : Int), _)
        rw [rowU_c (g := fun k => aRing A i cell k) (fun c _ => if_neg (by omega))]; rfl
      rw [e0]
      exact key
    · show f_1_L75b b (n : Int) (cell : Int) (kup A : Nat) (i : Int) (b + 6 + 3 * i) ((cell % (A 0 (14 + i)).toNat : Nat) : Int) (k : Int) (rowU M 178 36 (fun c => if c < k then aRing A (i + 1) cell c else aRing A i cell c)) = some (.inl (((k + 1 : Nat) : Int), _))
      unfold f_1_L75b
      rw [wri (k : Int) (by omega) (by omega), if_neg (by omega), gd_pos (by omega), gd_pos (by omega), bnd_def, Int.toNat_natCast, rowU_at hk36, if_neg (by omega), show (k : Int) + (kup A : Nat) = ((k + kup A : Nat) : Int) by omega, c_30 (by omega) (by omega), rowU_set hk36]
      have e1 : (aRing A i cell k + if k + kup A < 36 then (rowU M 178 36 fun c => if c < k then aRing A (i + 1) cell c else aRing A i cell c) (b + 6 + 3 * i + 1 + 1) (36 * (cell % (A 0 (14 + i)).toNat) + (k + kup A)) else 0) = aRing A (i + 1) cell k := by
        show _ = aRing A i cell k + aAdd A i cell k
        congr 1
        unfold aAdd
        by_cases q : k + kup A < 36
        · rw [if_pos q, if_pos ⟨hm, q⟩, rowU_ne (by omega), show b + 6 + 3 * i + 1 + 1 = b + 8 + 3 * i by omega]
          exact hl.2.2.2 _ (by omega) (by omega)
        · rw [if_neg q, if_neg (fun w => q w.2)]
      rw [e1]
      congr 2
      refine Prod.ext (by show (k : Int) + 1 = ((k + 1 : Nat) : Int); omega) (rowU_c (fun c hc => ?_))
      by_cases q : c = k
      · rw [if_pos q, if_pos (by omega), q]
      · rw [if_neg q]
        by_cases q2 : c < k
        · rw [if_pos q2, if_pos (by omega)]
        · rw [if_neg q2, if_neg (by omega)]
    · show f_1_L75b b (n : Int) (cell : Int) (kup A : Nat) (i : Int) (b + 6 + 3 * i) ((cell % (A 0 (14 + i)).toNat : Nat) : Int) ((36 : Nat) : Int) _ = _
      unfold f_1_L75b
      rw [wri _ (by omega) (by omega), if_pos (by omega), rowU_c (g := fun k => aRing A (i + 1) cell k) (fun c hc => if_pos hc)]
  have L36 : f_1_L36 b (n : Int) (cell : Int) (kup A : Nat) (0, rowU M 178 36 (fun k => aRing A 0 cell k)) = some (rowU M 178 36 (fun k => aRing A n cell k)) := by
    unfold f_1_L36
    refine loop_to (fun i => ((i : Int), rowU M 178 36 (fun k => aRing A i cell k))) n (fun i hi => ?_) ?_ (by show n < 1000000; omega)
    · show f_1_L36b b (n : Int) (cell : Int) (kup A : Nat) (i : Int) (rowU M 178 36 (fun k => aRing A i cell k)) = some (.inl (((i + 1 : Nat) : Int), _))
      have hR' : RC (rowU M 178 36 (fun k => aRing A i cell k)) b A := RC_frame (fun r _ _ => rowU_ne (by omega)) hR
      have hl := hR'.2.1 i (by omega) (by omega)
      have h1 := WF_len hW (i := i) (by omega) (by omega) (WF_lay1 hW (i := i) (by omega))
      unfold f_1_L36b
      rw [wri (n : Int) (by omega) (by omega), wri (i : Int) (by omega) (by omega), if_neg (by omega), c_66 hb hR' hW i (by omega)]
      show (if (if (i : Int) < A 0 7 ∧ A 0 (20 + i) = 0 then b + 6 + 3 * i else 0) = 0 then _ else _) = _
      by_cases q : A 0 (20 + i) = 0
      · rw [if_pos (⟨by omega, q⟩ : (i : Int) < A 0 7 ∧ A 0 (20 + i) = 0), if_neg (by omega), gd_pos (gL7 hb i (by omega))]
        unfold f_29
        rw [show b + 6 + 3 * i + 1 = b + 7 + 3 * i by omega, hl.1, c_134 (by omega) (by omega)]
        have e1 : (cell : Int) % A 0 (14 + i) = ((cell % (A 0 (14 + i)).toNat : Nat) : Int) := by
          rw [Int.natCast_emod]; congr 1; omega
        rw [e1]
        exact L75 i hi q
      · rw [if_neg (show ¬ ((i : Int) < A 0 7 ∧ A 0 (20 + i) = 0) from fun w => q w.2), if_pos rfl]
        congr 2
        refine Prod.ext (by show (i : Int) + 1 = ((i + 1 : Nat) : Int); omega) (rowU_c (fun c hc => ?_))
        show _ = aRing A i cell c + aAdd A i cell c
        unfold aAdd
        rw [if_neg (fun w => q w.1)]; omega
    · show f_1_L36b b (n : Int) (cell : Int) (kup A : Nat) (n : Int) _ = _
      unfold f_1_L36b
      rw [if_pos (Int.le_refl _)]
  unfold f_1 f_1_L3
  have key := loop_to (b := fun s => f_1_L3b b (n : Int) (cell : Int) s.1 s.2) (fun k => ((k : Int), rowU M 178 k (fun c => 0))) 36 (r := rowU M 178 36 (fun k => aRing A n cell k)) (fun k hk36 => ?_) ?_ (by show 36 < 1000000; omega)
  · have e0 : ((0 : Int), M) = ((fun k : Nat => ((k : Int), rowU M 178 k (fun c => 0))) 0) := by
      show _ = (((0 : Nat) : Int), _)
      rw [rowU_0]; rfl
    rw [e0]
    exact key
  · show f_1_L3b b (n : Int) (cell : Int) (k : Int) (rowU M 178 k (fun c => 0)) = some (.inl (((k + 1 : Nat) : Int), _))
    unfold f_1_L3b
    rw [wri (k : Int) (by omega) (by omega), if_neg (by omega), gd_pos (by omega), bnd_def, Int.toNat_natCast, rowU_s (f := fun c => 0)]
    rfl
  · show f_1_L3b b (n : Int) (cell : Int) ((36 : Nat) : Int) (rowU M 178 36 (fun c => 0)) = _
    unfold f_1_L3b
    rw [wri _ (by omega) (by omega), if_pos (by omega), c_65 (RC_frame (fun r _ _ => rowU_ne (by omega)) hR) hW]
    rw [show (rowU M 178 36 fun c => 0) = rowU M 178 36 (fun k => aRing A 0 cell k) from rfl, L36]
    rfl
