/-! MEANING, 21: the reference's world -/
section MW
variable {M : xM} {T : Int}
def inS (M A : xM) (r off : Nat) : Prop := ∀ k, k < 1376 → M r (off + k) = enc A k
def MWr (M : xM) (P : Nat → xM) (n : Nat) (S : xM) (sv : Int) (pd : Nat → Int) (len : Nat) (st : Nat → Int) (stp : Int) : Prop :=
  M 182 2 = (n : Int) ∧ (∀ i, i < n → inS M (P i) 184 (1376 * i)) ∧ M 182 4 = sv ∧ (sv = 1 → inS M S 185 0) ∧ (M 182 6 = (len : Int) ∧ ∀ j, j < len → M 186 j = pd j) ∧ M 182 8 = stp ∧ (stp = 1 → M 187 0 = st 0 ∧ M 187 1 = st 1 ∧ M 187 2 = st 2)
theorem inS_mS {A : xM} (h : inS M A 183 0) : mS M A = M := mS_self (fun k hk => by have := h k hk; rw [Nat.zero_add] at this; exact this)
theorem mS_inS {A : xM} : inS (mS M A) A 183 0 := fun k hk => by rw [Nat.zero_add]; exact mS_at hk
theorem MWr_frame {M' : xM} {P : Nat → xM} {n : Nat} {S : xM} {sv : Int} {pd : Nat → Int} {len : Nat} {st : Nat → Int} {stp : Int} (hr : ∀ r, 182 ≤ r → r < 188 → r ≠ 183 → M' r = M r) (h : MWr M P n S sv pd len st stp) : MWr M' P n S sv pd len st stp := by
  unfold MWr inS at h ⊢
  rw [hr 182 (by omega) (by omega) (by omega), hr 184 (by omega) (by omega) (by omega), hr 185 (by omega) (by omega) (by omega), hr 186 (by omega) (by omega) (by omega), hr 187 (by omega) (by omega) (by omega)]
  exact h
def blk (M : xM) (r off n : Nat) (f : Nat → Int) : xM := fun a c => if a = r ∧ off ≤ c ∧ c < off + n then f (c - off) else M a c
theorem blk_0 {r off : Nat} {f : Nat → Int} : blk M r off 0 f = M := by
  funext a c; unfold blk; rw [if_neg (by omega)]
theorem blk_s {r off i : Nat} {f : Nat → Int} : xset (blk M r off i f) r (off + i) (f i) = blk M r off (i + 1) f := by
  funext a c
  rw [xset_d]
  unfold blk
  by_cases q : a = r ∧ c = off + i
  · rw [if_pos q, if_pos (by omega)]; congr 1; omega
  · rw [if_neg q]
    by_cases q2 : a = r ∧ off ≤ c ∧ c < off + i
    · rw [if_pos q2, if_pos (by omega)]
    · rw [if_neg q2, if_neg (by omega)]
theorem blk_ne {r off n a : Nat} {f : Nat → Int} (h : a ≠ r) : blk M r off n f a = M a := by funext c; unfold blk; rw [if_neg (by omega)]
theorem blk_at {r off n k : Nat} {f : Nat → Int} (h : k < n) : blk M r off n f r (off + k) = f k := by unfold blk; rw [if_pos (by omega)]; congr 1; omega
theorem blk_out {r off n c : Nat} {f : Nat → Int} (h : c < off ∨ off + n ≤ c) : blk M r off n f r c = M r c := by unfold blk; rw [if_neg (by omega)]
theorem m_140L {n : Nat} (hn : n ≤ 3) (h : M 182 2 = (n : Int)) : f_140_L51 (0, M) = some (xset (blk M 184 (1376 * n) 1376 (M 183)) 182 2 ((n : Int) + 1)) := by
  unfold f_140_L51
  have key := loop_to (b := fun s => f_140_L51b s.1 s.2) (fun i => ((i : Int), blk M 184 (1376 * n) i (M 183))) 1376 (r := xset (blk M 184 (1376 * n) 1376 (M 183)) 182 2 ((n : Int) + 1)) (fun i hi => ?_) ?_ (by show 1376 < 1000000; omega)
  · have e0 : ((0 : Int), M) = ((fun i : Nat => ((i : Int), blk M 184 (1376 * n) i (M 183))) 0) := by
      show _ = (((0 : Nat) : Int), _)
      rw [blk_0]; rfl
    rw [e0]; exact key
  · show f_140_L51b (i : Int) (blk M 184 (1376 * n) i (M 183)) = some (Sum.inl (((i + 1 : Nat) : Int), blk M 184 (1376 * n) (i + 1) (M 183)))
    unfold f_140_L51b
    rw [blk_ne (a := 182) (by decide), h, blk_ne (a := 183) (by decide), wri (i : Int) (by omega) (by omega), if_neg (by omega), gd_pos (by omega), wri (1376 * (n : Int) + (i : Int)) (by omega) (by omega), gd_pos (by omega), bnd_def, Int.toNat_natCast, show (1376 * (n : Int) + (i : Int)).toNat = 1376 * n + i by omega, blk_s]
    rfl
  · show f_140_L51b ((1376 : Nat) : Int) (blk M 184 (1376 * n) 1376 (M 183)) = _
    unfold f_140_L51b
    rw [wri _ (by omega) (by omega), if_pos (by omega), bnd_def, blk_ne (a := 182) (by decide), h]
theorem m_140 {A : xM} {P : Nat → xM} {n : Nat} {S : xM} {sv : Int} {pd : Nat → Int} {len : Nat} {st : Nat → Int} {stp : Int} (hn : n ≤ 4) (hA : inS M A 183 0) (h : MWr M P n S sv pd len st stp) : ∃ M', f_140 M = some M' ∧ inS M' A 183 0 ∧ MWr M' (pushP P n A) (pushN n) S sv pd len st stp ∧ ∀ r, (r < 182 ∨ r = 183) → M' r = M r := by
  obtain ⟨h1, h2, h3, h4, h5, h6, h7⟩ := h
  unfold f_140
  rw [h1, wri (n : Int) (by omega) (by omega)]
  by_cases q : n < 4
  · rw [if_neg (by omega), m_140L (by omega) h1]
    obtain ⟨M', hM'⟩ : ∃ M', M' = xset (blk M 184 (1376 * n) 1376 (M 183)) 182 2 ((n : Int) + 1) := ⟨_, rfl⟩
    rw [← hM']
    have ne : ∀ r, r ≠ 182 → r ≠ 184 → M' r = M r := fun r a b => by rw [hM']; funext k; rw [xset_r a, blk_ne b]
    have n2 : ∀ k, k ≠ 2 → M' 182 k = M 182 k := fun k a => by rw [hM', xset_j a, blk_ne (by decide)]
    have n4 : ∀ k, M' 184 k = blk M 184 (1376 * n) 1376 (M 183) 184 k := fun k => by rw [hM', xset_r (by decide)]
    refine ⟨M', rfl, ?_, ⟨?_, fun i hi => ?_, ?_, fun w => ?_, ?_, ?_, fun w => ?_⟩, fun r hr => ne r (by omega) (by omega)⟩
    · unfold inS at hA ⊢; rw [ne 183 (by decide) (by decide)]; exact hA
    · unfold pushN; rw [if_pos q, hM', xset_eq]; omega
    · unfold pushN at hi
      unfold pushP
      rw [if_pos q] at hi ⊢
      intro k hk
      rw [n4]
      by_cases w : i = n
      · rw [if_pos w, w, blk_at hk]
        have := hA k hk
        rw [Nat.zero_add] at this; exact this
      · rw [if_neg w, blk_out (by omega)]
        exact h2 i (by omega) k hk
    · rw [n2 4 (by decide)]; exact h3
    · unfold inS at h4 ⊢; rw [ne 185 (by decide) (by decide)]; exact h4 w
    · rw [n2 6 (by decide), ne 186 (by decide) (by decide)]; exact h5
    · rw [n2 8 (by decide)]; exact h6
    · rw [ne 187 (by decide) (by decide)]; exact h7 w
  · have hn4 : n = 4 := by omega
    subst hn4
    rw [if_pos (by omega)]
    unfold f_140_L10
    obtain ⟨M1, hM1⟩ : ∃ M1, M1 = xset (rowU M 184 4128 (fun k => M 184 (1376 + k))) 182 2 3 := ⟨_, rfl⟩
    have e1 : M1 182 2 = ((3 : Nat) : Int) := by rw [hM1, xset_eq]; rfl
    obtain ⟨M', hM'⟩ : ∃ M', M' = xset (blk M1 184 (1376 * 3) 1376 (M1 183)) 182 2 (((3 : Nat) : Int) + 1) := ⟨_, rfl⟩
    have key := loop_to (b := fun s => f_140_L10b s.1 s.2) (fun i => ((i : Int), rowU M 184 i (fun k => M 184 (1376 + k)))) 4128 (r := M') (fun i hi => ?_) ?_ (by show 4128 < 1000000; omega)
    · have e0 : ((0 : Int), M) = ((fun i : Nat => ((i : Int), rowU M 184 i (fun k => M 184 (1376 + k)))) 0) := by
        show _ = (((0 : Nat) : Int), _)
        rw [rowU_0]; rfl
      rw [e0, key]
      have ne1 : ∀ r, r ≠ 182 → r ≠ 184 → M1 r = M r := fun r a b => by rw [hM1]; funext k; rw [xset_r a, rowU_ne b]
      have ne : ∀ r, r ≠ 182 → r ≠ 184 → M' r = M r := fun r a b => by rw [hM', ← ne1 r a b]; funext k; rw [xset_r a, blk_ne b]
      have n2 : ∀ k, k ≠ 2 → M' 182 k = M 182 k := fun k a => by rw [hM', xset_j a, blk_ne (by decide), hM1, xset_j a, rowU_ne (by decide)]
      have n4 : ∀ k, M' 184 k = blk M1 184 (1376 * 3) 1376 (M1 183) 184 k := fun k => by rw [hM', xset_r (by decide)]
      refine ⟨M', rfl, ?_, ⟨?_, fun i hi => ?_, ?_, fun w => ?_, ?_, ?_, fun w => ?_⟩, fun r hr => ne r (by omega) (by omega)⟩
      · unfold inS at hA ⊢; rw [ne 183 (by decide) (by decide)]; exact hA
      · unfold pushN; rw [if_neg (by decide), hM', xset_eq]; rfl
      · unfold pushN at hi
        unfold pushP
        rw [if_neg (by decide)] at hi ⊢
        intro k hk
        rw [n4]
        by_cases w : i = 3
        · rw [if_pos w, w, blk_at hk, ne1 183 (by decide) (by decide)]
          have := hA k hk
          rw [Nat.zero_add] at this; exact this
        · rw [if_neg w, blk_out (by omega), hM1, xset_r (by decide), rowU_at (by omega)]
          have := h2 (i + 1) (by omega) k hk
          rw [show 1376 * (i + 1) + k = 1376 + (1376 * i + k) by omega] at this
          exact this
      · rw [n2 4 (by decide)]; exact h3
      · unfold inS at h4 ⊢; rw [ne 185 (by decide) (by decide)]; exact h4 w
      · rw [n2 6 (by decide), ne 186 (by decide) (by decide)]; exact h5
      · rw [n2 8 (by decide)]; exact h6
      · rw [ne 187 (by decide) (by decide)]; exact h7 w
    · show f_140_L10b (i : Int) (rowU M 184 i (fun k => M 184 (1376 + k))) = some (Sum.inl (((i + 1 : Nat) : Int), rowU M 184 (i + 1) (fun k => M 184 (1376 + k))))
      unfold f_140_L10b
      rw [wri (i : Int) (by omega) (by omega), if_neg (by omega), wri (1376 + (i : Int)) (by omega) (by omega), gd_pos (by omega), gd_pos (by omega), bnd_def, Int.toNat_natCast, show (1376 + (i : Int)).toNat = 1376 + i by omega, rowU_ge (by omega), rowU_s (f := fun k => M 184 (1376 + k))]
      rfl
    · show f_140_L10b ((4128 : Nat) : Int) (rowU M 184 4128 (fun k => M 184 (1376 + k))) = _
      unfold f_140_L10b
      rw [wri _ (by omega) (by omega), if_pos (by omega), bnd_def, rowU_ne (a := 182) (by decide), h1, show (((4 : Nat) : Int) - 1) = 3 from rfl, ← hM1, m_140L (by decide) e1, ← hM']
      rfl
/-- behind a call: what the reference answers, its world then -/
def MAns (M : xM) (why good : Int) (A A' : xM) (P : Nat → xM) (n : Nat) (S : xM) (sv : Int) (pd : Nat → Int) (len : Nat) (st : Nat → Int) (stp : Int) (r : Int × xM) : Prop :=
  (∀ k, k < 182 → r.2 k = M k) ∧ ((why < 0 ∧ r.1 = why ∧ inS r.2 A 183 0 ∧ MWr r.2 P n S sv pd len st stp) ∨ (why = 0 ∧ r.1 = good ∧ inS r.2 A' 183 0 ∧ MWr r.2 (pushP P n A) (pushN n) S sv pd len st stp))
/-- what a change of the reference's row s does to its world -/
theorem m_change {A A' M1 : xM} {P : Nat → xM} {n : Nat} {S : xM} {sv : Int} {pd : Nat → Int} {len : Nat} {st : Nat → Int} {stp : Int} (h : MWr M1 P n S sv pd len st stp) : inS (mS M1 A') A' 183 0 ∧ MWr (mS M1 A') P n S sv pd len st stp ∧ ∀ k, k < 182 → mS M1 A' k = M1 k :=
  ⟨mS_inS, MWr_frame (fun r a b c => mS_ne c) h, fun k hk => mS_ne (by omega)⟩
end MW
