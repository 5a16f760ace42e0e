/-! MEANING, 5: the reference's state -/
def enc (A : xM) (k : Nat) : Int := if k < 32 then A 0 k else pack9 (fun j => A ((k - 32) / 192 + 1) (9 * ((k - 32) % 192) + j))
/-- the reference's row s holds A -/
def mS (M A : xM) : xM := fun r k => if r = 183 ∧ k < 1376 then enc A k else M r k
theorem pr2 {α β : Type} {a a' : α} {b b' : β} (h1 : a = a') (h2 : b = b') : (a, b) = (a', b') := by rw [h1, h2]
theorem xset_d {α : Type} {M : Nat → Nat → α} {r j a b : Nat} {v : α} : xset M r j v a b = if a = r ∧ b = j then v else M a b := rfl
theorem mS_d {M A : xM} {r k : Nat} : mS M A r k = if r = 183 ∧ k < 1376 then enc A k else M r k := rfl
theorem enc_d {A : xM} {k : Nat} : enc A k = if k < 32 then A 0 k else pack9 (fun j => A ((k - 32) / 192 + 1) (9 * ((k - 32) % 192) + j)) := rfl
theorem mS_at {M A : xM} {k : Nat} (h : k < 1376) : mS M A 183 k = enc A k := by unfold mS; rw [if_pos ⟨rfl, h⟩]
theorem mS_sc {M A : xM} {k : Nat} (h : k < 32) : mS M A 183 k = A 0 k := by rw [mS_at (by omega)]; unfold enc; rw [if_pos h]
theorem mS_ne {M A : xM} {r : Nat} (h : r ≠ 183) : mS M A r = M r := by funext k; unfold mS; rw [if_neg (by omega)]
theorem mS_self {M A : xM} (h : ∀ k, k < 1376 → M 183 k = enc A k) : mS M A = M := by
  funext r k
  simp only [mS_d]
  by_cases q : r = 183 ∧ k < 1376
  · rw [if_pos q, q.1, h k q.2]
  · rw [if_neg q]
theorem mS_mS {M A A' : xM} : mS (mS M A) A' = mS M A' := by
  funext r k
  simp only [mS_d]
  by_cases q : r = 183 ∧ k < 1376
  · rw [if_pos q, if_pos q]
  · rw [if_neg q, if_neg q, if_neg q]
theorem mS_c {M A A' : xM} (h : ∀ k, k < 1376 → enc A k = enc A' k) : mS M A = mS M A' := by
  funext r k
  simp only [mS_d]
  by_cases q : r = 183 ∧ k < 1376
  · rw [if_pos q, if_pos q, h k q.2]
  · rw [if_neg q, if_neg q]
theorem mS_set {M A : xM} {k : Nat} {v : Int} (h : k < 32) : xset (mS M A) 183 k v = mS M (xset A 0 k v) := by
  funext r j
  simp only [mS_d, xset_d, enc_d]
  by_cases q : r = 183 ∧ j = k
  · rw [if_pos q, if_pos ⟨q.1, by omega⟩, if_pos (by omega), if_pos ⟨trivial, q.2⟩]
  · rw [if_neg q]
    by_cases q2 : r = 183 ∧ j < 1376
    · rw [if_pos q2, if_pos q2]
      by_cases q3 : j < 32
      · rw [if_pos q3, if_pos q3, if_neg (by omega)]
      · rw [if_neg q3, if_neg q3]
        refine pack9_c (fun i hi => ?_)
        rw [if_neg (by omega)]
    · rw [if_neg q2, if_neg q2]
/-- a row of other numbers of the reference changes -/
theorem mS_out {M A : xM} {r k : Nat} {v : Int} (h : r ≠ 183) : xset (mS M A) r k v = mS (xset M r k v) A := by
  funext a j
  simp only [mS_d, xset_d]
  by_cases q : a = r ∧ j = k
  · rw [if_pos q, if_neg (by omega), if_pos q]
  · rw [if_neg q]
    by_cases q2 : a = 183 ∧ j < 1376
    · rw [if_pos q2, if_pos q2]
    · rw [if_neg q2, if_neg q2, if_neg q]
theorem WFf_sc {A : xM} {k : Nat} {v : Int} (h : WFf A) : WFf (xset A 0 k v) := fun l x hl hx => by rw [xset_r (by omega)]; exact h l x hl hx
theorem WFf_set {A : xM} {r k : Nat} {v : Int} (h : WFf A) (hv : 0 ≤ v ∧ v ≤ 99) : WFf (xset A r k v) := fun l x hl hx => by
  unfold xset
  split
  · exact hv
  · exact h l x hl hx
theorem WFf_row {A : xM} {r n : Nat} {f : Nat → Int} (h : WFf A) (hv : ∀ j, j < n → 0 ≤ f j ∧ f j ≤ 99) : WFf (rowU A r n f) := fun l x hl hx => by
  unfold rowU
  split
  · rename_i q; exact hv x q.2
  · exact h l x hl hx
theorem m_139 {M A : xM} {k : Nat} (hk : k < 32) : f_139 (mS M A) (k : Int) = some (A 0 k) := by
  unfold f_139
  rw [wri _ (by omega) (by omega), gd_pos (by omega), Int.toNat_natCast, mS_sc hk]
theorem m_idx {l c k : Nat} (hl : l < 7) (hc : c < 48) (hk : k < 36) : wr (((32 + (192 * (l : Int))) + (4 * (c : Int))) + ((wr (k : Int)).tdiv 9)) = ((32 + 192 * l + 4 * c + k / 9 : Nat) : Int) ∧ 7 * (wr (k : Int)).tmod 9 = ((7 * (k % 9) : Nat) : Int) := by
  rw [wri (k : Int) (by omega) (by omega), Int.tdiv_eq_ediv_of_nonneg (by omega), Int.tmod_eq_emod_of_nonneg (by omega)]
  constructor
  · rw [wri _ (by omega) (by omega)]; omega
  · omega
theorem m_word {A : xM} {l c k : Nat} (hl : l < 7) (hc : c < 48) (hk : k < 36) : enc A (32 + 192 * l + 4 * c + k / 9) = pack9 (fun j => A (l + 1) (36 * c + 9 * (k / 9) + j)) := by
  unfold enc
  rw [if_neg (by omega)]
  refine pack9_c (fun j hj => ?_)
  rw [show (32 + 192 * l + 4 * c + k / 9 - 32) / 192 = l by omega, show 9 * ((32 + 192 * l + 4 * c + k / 9 - 32) % 192) + j = 36 * c + 9 * (k / 9) + j by omega]
theorem m_141 {M A : xM} (hF : WFf A) {l c k : Nat} (hl : l < 7) (hc : c < 48) (hk : k < 36) : f_141 (mS M A) (l : Int) (c : Int) (k : Int) = some (A (l + 1) (36 * c + k)) := by
  obtain ⟨e1, e2⟩ := m_idx hl hc hk
  unfold f_141
  rw [e1, e2, gd_pos (by omega), Int.toNat_natCast, mS_at (by omega), m_word hl hc hk, pack9_get (fun j hj => by have := hF l (36 * c + 9 * (k / 9) + j) hl (by omega); omega) (by omega)]
  congr 2; omega
theorem m_142 {M A : xM} (hF : WFf A) {l c k : Nat} (hl : l < 7) (hc : c < 48) (hk : k < 36) {v : Int} (hv : 0 ≤ v ∧ v ≤ 99) : f_142 (mS M A) (l : Int) (c : Int) (k : Int) v = some (mS M (xset A (l + 1) (36 * c + k) v)) := by
  obtain ⟨e1, e2⟩ := m_idx hl hc hk
  unfold f_142
  rw [e1, e2, gd_pos (by omega), gd_pos (by omega), bnd_def, Int.toNat_natCast, mS_at (by omega), m_word hl hc hk, wri v (by omega) (by omega), pack9_put (fun j hj => by have := hF l (36 * c + 9 * (k / 9) + j) hl (by omega); omega) (by omega) (by omega)]
  congr 1
  funext a j
  by_cases q : a = 183 ∧ j = 32 + 192 * l + 4 * c + k / 9
  · rw [q.1, q.2, xset_eq, mS_at (by omega), m_word hl hc hk]
    refine pack9_c (fun i hi => ?_)
    rw [xset_d]
    by_cases q2 : i = k % 9
    · rw [if_pos q2, if_pos (by omega)]
    · rw [if_neg q2, if_neg (by omega)]
  · rw [xset_d, if_neg q, mS_d, mS_d]
    by_cases q2 : a = 183 ∧ j < 1376
    · rw [if_pos q2, if_pos q2, enc_d, enc_d]
      by_cases q3 : j < 32
      · rw [if_pos q3, if_pos q3, xset_r (by omega)]
      · rw [if_neg q3, if_neg q3]
        refine pack9_c (fun i hi => ?_)
        rw [xset_d, if_neg (by omega)]
    · rw [if_neg q2, if_neg q2]
theorem m_143 {M A : xM} {l : Nat} (hl : l < 7) : f_143 (mS M A) (l : Int) = some (mS M (rowU A (l + 1) 1728 (fun _ => 0))) := by
  unfold f_143 f_143_L2
  have key := loop_to (b := fun s => f_143_L2b (l : Int) s.1 s.2) (fun i => ((i : Int), mS M (rowU A (l + 1) (9 * i) (fun _ => 0)))) 192 (r := mS M (rowU A (l + 1) 1728 (fun _ => 0))) (fun i hi => ?_) ?_ (by show 192 < 1000000; omega)
  · have e0 : ((0 : Int), mS M A) = ((fun i : Nat => ((i : Int), mS M (rowU A (l + 1) (9 * i) (fun _ => 0)))) 0) := by
      show _ = (((0 : Nat) : Int), _)
      rw [Nat.mul_zero, rowU_0]; rfl
    rw [e0]; exact key
  · show f_143_L2b (l : Int) (i : Int) (mS M (rowU A (l + 1) (9 * i) (fun _ => 0))) = some (.inl (((i + 1 : Nat) : Int), _))
    unfold f_143_L2b
    rw [wri (i : Int) (by omega) (by omega), if_neg (by omega), wri _ (by omega) (by omega), gd_pos (by omega), bnd_def, show (32 + 192 * (l : Int) + (i : Int)).toNat = 32 + 192 * l + i by omega]
    congr 2
    refine pr2 (by omega) ?_
    funext a j
    by_cases q : a = 183 ∧ j = 32 + 192 * l + i
    · rw [q.1, q.2, xset_eq, mS_at (by omega), enc_d, if_neg (by omega)]
      refine Eq.trans pack9_0.symm (pack9_c (fun t ht => ?_))
      rw [show (32 + 192 * l + i - 32) / 192 + 1 = l + 1 by omega, rowU_at (by omega)]
    · rw [xset_d, if_neg q, mS_d, mS_d]
      by_cases q2 : a = 183 ∧ j < 1376
      · rw [if_pos q2, if_pos q2, enc_d, enc_d]
        by_cases q3 : j < 32
        · rw [if_pos q3, if_pos q3, rowU_ne (by omega), rowU_ne (by omega)]
        · rw [if_neg q3, if_neg q3]
          refine pack9_c (fun t ht => ?_)
          unfold rowU
          by_cases q4 : (j - 32) / 192 + 1 = l + 1 ∧ 9 * ((j - 32) % 192) + t < 9 * i
          · rw [if_pos q4, if_pos (by omega)]
          · rw [if_neg q4, if_neg (by omega)]
      · rw [if_neg q2, if_neg q2]
  · show f_143_L2b (l : Int) ((192 : Nat) : Int) (mS M (rowU A (l + 1) (9 * 192) (fun _ => 0))) = _
    unfold f_143_L2b
    rw [wri _ (by omega) (by omega), if_pos (by omega)]
theorem m_144 {x y : Int} (hx : 0 ≤ x ∧ x ≤ 9999) (hy : 0 ≤ y ∧ y ≤ 9999) : f_144 x y = if 99 ≤ x + y then 99 else x + y := by
  unfold f_144
  rw [wri _ (by omega) (by omega)]
theorem m_138 (x y z : Int) : f_138 x y z = if wr y ≤ wr x ∧ wr x ≤ wr z then 1 else 0 := by
  unfold f_138
  by_cases q : wr x < wr y
  · rw [if_pos q, if_neg (by omega)]
  · rw [if_neg q]
    by_cases q2 : wr z < wr x
    · rw [if_pos q2, if_neg (by omega)]
    · rw [if_neg q2, if_pos (by omega)]
theorem wr_1 : wr 1 = 1 := by decide +kernel
theorem m_138w (x y z : Int) : (wr (f_138 x y z) = 0) = ¬ (wr y ≤ wr x ∧ wr x ≤ wr z) := by
  rw [m_138]
  by_cases q : wr y ≤ wr x ∧ wr x ≤ wr z
  · rw [if_pos q]; exact propext ⟨fun w => absurd w (by decide +kernel), fun w => absurd q w⟩
  · rw [if_neg q]; exact propext ⟨fun _ => q, fun _ => by decide +kernel⟩
theorem m_138o (x y z : Int) : wr (f_138 x y z) = 0 ∨ wr (f_138 x y z) = 1 := by
  rw [m_138]
  split
  · exact Or.inr (by decide +kernel)
  · exact Or.inl (by decide +kernel)
theorem m_146 {M A : xM} {T : Int} (hW : WF T A) (k : Nat) (hk : (k : Int) ≤ A 0 7 + A 0 8) : f_146 (mS M A) (k : Int) = some (aLen A k) := by
  have h7 := hW.1.2.2.2.2.2.1
  unfold f_146 f_146_L4
  refine loop_to (fun i => (aLen A i, (i : Int))) k (fun i hi => ?_) ?_ (by show k < 1000000; omega)
  · show f_146_L4b (mS M A) (k : Int) (aLen A i) (i : Int) = _
    have h1 := WF_len hW (i := i) (by omega) (by omega) (WF_lay1 hW (i := i) (by omega))
    have h2 := aLen_b hW (n := i) (by omega)
    have e1 : f_139 (mS M A) (14 + (i : Int)) = some (A 0 (14 + i)) := by
      have := m_139 (M := M) (A := A) (k := 14 + i) (by omega)
      rw [show ((14 + i : Nat) : Int) = 14 + (i : Int) by omega] at this
      exact this
    unfold f_146_L4b
    rw [wri (k : Int) (by omega) (by omega), wri (i : Int) (by omega) (by omega), if_neg (by omega), e1]
    show (if wr (A 0 (14 + i)) ≤ wr (aLen A i) then _ else _) = _
    rw [wri (A 0 (14 + i)) (by omega) (by omega), wri (aLen A i) (by omega) (by omega)]
    show _ = some (Sum.inl (aLen A (i + 1), ((i + 1 : Nat) : Int)))
    have e2 : aLen A (i + 1) = if aLen A i < A 0 (14 + i) then A 0 (14 + i) else aLen A i := rfl
    rw [e2]
    by_cases q : A 0 (14 + i) ≤ aLen A i
    · rw [if_pos q, if_neg (by omega)]; rfl
    · rw [if_neg q, if_pos (by omega)]; rfl
  · show f_146_L4b (mS M A) (k : Int) (aLen A k) (k : Int) = _
    unfold f_146_L4b
    rw [if_pos (Int.le_refl _)]
theorem m_7 {M A : xM} : f_139 (mS M A) 7 = some (A 0 7) := m_139 (k := 7) (by decide)
theorem m_147 {M A : xM} {T : Int} (hW : WF T A) : f_147 (mS M A) = some (aLen A (A 0 7).toNat) := by
  have h7 := hW.1.2.2.2.2.2.1
  unfold f_147
  rw [m_7]
  show (f_146 (mS M A) (A 0 7)).bind _ = _
  have := m_146 (M := M) hW (A 0 7).toNat (by omega)
  rw [show (((A 0 7).toNat : Nat) : Int) = A 0 7 by omega] at this
  rw [this]; rfl
