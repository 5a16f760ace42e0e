/-! MEANING, 2: the state of a pedal: row 0 its numbers (as the reference numbers them), row l + 1 the forces of the layer l (7: of the take) -/
def aLen (A : xM) (n : Nat) : Int := maxN n (fun i => A 0 (14 + i))
def tkc (A : xM) : Int := if A 0 0 = 1 then 24 else 2 * A 0 6
abbrev tkr (A : xM) : Prop := A 0 0 = 1 ∨ A 0 0 = 3
def RCs (M : xM) (b : Nat) (A : xM) : Prop := M b 3 = A 0 2 ∧ M b 4 = A 0 0 ∧ M b 5 = A 0 7 ∧ M b 6 = A 0 8 ∧ M b 7 = A 0 1 ∧ M b 8 = A 0 9 ∧ M b 9 = A 0 10 ∧ M b 10 = A 0 13 ∧ M (b + 1) 0 = A 0 3 ∧ M (b + 1) 1 = A 0 4 ∧ M (b + 1) 2 = A 0 5
def RCl (M : xM) (b : Nat) (A : xM) (i : Nat) : Prop := M (b + 7 + 3 * i) 1 = A 0 (14 + i) ∧ M (b + 6 + 3 * i) 1 = A 0 (20 + i) ∧ M (b + 6 + 3 * i) 2 = A 0 (26 + i) ∧ ∀ x : Nat, x < 1728 → (x : Int) < 36 * A 0 (14 + i) → M (b + 8 + 3 * i) x = A (i + 1) x
def RCt (M : xM) (b : Nat) (A : xM) : Prop := M (b + 3) 1 = A 0 11 ∧ M (b + 3) 2 = A 0 12 ∧ M (b + 4) 1 = tkc A ∧ ∀ x : Nat, x < 1728 → (x : Int) < 36 * tkc A → M (b + 5) x = A 7 x
/-- the class's pedal b is in the state A -/
def RC (M : xM) (b : Nat) (A : xM) : Prop := RCs M b A ∧ (∀ i : Nat, i < 6 → (i : Int) < A 0 7 + A 0 8 → RCl M b A i) ∧ (tkr A → RCt M b A)
def WFs (T : Int) (A : xM) : Prop := (0 ≤ A 0 0 ∧ A 0 0 ≤ 4) ∧ (A 0 2 = 0 ∨ A 0 2 = 1) ∧ (2 ≤ A 0 3 ∧ A 0 3 ≤ 16) ∧ (0 ≤ A 0 4 ∧ A 0 4 ≤ 8) ∧ (0 ≤ A 0 5 ∧ A 0 5 ≤ 100) ∧ (0 ≤ A 0 7 ∧ 0 ≤ A 0 8 ∧ A 0 7 + A 0 8 ≤ 6) ∧
  (0 ≤ A 0 9 ∧ A 0 9 ≤ T) ∧ (0 ≤ A 0 10 ∧ A 0 10 ≤ T) ∧ (0 ≤ A 0 13 ∧ A 0 13 ≤ T) ∧ (0 ≤ A 0 11 ∧ A 0 11 ≤ 99) ∧ (0 ≤ A 0 12 ∧ A 0 12 ≤ 96) ∧ (0 ≤ A 0 1 ∧ A 0 1 ≤ 96)
def WFm (A : xM) : Prop := (A 0 0 ≤ 1 → A 0 7 = 0 ∧ A 0 8 = 0 ∧ A 0 1 = 0) ∧ (2 ≤ A 0 0 → 1 ≤ A 0 7 ∧ A 0 1 < 2 * aLen A (A 0 7).toNat) ∧ (1 ≤ A 0 7 → 1 ≤ A 0 6 ∧ A 0 6 ≤ 24 ∧ A 0 14 = A 0 6) ∧ (A 0 0 = 1 → A 0 12 = 0) ∧ (A 0 0 = 3 → A 0 7 ≤ 5) ∧ (¬ tkr A → A 0 11 = 0)
def WFl (T : Int) (A : xM) : Prop := ∀ i : Nat, i < 6 → (i : Int) < A 0 7 + A 0 8 → (A 0 (14 + i) = A 0 6 ∨ A 0 (14 + i) = 2 * A 0 6) ∧ (A 0 (20 + i) = 0 ∨ A 0 (20 + i) = 1) ∧ (0 ≤ A 0 (26 + i) ∧ A 0 (26 + i) ≤ T)
def WFf (A : xM) : Prop := ∀ l x : Nat, l < 7 → x < 1728 → 0 ≤ A (l + 1) x ∧ A (l + 1) x ≤ 99
def WFt (A : xM) : Prop := ∀ x : Nat, x < 1728 → (¬ tkr A ∨ 36 * tkc A ≤ x) → A 7 x = 0
/-- what holds of each state; T: how much time may have gone -/
def WF (T : Int) (A : xM) : Prop := WFs T A ∧ WFm A ∧ WFl T A ∧ WFf A ∧ WFt A
/-- between calls -/
def WX (T : Int) (A : xM) : Prop := WF T A ∧ (A 0 0 = 1 → A 0 11 < 48) ∧ (A 0 0 = 3 → A 0 11 < 4 * A 0 6)
theorem RC_frame {M M' : xM} {b : Nat} {A : xM} (h : ∀ r, b ≤ r → r < b + 24 → M' r = M r) (hR : RC M b A) : RC M' b A := by
  obtain ⟨h1, h2, h3⟩ := hR
  refine ⟨?_, fun i hi hl => ?_, fun ht => ?_⟩
  · unfold RCs at h1 ⊢
    rw [h b (by omega) (by omega), h (b + 1) (by omega) (by omega)]; exact h1
  · have := h2 i hi hl
    unfold RCl at this ⊢
    rw [h (b + 7 + 3 * i) (by omega) (by omega), h (b + 6 + 3 * i) (by omega) (by omega), h (b + 8 + 3 * i) (by omega) (by omega)]; exact this
  · have := h3 ht
    unfold RCt at this ⊢
    rw [h (b + 3) (by omega) (by omega), h (b + 4) (by omega) (by omega), h (b + 5) (by omega) (by omega)]; exact this
theorem WF_len {T : Int} {A : xM} (h : WF T A) {i : Nat} (hi : i < 6) (hl : (i : Int) < A 0 7 + A 0 8) (h1 : 1 ≤ A 0 7) : 1 ≤ A 0 (14 + i) ∧ A 0 (14 + i) ≤ 48 := by
  have a := (h.2.2.1 i hi hl).1
  have c := h.2.1.2.2.1 h1
  omega
theorem WF_lay1 {T : Int} {A : xM} (h : WF T A) {i : Nat} (hl : (i : Int) < A 0 7 + A 0 8) : 1 ≤ A 0 7 := by
  have h1 := h.2.1.1
  have h2 := h.2.1.2.1
  have h3 := h.1.2.2.2.2.2.1
  by_cases q : A 0 0 ≤ 1
  · have := h1 q; omega
  · exact (h2 (by omega)).1
theorem aLen_b {T : Int} {A : xM} (h : WF T A) {n : Nat} (hn : (n : Int) ≤ A 0 7 + A 0 8) : 0 ≤ aLen A n ∧ aLen A n ≤ 48 := by
  have h3 := h.1.2.2.2.2.2.1
  refine maxN_b (by decide) n (fun i hi => ?_)
  exact (WF_len h (by omega) (by omega) (WF_lay1 h (i := i) (by omega))).2
/-! the class's small reads -/
theorem c_57 {b i : Nat} (hi : i < 6) : f_57 b (i : Int) = b + 6 + 3 * i := by
  unfold f_57
  rw [wri _ (by omega) (by omega), if_neg (by omega), if_neg (by omega)]; simp
theorem c_57T {b i : Nat} (hb : Tg b = 7) (hi : i < 6) : Tg (f_57 b (i : Int)) = 3 := by rw [c_57 hi]; exact gL7 hb i hi
theorem c_58 {M : xM} {b : Nat} {A : xM} {T : Int} (hR : RC M b A) (hW : WF T A) (a : Int) : f_58 M b a = if 0 ≤ wr a ∧ wr a < A 0 7 then b + 6 + 3 * (wr a).toNat else 0 := by
  have h5 : M b 5 = A 0 7 := hR.1.2.2.1
  have h7 := hW.1.2.2.2.2.2.1
  unfold f_58 f_57
  rw [h5, wri _ (by omega) (by omega)]
  by_cases q1 : A 0 7 ≤ wr a
  · rw [if_pos q1, if_neg (by omega)]
  · rw [if_neg q1]
    by_cases q2 : wr a < 0
    · rw [if_pos q2, if_neg (by omega)]
    · rw [if_neg q2, if_neg (by omega), if_pos (by omega)]
theorem c_58n {M : xM} {b : Nat} {A : xM} {T : Int} (hR : RC M b A) (hW : WF T A) (i : Nat) (hi : i < 7) : f_58 M b (i : Int) = if (i : Int) < A 0 7 then b + 6 + 3 * i else 0 := by
  rw [c_58 hR hW, wri _ (by omega) (by omega)]
  by_cases q : (i : Int) < A 0 7
  · rw [if_pos (by omega), if_pos q]; simp
  · rw [if_neg (by omega), if_neg q]
theorem c_66 {M : xM} {b : Nat} {A : xM} {T : Int} (hb : Tg b = 7) (hR : RC M b A) (hW : WF T A) (i : Nat) (hi : i < 6) : f_66 M b (i : Int) = some (if (i : Int) < A 0 7 ∧ A 0 (20 + i) = 0 then b + 6 + 3 * i else 0) := by
  have h7 := hW.1.2.2.2.2.2.1
  unfold f_66
  rw [c_58n hR hW i (by omega)]
  by_cases q : (i : Int) < A 0 7
  · rw [if_pos q, if_neg (by omega), gd_pos (gL7 hb i hi), (hR.2.1 i hi (by omega)).2.1]
    have hm := (hW.2.2.1 i hi (by omega)).2.1
    rw [wri _ (by omega) (by omega)]
    by_cases q2 : A 0 (20 + i) = 0
    · rw [if_pos q2, if_pos ⟨q, q2⟩]
    · rw [if_neg q2, if_neg (fun w => q2 w.2)]
  · rw [if_neg q, if_pos rfl, if_neg (fun w => q w.1)]
theorem c_132 (k : Int) : f_132 k = if 0 ≤ wr k ∧ wr k < 36 then 1 else 0 := by
  unfold f_132
  by_cases q : wr k < 0
  · rw [if_pos q, if_neg (by omega)]
  · rw [if_neg q]
    by_cases q2 : 36 ≤ wr k
    · rw [if_pos q2, if_neg (by omega)]
    · rw [if_neg q2, if_pos (by omega)]
theorem c_132w (k : Int) : (wr (f_132 k) = 0) = ¬ (0 ≤ wr k ∧ wr k < 36) := by
  rw [c_132]
  by_cases q : 0 ≤ wr k ∧ wr k < 36
  · rw [if_pos q]; exact propext ⟨fun w => absurd w (by decide +kernel), fun w => absurd q w⟩
  · rw [if_neg q]; exact propext ⟨fun _ => q, fun _ => by decide +kernel⟩
theorem c_30 {M : xM} {n : Nat} {c k : Nat} (hc : c < 48) (hk : k < 100) : f_30 M n (c : Int) (k : Int) = if k < 36 then M (n + 1) (36 * c + k) else 0 := by
  unfold f_30
  simp only [c_132w]
  rw [wri (k : Int) (by omega) (by omega), wri ((c : Int) * 36 + k) (by omega) (by omega)]
  by_cases q : k < 36
  · rw [if_neg (by omega), if_neg (by omega), if_neg (by omega), if_pos q]
    congr 1; omega
  · rw [if_pos (by omega), if_neg q]
theorem c_134 {x y : Int} (hx : 0 ≤ x ∧ x < 2147483648) (hy : 0 < y ∧ y < 2147483648) : f_134 x y = x % y := by
  unfold f_134
  rw [wri y (by omega) (by omega), wri x (by omega) (by omega), if_neg (by omega), Int.tmod_eq_emod_of_nonneg hx.1]
theorem c_62 {M : xM} {b : Nat} {A : xM} {T : Int} (hb : Tg b = 7) (hR : RC M b A) (hW : WF T A) (k : Nat) (hk : (k : Int) ≤ A 0 7 + A 0 8) : f_62 M b (k : Int) = some (aLen A k) := by
  have h7 := hW.1.2.2.2.2.2.1
  unfold f_62 f_62_L4
  refine loop_to (fun i => (aLen A i, (i : Int))) k (fun i hi => ?_) ?_ (by show k < 1000000; omega)
  · show f_62_L4b M b (k : Int) (aLen A i) (i : Int) = _
    have hl := hR.2.1 i (by omega) (by omega)
    have h1 := WF_len hW (i := i) (by omega) (by omega) (WF_lay1 hW (i := i) (by omega))
    have h2 := aLen_b hW (n := i) (by omega)
    unfold f_62_L4b
    rw [wri (k : Int) (by omega) (by omega), wri (i : Int) (by omega) (by omega), if_neg (by omega), c_57 (by omega), if_neg (by omega), gd_pos (gL7 hb i (by omega))]
    unfold xmax f_29
    rw [show b + 6 + 3 * i + 1 = b + 7 + 3 * i by omega, hl.1, wri (aLen A i) (by omega) (by omega), wri (A 0 (14 + i)) (by omega) (by omega)]
    rfl
  · show f_62_L4b M b (k : Int) (aLen A k) (k : Int) = _
    unfold f_62_L4b
    rw [if_pos (Int.le_refl _)]
