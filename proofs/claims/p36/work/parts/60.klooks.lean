/-! P36, 1: the class's looks, said of states -/
section KL
variable {M A : xM} {T : Int} {P : Nat → xM} {n o : Nat} {S : xM} {sv : Int}
theorem CWr_ear {M' : xM} {pd : Nat → Int} {len : Nat} {st : Nat → Int} {stp : Int} (hr : ∀ r, (r < 2 ∨ 26 ≤ r) → r < 178 → M' r = M r) (h : CWr M P n o S sv pd len st stp) : CWr M' P n o S sv pd len st stp := by
  have ho := h.1.2.2.2
  obtain ⟨h1, h2, h3, h4, h5, h6, h7⟩ := h
  refine ⟨?_, fun i hi => ?_, ?_, fun w => ?_, ?_, ?_, fun w => ?_⟩
  · rw [hr 50 (by omega) (by omega)]; exact h1
  · exact RC_frame (fun r r1 r2 => hr r (by omega) (by omega)) (h2 i hi)
  · rw [hr 1 (by omega) (by omega)]; exact h3
  · exact RC_frame (fun r r1 r2 => hr r (by omega) (by omega)) (h4 w)
  · rw [hr 172 (by omega) (by omega), hr 173 (by omega) (by omega)]; exact h5
  · rw [hr 176 (by omega) (by omega)]; exact h6
  · rw [hr 176 (by omega) (by omega)]; exact h7 w
/-- the class's object: its state A, its history, its snapshot; the pad is empty -/
def KX (T : Int) (M A : xM) (P : Nat → xM) (n o : Nat) (S : xM) (sv : Int) : Prop := RC M 2 A ∧ CWr M P n o S sv (fun _ => 0) 0 (fun _ => 0) 0 ∧ WX T A ∧ OKr T P n S sv (fun _ => 0) 0 0
theorem KX_EF {M' : xM} (h : EF M M') (k : KX T M A P n o S sv) : KX T M' A P n o S sv := ⟨EF_RC h k.1, CWr_ear (fun r _ b => h r (by omega) (by omega) (by omega) (by omega)) k.2.1, k.2.2⟩
theorem KX_mono {U : Int} (h : KX T M A P n o S sv) (ht : T ≤ U) : KX U M A P n o S sv := ⟨h.1, h.2.1, WX_mono h.2.2.1 ht, OKr_mono h.2.2.2 ht⟩
theorem EF_tr {M1 M2 M3 : xM} (h : EF M1 M2) (k : EF M2 M3) : EF M1 M3 := fun r a b c d => (k r a b c d).trans (h r a b c d)
def unt (x d : Int) : Int := if x % d = 0 then 0 else d - x % d
theorem k_c0 (hR : RC M 2 A) : f_119 M 0 = some (A 0 0) := by
  unfold f_119
  rw [wri 0 (by decide) (by decide), if_pos rfl]
  rw [hR.1.2.1]
theorem k_c1 (hR : RC M 2 A) (hX : WX T A) : f_119 M 1 = some (aLen A (A 0 7).toNat) := by
  unfold f_119
  rw [wri 1 (by decide) (by decide), if_neg (by decide), if_pos rfl]
  rw [c_62' (by decide +kernel) hR hX.1]; rfl
theorem k_c2 (hR : RC M 2 A) (hX : WX T A) : f_119 M 2 = some (if A 0 7 = 0 then 0 else A 0 6) := by
  unfold f_119
  rw [wri 2 (by decide) (by decide), if_neg (by decide), if_neg (by decide), if_pos rfl]
  have h7 := hX.1.1.2.2.2.2.2.1
  by_cases q : A 0 7 = 0
  · have e := c_58n hR hX.1 0 (by decide)
    rw [if_neg (by omega), show ((0 : Nat) : Int) = 0 from rfl] at e
    have e63 : f_63 M 2 = some 0 := by unfold f_63; rw [e, if_pos rfl]
    rw [if_pos q, e63]; rfl
  · rw [if_neg q, c_63 (by decide +kernel) hR hX.1 (by omega)]; rfl
theorem k_c3 (hR : RC M 2 A) : f_119 M 3 = some (A 0 7) := by
  unfold f_119
  rw [wri 3 (by decide) (by decide), if_neg (by decide), if_neg (by decide), if_neg (by decide), if_pos rfl]
  rw [hR.1.2.2.1]
theorem k_c4 (hR : RC M 2 A) : f_119 M 4 = some (A 0 8) := by
  unfold f_119
  rw [wri 4 (by decide) (by decide), if_neg (by decide), if_neg (by decide), if_neg (by decide), if_neg (by decide), if_pos rfl]
  rw [hR.1.2.2.2.1]
theorem k_c5 (hR : RC M 2 A) (hX : WX T A) : f_119 M 5 = some (if A 0 0 = 2 ∨ A 0 0 = 3 then A 0 1 else 0) := by
  have h61 : wr (f_61 M 2) = 0 ↔ ¬ (A 0 0 = 2 ∨ A 0 0 = 3) := by rw [c_61 hR hX.1]; exact iff_of_eq wr01
  unfold f_119
  rw [wri 5 (by decide) (by decide), if_neg (by decide), if_neg (by decide), if_neg (by decide), if_neg (by decide), if_neg (by decide), if_pos rfl]
  by_cases q : A 0 0 = 2 ∨ A 0 0 = 3
  · rw [if_neg (fun x => h61.mp x q), if_pos q, hR.1.2.2.2.2.1]
  · rw [if_pos (h61.mpr q), if_neg q]
theorem k_c7 (hR : RC M 2 A) (hX : WX T A) : f_119 M 7 = some (A 0 11) := by
  have h60 : wr (f_60 M 2) = 0 ↔ ¬ tkr A := by rw [c_60 hR hX.1]; exact iff_of_eq wr01
  unfold f_119
  rw [wri 7 (by decide) (by decide), if_neg (by decide), if_neg (by decide), if_neg (by decide), if_neg (by decide), if_neg (by decide), if_neg (by decide), if_neg (by decide), if_pos rfl]
  by_cases q : tkr A
  · rw [if_neg (fun x => h60.mp x q)]
    exact congrArg some (hR.2.2 q).1
  · rw [if_pos (h60.mpr q), hX.1.2.1.2.2.2.2.2 q]
theorem k_c8 (hR : RC M 2 A) (hX : WX T A) : f_119 M 8 = some (sumN 1728 (pos1 (A 7))) := by
  have hW := hX.1
  have h60 : wr (f_60 M 2) = 0 ↔ ¬ tkr A := by rw [c_60 hR hW]; exact iff_of_eq wr01
  unfold f_119
  rw [wri 8 (by decide) (by decide), if_neg (by decide), if_neg (by decide), if_neg (by decide), if_neg (by decide), if_neg (by decide), if_neg (by decide), if_neg (by decide), if_neg (by decide), if_pos rfl]
  by_cases q : tkr A
  · have t := hR.2.2 q
    have htk : 0 ≤ tkc A ∧ tkc A ≤ 48 := by
      unfold tkc
      by_cases q1 : A 0 0 = 1
      · rw [if_pos q1]; omega
      · rw [if_neg q1]
        have := hW.2.1.2.2.1 (hW.2.1.2.1 (by rcases q with q | q <;> omega)).1
        omega
    have ec : M 6 1 = ((tkc A).toNat : Int) := by have : M 6 1 = tkc A := t.2.2.1; omega
    have ev : ∀ x, x < 36 * (tkc A).toNat → M (6 + 1) x = A 7 x := fun x hx => t.2.2.2 x (by omega) (by omega)
    have e36 := c_36 (M := M) (n0 := 6) (c := (tkc A).toNat) (by omega) ec (fun x hx => by rw [ev x hx]; exact hW.2.2.2.1 6 x (by decide) (by omega))
    rw [if_neg (fun x => h60.mp x q), e36]
    show some (sumN (36 * (tkc A).toNat) (pos1 (M (6 + 1)))) = _
    rw [pos1_c ev]
    have ez := sumN_ext (f := pos1 (A 7)) (k := 36 * (tkc A).toNat) (1728 - 36 * (tkc A).toNat) (fun i a b => by
      unfold pos1
      rw [hW.2.2.2.2 i (by omega) (Or.inr (by omega)), if_neg (by decide)])
    rw [show 36 * (tkc A).toNat + (1728 - 36 * (tkc A).toNat) = 1728 by omega] at ez
    rw [ez]
  · rw [if_pos (h60.mpr q)]
    refine congrArg some (sumN_0 1728 (fun i hi => ?_)).symm
    unfold pos1
    show (if 0 < A 7 i then (1 : Int) else 0) = 0
    rw [hW.2.2.2.2 i hi (Or.inl q), if_neg (by decide)]
theorem k_c9 (hR : RC M 2 A) (hX : WX T A) : f_119 M 9 = some (A 0 2) := by
  unfold f_119
  rw [wri 9 (by decide) (by decide), if_neg (by decide), if_neg (by decide), if_neg (by decide), if_neg (by decide), if_neg (by decide), if_neg (by decide), if_neg (by decide), if_neg (by decide), if_neg (by decide), if_pos rfl, hR.1.1]
  rcases hX.1.1.2.1 with e | e
  · rw [e, if_pos wr0]
  · rw [e, if_neg (by decide +kernel)]
theorem k_c10 (hR : RC M 2 A) : f_119 M 10 = some (A 0 3) := by
  unfold f_119
  rw [wri 10 (by decide) (by decide), if_neg (by decide), if_neg (by decide), if_neg (by decide), if_neg (by decide), if_neg (by decide), if_neg (by decide), if_neg (by decide), if_neg (by decide), if_neg (by decide), if_neg (by decide), if_pos rfl]
  exact congrArg some ((c_59 (M := M) (b := 2) (w := 0) (by decide)).trans hR.1.2.2.2.2.2.2.2.2.1)
theorem k_c11 (hR : RC M 2 A) : f_119 M 11 = some (A 0 4) := by
  unfold f_119
  rw [wri 11 (by decide) (by decide), if_neg (by decide), if_neg (by decide), if_neg (by decide), if_neg (by decide), if_neg (by decide), if_neg (by decide), if_neg (by decide), if_neg (by decide), if_neg (by decide), if_neg (by decide), if_neg (by decide), if_pos rfl]
  exact congrArg some ((c_59 (M := M) (b := 2) (w := 1) (by decide)).trans hR.1.2.2.2.2.2.2.2.2.2.1)
theorem k_c12 (hR : RC M 2 A) : f_119 M 12 = some (A 0 5) := by
  unfold f_119
  rw [wri 12 (by decide) (by decide), if_neg (by decide), if_neg (by decide), if_neg (by decide), if_neg (by decide), if_neg (by decide), if_neg (by decide), if_neg (by decide), if_neg (by decide), if_neg (by decide), if_neg (by decide), if_neg (by decide), if_neg (by decide), if_pos rfl]
  exact congrArg some ((c_59 (M := M) (b := 2) (w := 2) (by decide)).trans hR.1.2.2.2.2.2.2.2.2.2.2)
theorem k_c15 (hR : RC M 2 A) : f_119 M 15 = some (A 0 13) := by
  unfold f_119
  rw [wri 15 (by decide) (by decide), if_neg (by decide), if_neg (by decide), if_neg (by decide), if_neg (by decide), if_neg (by decide), if_neg (by decide), if_neg (by decide), if_neg (by decide), if_neg (by decide), if_neg (by decide), if_neg (by decide), if_neg (by decide), if_neg (by decide), if_neg (by decide), if_neg (by decide), if_pos rfl]
  rw [hR.1.2.2.2.2.2.2.2.1]
theorem k_c16 : f_119 M 16 = some (-1) := by
  unfold f_119
  rw [wri 16 (by decide) (by decide), if_neg (by decide), if_neg (by decide), if_neg (by decide), if_neg (by decide), if_neg (by decide), if_neg (by decide), if_neg (by decide), if_neg (by decide), if_neg (by decide), if_neg (by decide), if_neg (by decide), if_neg (by decide), if_neg (by decide), if_neg (by decide), if_neg (by decide), if_neg (by decide)]
theorem k_c1x (hR : RC M 2 A) {j : Nat} (hj : j < 3) : f_119 M (10 + (j : Int)) = some (A 0 (3 + j)) := by
  rcases (show j = 0 ∨ j = 1 ∨ j = 2 by omega) with e | e | e <;> subst e
  · exact k_c10 hR
  · exact k_c11 hR
  · exact k_c12 hR
/-- a layer on the loop -/
theorem k_lay (hR : RC M 2 A) (hX : WX T A) {i : Nat} (hi : (i : Int) < A 0 7) : f_58 M 2 (i : Int) = 2 + 6 + 3 * i ∧ Tg (2 + 6 + 3 * i) = 3 ∧ M (2 + 6 + 3 * i + 1) 1 = ((A 0 (14 + i)).toNat : Int) ∧ (∀ x, x < 36 * (A 0 (14 + i)).toNat → M (2 + 6 + 3 * i + 1 + 1) x = A (i + 1) x) ∧ (∀ x, x < 36 * (A 0 (14 + i)).toNat → 0 ≤ M (2 + 6 + 3 * i + 1 + 1) x ∧ M (2 + 6 + 3 * i + 1 + 1) x ≤ 99) ∧ (1 ≤ A 0 (14 + i) ∧ A 0 (14 + i) ≤ 48) := by
  have hW := hX.1
  have h7 := hW.1.2.2.2.2.2.1
  have hr := hR.2.1 i (by omega) (by omega)
  have hlen := WF_len hW (i := i) (by omega) (by omega) (by omega)
  have ev : ∀ x, x < 36 * (A 0 (14 + i)).toNat → M (2 + 6 + 3 * i + 1 + 1) x = A (i + 1) x := fun x hx => by
    rw [show 2 + 6 + 3 * i + 1 + 1 = 2 + 8 + 3 * i by omega]
    exact hr.2.2.2 x (by omega) (by omega)
  refine ⟨?_, gL7 (r := 2) (by decide +kernel) i (by omega), ?_, ev, fun x hx => ?_, hlen⟩
  · rw [c_58n hR hW i (by omega), if_pos hi]
  · rw [show 2 + 6 + 3 * i + 1 = 2 + 7 + 3 * i by omega, hr.1]; omega
  · rw [ev x hx]; exact hW.2.2.2.1 i x (by omega) (by omega)
theorem k_l0 (hR : RC M 2 A) (hX : WX T A) {i : Nat} (hi : (i : Int) < A 0 7) : f_112 M (i : Int) 0 = some (A 0 (14 + i)) := by
  obtain ⟨k1, k2, k3, k4, k5, k6⟩ := k_lay hR hX hi
  have h7 := hX.1.1.2.2.2.2.2.1
  unfold f_112
  rw [k1, if_neg (by omega), wri 0 (by decide) (by decide), if_pos rfl, gd_pos k2]
  unfold f_29
  rw [k3]
  congr 1; omega
theorem k_l1 (hR : RC M 2 A) (hX : WX T A) {i : Nat} (hi : (i : Int) < A 0 7) : f_112 M (i : Int) 1 = some (sumN (36 * (A 0 (14 + i)).toNat) (pos1 (A (i + 1)))) := by
  obtain ⟨k1, k2, k3, k4, k5, k6⟩ := k_lay hR hX hi
  have h7 := hX.1.1.2.2.2.2.2.1
  unfold f_112
  rw [k1, if_neg (by omega), wri 1 (by decide) (by decide), if_neg (by decide), if_pos rfl, gd_pos k2]
  rw [c_36 (by omega) k3 k5]
  exact congrArg some (pos1_c k4)
theorem k_l2 (hR : RC M 2 A) (hX : WX T A) {i : Nat} (hi : (i : Int) < A 0 7) : f_112 M (i : Int) 2 = some (sumN (36 * (A 0 (14 + i)).toNat) (A (i + 1))) := by
  obtain ⟨k1, k2, k3, k4, k5, k6⟩ := k_lay hR hX hi
  have h7 := hX.1.1.2.2.2.2.2.1
  unfold f_112
  rw [k1, if_neg (by omega), wri 2 (by decide) (by decide), if_neg (by decide), if_neg (by decide), if_pos rfl, gd_pos k2]
  rw [c_37 (by omega) k3]
  exact congrArg some (sumN_c _ k4)
theorem k_l3 (hR : RC M 2 A) (hX : WX T A) {i : Nat} (hi : (i : Int) < A 0 7) : f_112 M (i : Int) 3 = some (maxN (36 * (A 0 (14 + i)).toNat) (A (i + 1))) := by
  obtain ⟨k1, k2, k3, k4, k5, k6⟩ := k_lay hR hX hi
  have h7 := hX.1.1.2.2.2.2.2.1
  unfold f_112
  rw [k1, if_neg (by omega), wri 3 (by decide) (by decide), if_neg (by decide), if_neg (by decide), if_neg (by decide), if_pos rfl, gd_pos k2]
  have e38 := c_38 (M := M) (low := 0) (by decide) (by omega) k3 k5
  rw [show ((0 : Nat) : Int) = 0 from rfl] at e38
  rw [e38]
  refine congrArg some (maxN_c _ (fun x hx => ?_))
  unfold fromK
  rw [if_pos (by omega)]; exact k4 x hx
theorem k_l4 (hR : RC M 2 A) (hX : WX T A) {i : Nat} (hi : (i : Int) < A 0 7) : f_112 M (i : Int) 4 = some (A 0 (20 + i)) := by
  obtain ⟨k1, k2, k3, k4, k5, k6⟩ := k_lay hR hX hi
  have h7 := hX.1.1.2.2.2.2.2.1
  unfold f_112
  rw [k1, if_neg (by omega), wri 4 (by decide) (by decide), if_neg (by decide), if_neg (by decide), if_neg (by decide), if_neg (by decide), if_pos rfl, gd_pos k2]
  rw [(hR.2.1 i (by omega) (by omega)).2.1]
  rcases (hX.1.2.2.1 i (by omega) (by omega)).2.1 with e | e
  · rw [e, if_pos wr0]
  · rw [e, if_neg (by decide +kernel)]
theorem k_l5 (hR : RC M 2 A) (hX : WX T A) {i : Nat} (hi : (i : Int) < A 0 7) : f_112 M (i : Int) 5 = some (A 0 (26 + i)) := by
  obtain ⟨k1, k2, k3, k4, k5, k6⟩ := k_lay hR hX hi
  have h7 := hX.1.1.2.2.2.2.2.1
  unfold f_112
  rw [k1, if_neg (by omega), wri 5 (by decide) (by decide), if_neg (by decide), if_neg (by decide), if_neg (by decide), if_neg (by decide), if_neg (by decide), if_pos rfl, gd_pos k2]
  rw [(hR.2.1 i (by omega) (by omega)).2.2.1]
theorem k_lX (hR : RC M 2 A) (hX : WX T A) {l w : Int} (hl : -2147483648 ≤ l ∧ l < 2147483648) (h : ¬ (0 ≤ l ∧ l < A 0 7)) : f_112 M l w = some (-1) := by
  unfold f_112
  rw [c_58 hR hX.1 l, wri l hl.1 hl.2, if_neg h, if_pos rfl]
theorem k_note (hR : RC M 2 A) (hX : WX T A) {i c k : Nat} (hi : (i : Int) < A 0 7) (hc : (c : Int) < A 0 (14 + i)) (hk : k < 36) : f_113 M (i : Int) (c : Int) (k : Int) = some (A (i + 1) (36 * c + k)) := by
  obtain ⟨k1, k2, k3, k4, k5, k6⟩ := k_lay hR hX hi
  unfold f_113
  simp only [c_132w]
  unfold f_29
  rw [k1, if_neg (by omega), wri (k : Int) (by omega) (by omega), if_neg (by omega), wri (c : Int) (by omega) (by omega), if_neg (by omega), gd_pos k2, k3, wri _ (by omega) (by omega), if_pos (by omega), c_30 (by omega) (by omega), if_pos hk, k4 _ (by omega)]
theorem k_noteX (hR : RC M 2 A) (hX : WX T A) {i : Nat} (hi : (i : Int) < A 0 7) : f_113 M (i : Int) (A 0 (14 + i)) 0 = some (-1) := by
  obtain ⟨k1, k2, k3, k4, k5, k6⟩ := k_lay hR hX hi
  unfold f_113
  simp only [c_132w]
  unfold f_29
  rw [k1, if_neg (by omega), wri 0 (by decide) (by decide), if_neg (by omega), wri (A 0 (14 + i)) (by omega) (by omega), if_neg (by omega), gd_pos k2, k3, wri _ (by omega) (by omega), if_neg (by omega)]
theorem k_ring (hR : RC M 2 A) (hX : WX T A) {c k : Nat} (hc : (c : Int) < aLen A (A 0 7).toNat) (hk : k < 36) : ∃ M', f_114 M (c : Int) (k : Int) = some (aRing A (A 0 7).toNat c k, M') ∧ EF M M' := by
  have h7 := hX.1.1.2.2.2.2.2.1
  have hl := aLen_b hX.1 (n := (A 0 7).toNat) (by omega)
  have hq : wr (if 0 ≤ (c : Int) ∧ (c : Int) < aLen A (A 0 7).toNat then 1 else 0) = 0 ↔ ¬ (0 ≤ (c : Int) ∧ (c : Int) < aLen A (A 0 7).toNat) := iff_of_eq wr01
  refine ⟨rowU M 178 36 (aRing A (A 0 7).toNat c), ?_, EF_ring EF_rf⟩
  unfold f_114
  simp only [c_132w]
  rw [c_64 hR hX (by omega), Option.bind_some, wri (k : Int) (by omega) (by omega), if_neg (fun x => hq.mp x ⟨by omega, hc⟩), if_neg (by omega), c_1' hR hX (by omega), Option.bind_some]
  unfold f_2
  rw [wri (k : Int) (by omega) (by omega), if_neg (by omega), if_neg (by omega), rowU_at (by omega), Int.toNat_natCast]
theorem k_ring0 (hR : RC M 2 A) (hX : WX T A) (h0 : A 0 7 = 0) : f_114 M 0 0 = some (-1, M) := by
  have hq : wr (if 0 ≤ (0 : Int) ∧ (0 : Int) < aLen A (A 0 7).toNat then 1 else 0) = 0 ↔ ¬ (0 ≤ (0 : Int) ∧ (0 : Int) < aLen A (A 0 7).toNat) := iff_of_eq wr01
  unfold f_114
  rw [c_64 hR hX (by decide), Option.bind_some, if_pos (hq.mpr (by rw [len_0 h0]; omega))]
/-- what 'heard' answers -/
def aHeard (A : xM) (c : Nat) (w : Int) : Int := if w = 1 then aSum A (A 0 7).toNat c else if w = 0 then sumN 36 (pos1 (aRing A (A 0 7).toNat c)) else fnd w (aRing A (A 0 7).toNat c) 36
theorem k_heard (hR : RC M 2 A) (hX : WX T A) {c : Nat} {w : Int} (hc : (c : Int) < aLen A (A 0 7).toNat) (hw : 0 ≤ w ∧ w ≤ 4) : ∃ M', f_115 M (c : Int) w = some (aHeard A c w, M') ∧ EF M M' := by
  have h7 := hX.1.1.2.2.2.2.2.1
  have hl := aLen_b hX.1 (n := (A 0 7).toNat) (by omega)
  have hq : wr (if 0 ≤ (c : Int) ∧ (c : Int) < aLen A (A 0 7).toNat then 1 else 0) = 0 ↔ ¬ (0 ≤ (c : Int) ∧ (c : Int) < aLen A (A 0 7).toNat) := iff_of_eq wr01
  obtain ⟨X, hXd⟩ : ∃ X, X = rowU M 178 36 (aRing A (A 0 7).toNat c) := ⟨_, rfl⟩
  have hRr : ∀ k, k < 36 → X 178 k = aRing A (A 0 7).toNat c k := fun k hk => by rw [hXd]; exact rowU_at hk
  have hRb : ∀ k, k < 36 → 0 ≤ aRing A (A 0 7).toNat c k ∧ aRing A (A 0 7).toNat c k ≤ 100000 := fun k hk => by
    have := aRing_b hX.1 (n := (A 0 7).toNat) (cell := c) (key := k) (by omega); omega
  refine ⟨X, ?_, by rw [hXd]; exact EF_ring EF_rf⟩
  unfold f_115 aHeard
  rw [c_64 hR hX (by omega), Option.bind_some, wri w (by omega) (by omega), if_neg (fun x => hq.mp x ⟨by omega, hc⟩), c_1' hR hX (by omega), Option.bind_some, ← hXd]
  by_cases w0 : w = 0
  · rw [if_pos w0, if_neg (by omega), if_pos w0, c_3 hRr hRb]; rfl
  rw [if_neg w0]
  by_cases w1 : w = 1
  · rw [if_pos w1, if_pos w1, c_4 hRr]; rfl
  rw [if_neg w1, if_neg w1, if_neg w0]
  by_cases w2 : w = 2
  · rw [if_pos w2, c_5 hRr hRb, w2]; rfl
  rw [if_neg w2]
  by_cases w3 : w = 3
  · rw [if_pos w3, c_6 hRr hRb, w3]; rfl
  rw [if_neg w3, if_pos (by omega), c_7 hRr hRb, show w = 4 by omega]; rfl
theorem k_loud0 (hR : RC M 2 A) (h0 : A 0 7 = 0) : f_116 M = some (-2, M) := by
  have e5 : M 2 5 = A 0 7 := hR.1.2.2.1
  unfold f_116
  rw [e5, h0, if_pos wr0]
theorem k_loud (hR : RC M 2 A) (hX : WX T A) (h0 : A 0 7 ≠ 0) : ∃ M', f_116 M = some (fnd 4 (aSum A (A 0 7).toNat) (aLen A (A 0 7).toNat).toNat, M') ∧ EF M M' := by
  have h7 := hX.1.1.2.2.2.2.2.1
  have e5 : M 2 5 = A 0 7 := hR.1.2.2.1
  obtain ⟨k, hk⟩ : ∃ k : Nat, A 0 7 = (k : Int) := ⟨(A 0 7).toNat, by omega⟩
  have hkt : (A 0 7).toNat = k := by omega
  have hl := aLen_b hX.1 (n := k) (by omega)
  have hs : ∀ i, 0 ≤ aSum A k i ∧ aSum A k i ≤ 21384 := fun i => aSum_b hX.1 (by omega)
  have hmx : ∀ i, 0 ≤ maxN i (aSum A k) ∧ maxN i (aSum A k) ≤ 21384 := fun i => maxN_b (by decide) i (fun j _ => (hs j).2)
  rw [hkt]
  have ec : ∃ M', f_10 M 2 = some (fnd 4 (aSum A k) (aLen A k).toNat, M') ∧ EF M M' := by
    unfold f_10
    rw [c_62' (by decide +kernel) hR hX.1, Option.bind_some, hkt]
    unfold f_10_L18
    have key := loop_inv (b := fun s => f_10_L18b 2 (aLen A k) s.1 s.2.1 s.2.2.1 s.2.2.2) (s := ((-4 : Int), (0 : Int), (0 : Int), M)) (fun i s => s.1 = fnd 4 (aSum A k) i ∧ s.2.1 = maxN i (aSum A k) ∧ s.2.2.1 = (i : Int) ∧ EF M s.2.2.2) (Q := fun r => r.1 = fnd 4 (aSum A k) (aLen A k).toNat ∧ EF M r.2) (aLen A k).toNat ⟨rfl, rfl, rfl, EF_rf⟩ (fun i s hi hs2 => ?_) (fun s hs2 => ?_) (by show (aLen A k).toNat < 1000000; omega)
    · obtain ⟨r, k1, k2, k3⟩ := key
      obtain ⟨z, M'⟩ := r
      dsimp only at k2
      exact ⟨M', by rw [k1, k2], k3⟩
    · obtain ⟨v, g, j, M2⟩ := s
      obtain ⟨rfl, rfl, rfl, p2⟩ := hs2
      dsimp only at p2
      have b1 := hs i
      have b2 := hmx i
      have a1 := c_1' (EF_RC p2 hR) hX (cell := i) (by omega)
      rw [hkt] at a1
      have a2 : f_4 (rowU M2 178 36 (aRing A k i)) = some (aSum A k i) := c_4 (R := aRing A k i) (fun q hq => rowU_at hq)
      refine ⟨(fnd 4 (aSum A k) (i + 1), maxN (i + 1) (aSum A k), (i : Int) + 1, rowU M2 178 36 (aRing A k i)), ?_, rfl, rfl, by show (i : Int) + 1 = ((i + 1 : Nat) : Int); omega, EF_ring p2⟩
      show f_10_L18b 2 (aLen A k) (fnd 4 (aSum A k) i) (maxN i (aSum A k)) (i : Int) M2 = some (Sum.inl (fnd 4 (aSum A k) (i + 1), (if maxN i (aSum A k) < aSum A k i then aSum A k i else maxN i (aSum A k)), (i : Int) + 1, rowU M2 178 36 (aRing A k i)))
      unfold f_10_L18b
      rw [wri (aLen A k) (by omega) (by omega), wri (i : Int) (by omega) (by omega), if_neg (by omega), a1, Option.bind_some, a2, Option.bind_some, wri (aSum A k i) (by omega) (by omega), wri (maxN i (aSum A k)) (by omega) (by omega), fnd_4 (by decide) (by decide)]
      by_cases q2 : aSum A k i ≤ maxN i (aSum A k)
      · rw [if_pos q2, if_neg (by omega), if_neg (by omega)]
      · rw [if_neg q2, Option.bind_some, if_pos (by omega), if_pos (by omega)]
    · obtain ⟨v, g, j, M2⟩ := s
      obtain ⟨rfl, rfl, rfl, p2⟩ := hs2
      dsimp only at p2
      refine ⟨(fnd 4 (aSum A k) (aLen A k).toNat, M2), ?_, rfl, p2⟩
      show f_10_L18b 2 (aLen A k) _ _ (((aLen A k).toNat : Nat) : Int) M2 = _
      unfold f_10_L18b
      rw [wri (aLen A k) (by omega) (by omega), wri _ (by omega) (by omega), if_pos (by omega)]
  obtain ⟨M', k1, k2⟩ := ec
  refine ⟨M', ?_, k2⟩
  unfold f_116
  rw [e5, wri (A 0 7) (by omega) (by omega), if_neg h0, k1]; rfl
theorem k_lness0 (hR : RC M 2 A) (hX : WX T A) (h0 : A 0 7 = 0) : f_120 M = some (FP.dconst0, M) := by
  unfold f_120
  rw [c_62' (by decide +kernel) hR hX.1, Option.bind_some, len_0 h0, if_neg (by decide +kernel)]
def aAll (A : xM) (k : Nat) : Int := sumN (aLen A k).toNat (aSum A k)
theorem k_lness (hR : RC M 2 A) (hX : WX T A) (h0 : A 0 7 ≠ 0) : ∃ M', f_120 M = some (FP.ddiv (xi2d (aAll A (A 0 7).toNat)) (xi2d (aLen A (A 0 7).toNat)), M') ∧ EF M M' := by
  have h7 := hX.1.1.2.2.2.2.2.1
  have e5 : M 2 5 = A 0 7 := hR.1.2.2.1
  obtain ⟨k, hk⟩ : ∃ k : Nat, A 0 7 = (k : Int) := ⟨(A 0 7).toNat, by omega⟩
  have hkt : (A 0 7).toNat = k := by omega
  have hl := aLen_b hX.1 (n := k) (by omega)
  have hp := len_pos hX h0
  rw [hkt] at hp ⊢
  obtain ⟨M', k1, k2⟩ := c_8 hR hX (k := k) (by omega)
  have hn := ddiv_ok (s := sumN (aLen A k).toNat (aSum A k)) (l := aLen A k) (by omega)
  refine ⟨M', ?_, k2⟩
  unfold f_120
  rw [c_62' (by decide +kernel) hR hX.1, Option.bind_some, hkt, wri (aLen A k) (by omega) (by omega), if_pos (by omega), e5, hk, k1, Option.bind_some, gn_pos hn]
  rfl
theorem k_barIn (hT : T < 1000000000) (hR : RC M 2 A) (hX : WX T A) : f_121 M = if A 0 0 = 2 ∨ A 0 0 = 3 then unt (A 0 10) (2 * A 0 3) else -2 := by
  have hW := hX.1
  have hb := hW.1.2.2.1
  have hp := hW.1.2.2.2.2.2.2.2.1
  have e9 : M 2 9 = A 0 10 := hR.1.2.2.2.2.2.2.1
  have h61 : wr (f_61 M 2) = 0 ↔ ¬ (A 0 0 = 2 ∨ A 0 0 = 3) := by rw [c_61 hR hW]; exact iff_of_eq wr01
  unfold f_121 unt
  rw [c_bar hR, e9, until_is (by omega) (by omega)]
  by_cases q : A 0 0 = 2 ∨ A 0 0 = 3
  · rw [if_neg (fun x => h61.mp x q), if_pos q]
  · rw [if_pos (h61.mpr q), if_neg q]
theorem unt_b {x d : Int} (hd : 1 ≤ d) : 0 ≤ unt x d ∧ unt x d < d := by
  have a := Int.emod_nonneg x (show d ≠ 0 by omega)
  have b := Int.emod_lt_of_pos x (show 0 < d by omega)
  unfold unt; split <;> omega
theorem k_drift (hR : RC M 2 A) (hX : WX T A) {p : Int} (hp : 0 ≤ p ∧ p ≤ 99) : f_122 M p = some (if A 0 7 = 0 then -2 else if unt (p * aLen A (A 0 7).toNat) (A 0 3) < aLen A (A 0 7).toNat then unt (p * aLen A (A 0 7).toNat) (A 0 3) else -4) := by
  have hW := hX.1
  have h7 := hW.1.2.2.2.2.2.1
  have hb := hW.1.2.2.1
  unfold f_122
  rw [wri p (by omega) (by omega), if_neg (by omega), if_pos hp.2, c_62' (by decide +kernel) hR hW, Option.bind_some, c_bar hR]
  by_cases z : A 0 7 = 0
  · rw [if_pos z, len_0 z, if_pos wr0]
  · have hl := len_pos hX z
    obtain ⟨L, hL⟩ : ∃ L, L = aLen A (A 0 7).toNat := ⟨_, rfl⟩
    obtain ⟨x, hx⟩ : ∃ x, x = p * L := ⟨_, rfl⟩
    rw [← hL] at hl ⊢
    have hxb : 0 ≤ x ∧ x ≤ 5000 := by
      have a : 0 ≤ p * L := Int.mul_nonneg hp.1 (by omega)
      have b : p * L ≤ 99 * 48 := Int.mul_le_mul hp.2 hl.2 (by omega) (by decide)
      omega
    have hu := unt_b (x := x) (d := A 0 3) (by omega)
    have eu : (if x % A 0 3 = 0 then 0 else A 0 3 - x % A 0 3) = unt x (A 0 3) := rfl
    rw [if_neg z, ← hx, until_is (by omega) (by omega), eu, wri L (by omega) (by omega), if_neg (by omega), wri (unt x (A 0 3)) (by omega) (by omega)]
    by_cases q2 : L ≤ unt x (A 0 3)
    · rw [if_pos q2, if_neg (by omega)]
    · rw [if_neg q2, if_pos (by omega)]
theorem k_driftX : f_122 M 100 = some (-1) := by
  unfold f_122
  rw [wri 100 (by decide) (by decide), if_neg (by decide), if_neg (by decide)]
theorem k_rounded0 : f_124 M 0 = some (-1) := by
  unfold f_124
  rw [wri 0 (by decide) (by decide), if_pos (by decide)]
theorem k_rounded25 : f_124 M 25 = some (-1) := by
  unfold f_124
  rw [wri 25 (by decide) (by decide), if_neg (by decide), if_neg (by decide)]
theorem k_meets0 (hR : RC M 2 A) (hX : WX T A) (h0 : A 0 7 = 0) : f_123 M = some (-2) := by
  unfold f_123
  rw [c_62' (by decide +kernel) hR hX.1, Option.bind_some, len_0 h0, if_pos wr0]
theorem k_meets (hR : RC M 2 A) (hX : WX T A) (z : A 0 7 ≠ 0) : ∃ m : Nat, f_123 M = some ((1 + m : Nat) : Int) ∧ ((1 + m : Nat) : Int) ≤ A 0 3 ∧ (((1 + m : Nat) : Int) * aLen A (A 0 7).toNat) % A 0 3 = 0 ∧ ∀ i : Nat, i < m → (((1 + i : Nat) : Int) * aLen A (A 0 7).toNat) % A 0 3 ≠ 0 := by
  have hW := hX.1
  have h7 := hW.1.2.2.2.2.2.1
  have hb := hW.1.2.2.1
  have hl := len_pos hX z
  obtain ⟨L, hL⟩ : ∃ L, L = aLen A (A 0 7).toNat := ⟨_, rfl⟩
  rw [← hL] at hl ⊢
  obtain ⟨m, hm1, hm2, hm3⟩ := least (p := fun i => (((1 + i : Nat) : Int) * L) % A 0 3 = 0) ((A 0 3).toNat - 1) (by
    show (((1 + ((A 0 3).toNat - 1) : Nat) : Int) * L) % A 0 3 = 0
    rw [show ((1 + ((A 0 3).toNat - 1) : Nat) : Int) = A 0 3 by omega, Int.mul_emod_right])
  have mb : ∀ i : Nat, i ≤ m → 0 ≤ ((1 + i : Nat) : Int) * L ∧ ((1 + i : Nat) : Int) * L ≤ 1000 := fun i hi => by
    have a : 0 ≤ ((1 + i : Nat) : Int) * L := Int.mul_nonneg (by omega) (by omega)
    have b : ((1 + i : Nat) : Int) * L ≤ 16 * 48 := Int.mul_le_mul (by omega) hl.2 (by omega) (by decide)
    omega
  have eb : ∀ i : Nat, 0 ≤ (((1 + i : Nat) : Int) * L) % A 0 3 ∧ (((1 + i : Nat) : Int) * L) % A 0 3 < A 0 3 := fun i => ⟨Int.emod_nonneg _ (by omega), Int.emod_lt_of_pos _ (by omega)⟩
  refine ⟨m, ?_, by omega, hm2, hm3⟩
  unfold f_123
  rw [c_62' (by decide +kernel) hR hX.1, Option.bind_some, c_bar hR, ← hL, wri L (by omega) (by omega), if_neg (by omega)]
  unfold f_123_L33
  have key := loop_to (b := fun s => f_123_L33b M L (A 0 3) s) (fun i => ((1 + i : Nat) : Int)) m (r := ((1 + m : Nat) : Int)) (fun i hi => ?_) ?_ (by show m < 1000000; omega)
  · exact key
  · show f_123_L33b M L (A 0 3) ((1 + i : Nat) : Int) = some (Sum.inl ((1 + (i + 1) : Nat) : Int))
    have a := mb i (by omega)
    have b := eb i
    unfold f_123_L33b
    rw [wri (A 0 3) (by omega) (by omega), wri ((1 + i : Nat) : Int) (by omega) (by omega), if_neg (by omega), c_134 (by omega) (by omega), wri _ (by omega) (by omega), if_neg (hm3 i hi)]
    congr 2
  · show f_123_L33b M L (A 0 3) ((1 + m : Nat) : Int) = _
    have a := mb m (by omega)
    have b := eb m
    unfold f_123_L33b
    rw [wri (A 0 3) (by omega) (by omega), wri ((1 + m : Nat) : Int) (by omega) (by omega)]
    by_cases q : A 0 3 ≤ ((1 + m : Nat) : Int)
    · rw [if_pos q]
    · rw [if_neg q, c_134 (by omega) (by omega), wri _ (by omega) (by omega), if_pos hm2]
/-- a force after some passes -/
def fdd (fd : Int) : Nat → Int → Int
  | 0, g => g
  | p + 1, g => fdd fd p g * (100 - fd) / 100
theorem fdd_b {fd g : Int} (hf : 0 ≤ fd ∧ fd ≤ 100) (hg : 0 ≤ g ∧ g ≤ 99) : ∀ p, 0 ≤ fdd fd p g ∧ fdd fd p g ≤ 99
  | 0 => hg
  | p + 1 => by
    have h := fdd_b hf hg p
    show 0 ≤ fdd fd p g * (100 - fd) / 100 ∧ fdd fd p g * (100 - fd) / 100 ≤ 99
    have a : 0 ≤ fdd fd p g * (100 - fd) := Int.mul_nonneg h.1 (by omega)
    have b : fdd fd p g * (100 - fd) ≤ 99 * 100 := Int.mul_le_mul h.2 (by omega) (by omega) (by decide)
    omega
/-- the greatest force that is heard -/
def gAll (A : xM) : Int := maxN (A 0 7).toNat (gHe A)
theorem gAll_b (hX : WX T A) : 0 ≤ gAll A ∧ gAll A ≤ 99 := by
  have h7 := hX.1.1.2.2.2.2.2.1
  exact maxN_b (by decide) _ (fun i hi => (gHe_b hX (i := i) (by omega)).2)
/-- what 'silentIn' answers -/
def isSil (A : xM) (r : Int) : Prop := (r = -4 ∧ ∀ p : Nat, p ≤ 99 → fdd (A 0 5) p (gAll A) ≠ 0) ∨ ∃ p : Nat, r = (p : Int) ∧ p ≤ 99 ∧ fdd (A 0 5) p (gAll A) = 0 ∧ ∀ q : Nat, q < p → fdd (A 0 5) q (gAll A) ≠ 0
theorem isSil_one {r s : Int} (h : isSil A r) (k : isSil A s) : r = s := by
  rcases h with ⟨rfl, h⟩ | ⟨p, rfl, h1, h2, h3⟩
  · rcases k with ⟨rfl, _⟩ | ⟨q, _, k1, k2, _⟩
    · rfl
    · exact absurd k2 (h q k1)
  · rcases k with ⟨_, k⟩ | ⟨q, rfl, k1, k2, k3⟩
    · exact absurd h2 (k p h1)
    · rcases Nat.lt_or_ge p q with w | w
      · exact absurd h2 (k3 p w)
      · rcases Nat.lt_or_ge q p with w2 | w2
        · exact absurd k2 (h3 q w2)
        · congr 1; omega
theorem k_silent (hR : RC M 2 A) (hX : WX T A) (h0 : A 0 7 ≠ 0) : ∃ r, f_125 M = some r ∧ isSil A r := by
  have h7 := hX.1.1.2.2.2.2.2.1
  have hf := hX.1.1.2.2.2.2.1
  have hg := gAll_b hX
  have e5 : M 2 5 = A 0 7 := hR.1.2.2.1
  have es : f_59 M 2 2 = A 0 5 := (c_59 (b := 2) (w := 2) (by decide)).trans hR.1.2.2.2.2.2.2.2.2.2.2
  have e67 : f_67 M 2 = some (gAll A) := c_67 hR hX
  have e136 : ∀ v : Int, 0 ≤ v ∧ v ≤ 99 → f_136 v (A 0 5) = v * (100 - A 0 5) / 100 := fun v hv => by
    have a : 0 ≤ v * (100 - A 0 5) := Int.mul_nonneg hv.1 (by omega)
    have b : v * (100 - A 0 5) ≤ 99 * 100 := Int.mul_le_mul hv.2 (by omega) (by omega) (by decide)
    unfold f_136
    rw [wri (v * (100 - A 0 5)) (by omega) (by omega), Int.tdiv_eq_ediv_of_nonneg a]
  have body : ∀ i : Nat, i ≤ 99 → f_125_L23b M (fdd (A 0 5) i (gAll A)) (i : Int) = if fdd (A 0 5) i (gAll A) = 0 then some (Sum.inr (i : Int)) else some (Sum.inl (fdd (A 0 5) (i + 1) (gAll A), (i : Int) + 1)) := fun i hi => by
    have b := fdd_b hf hg i
    unfold f_125_L23b
    rw [wri (i : Int) (by omega) (by omega), if_neg (by omega), wri (fdd (A 0 5) i (gAll A)) (by omega) (by omega), es, e136 _ b]
    rfl
  unfold f_125
  rw [e5, wri (A 0 7) (by omega) (by omega), if_neg h0, e67, Option.bind_some]
  unfold f_125_L23
  by_cases q : ∃ p : Nat, p ≤ 99 ∧ fdd (A 0 5) p (gAll A) = 0
  · obtain ⟨p, hp, hz⟩ := q
    obtain ⟨m, hm1, hm2, hm3⟩ := least (p := fun i => fdd (A 0 5) i (gAll A) = 0) p hz
    have key := loop_to (b := fun s => f_125_L23b M s.1 s.2) (fun i => (fdd (A 0 5) i (gAll A), (i : Int))) m (r := (m : Int)) (fun i hi => ?_) ?_ (by show m < 1000000; omega)
    · exact ⟨_, key, Or.inr ⟨m, rfl, by omega, hm2, hm3⟩⟩
    · show f_125_L23b M (fdd (A 0 5) i (gAll A)) (i : Int) = some (Sum.inl (fdd (A 0 5) (i + 1) (gAll A), ((i + 1 : Nat) : Int)))
      rw [body i (by omega), if_neg (hm3 i hi)]; rfl
    · show f_125_L23b M (fdd (A 0 5) m (gAll A)) (m : Int) = some (Sum.inr (m : Int))
      rw [body m (by omega), if_pos hm2]
  · have qn : ∀ p : Nat, p ≤ 99 → fdd (A 0 5) p (gAll A) ≠ 0 := fun p hp hz => q ⟨p, hp, hz⟩
    have key := loop_to (b := fun s => f_125_L23b M s.1 s.2) (fun i => (fdd (A 0 5) i (gAll A), (i : Int))) 100 (r := (-4 : Int)) (fun i hi => ?_) ?_ (by show 100 < 1000000; decide)
    · exact ⟨_, key, Or.inl ⟨rfl, qn⟩⟩
    · show f_125_L23b M (fdd (A 0 5) i (gAll A)) (i : Int) = some (Sum.inl (fdd (A 0 5) (i + 1) (gAll A), ((i + 1 : Nat) : Int)))
      rw [body i (by omega), if_neg (qn i (by omega))]; rfl
    · show f_125_L23b M (fdd (A 0 5) 100 (gAll A)) ((100 : Nat) : Int) = some (Sum.inr (-4))
      unfold f_125_L23b
      rw [wri _ (by omega) (by omega), if_pos (by omega)]
theorem k_if0 (hR : RC M 2 A) (hX : WX T A) {k : Nat} (hk : 1 ≤ k ∧ (k : Int) ≤ A 0 7) : f_126 M (k : Int) 0 = some (aLen A k, M) := by
  have h7 := hX.1.1.2.2.2.2.2.1
  have e5 : M 2 5 = A 0 7 := hR.1.2.2.1
  unfold f_126
  rw [e5, wri (k : Int) (by omega) (by omega), if_neg (by omega), wri (A 0 7) (by omega) (by omega), if_pos hk.2, wri 0 (by decide) (by decide), if_pos rfl, c_62 (b := 2) (by decide +kernel) hR hX.1 k (by omega)]
  rfl
theorem k_if1 (hR : RC M 2 A) (hX : WX T A) {k : Nat} (hk : 1 ≤ k ∧ (k : Int) ≤ A 0 7) : ∃ M', f_126 M (k : Int) 1 = some (aAll A k, M') ∧ EF M M' := by
  have h7 := hX.1.1.2.2.2.2.2.1
  have e5 : M 2 5 = A 0 7 := hR.1.2.2.1
  obtain ⟨M', k1, k2⟩ := c_8 hR hX (k := k) hk.2
  refine ⟨M', ?_, k2⟩
  unfold f_126
  rw [e5, wri (k : Int) (by omega) (by omega), if_neg (by omega), wri (A 0 7) (by omega) (by omega), if_pos hk.2, wri 1 (by decide) (by decide), if_neg (by decide), if_pos rfl, k1]
  rfl
theorem k_if2 (hR : RC M 2 A) (hX : WX T A) {k : Nat} (hk : 1 ≤ k ∧ (k : Int) ≤ A 0 7) : ∃ M', f_126 M (k : Int) 2 = some (sumN (aLen A k).toNat (sil A k), M') ∧ EF M M' := by
  have h7 := hX.1.1.2.2.2.2.2.1
  have e5 : M 2 5 = A 0 7 := hR.1.2.2.1
  obtain ⟨M', k1, k2⟩ := c_9 hR hX (k := k) hk.2
  refine ⟨M', ?_, k2⟩
  unfold f_126
  rw [e5, wri (k : Int) (by omega) (by omega), if_neg (by omega), wri (A 0 7) (by omega) (by omega), if_pos hk.2, wri 2 (by decide) (by decide), if_neg (by decide), if_neg (by decide), if_pos rfl, k1]
  rfl
end KL
