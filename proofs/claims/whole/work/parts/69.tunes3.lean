/-! MEANING, 40: tunes -/
section TS
variable {M A : xM} {T : Int} {P : Nat → xM} {n o : Nat} {S : xM} {sv : Int} {pd : Nat → Int} {len : Nat} {st : Nat → Int} {stp : Int}
theorem TL_val : ∀ (l : List Int) (p : Nat), TL pd len l p → ∀ j, j < l.length → 0 ≤ l.getD j 0 ∧ l.getD j 0 ≤ 35 := by
  intro l
  induction l with
  | nil => intro p h; exact h.elim
  | cons x l ih =>
    intro p h j hj
    obtain ⟨h1, h2, e, h3, h4, h5, h6, h7⟩ := h
    rw [List.length_cons] at hj
    cases j with
    | zero => exact h2
    | succ j =>
      rcases h7 with ⟨a, b⟩ | ⟨a, b, c⟩
      · rw [b, List.length_nil] at hj; omega
      · exact ih (e + 1) c j (by omega)
theorem RT_b : ∀ (k : Nat) (s : Int), k ≤ len → -4 ≤ runT pd len k s ∧ runT pd len k s ≤ len := by
  intro k
  induction k with
  | zero =>
    intro s _
    show -4 ≤ (if wr (f_95 s) = 0 then (len : Int) else -4) ∧ (if wr (f_95 s) = 0 then (len : Int) else -4) ≤ len
    split <;> omega
  | succ k ih =>
    intro s hk
    show -4 ≤ (if f_93 s (pd (len - (k + 1))) = -1 then ((len - (k + 1) : Nat) : Int) else runT pd len k (f_93 s (pd (len - (k + 1))))) ∧ (if f_93 s (pd (len - (k + 1))) = -1 then ((len - (k + 1) : Nat) : Int) else runT pd len k (f_93 s (pd (len - (k + 1))))) ≤ len
    have := ih (f_93 s (pd (len - (k + 1)))) (by omega)
    split
    · omega
    · exact this
theorem c_13 (hR : RC M 2 A) (hX : WX T A) (hPC : PC M pd len) {L : Nat} (hL : aLen A (A 0 7).toNat = (L : Int)) (h1 : 1 ≤ L ∧ L ≤ 48) {l : List Int} (ht : TL pd len l 0) : ∃ M', f_13 M 2 = some (sumN L (mt (hkey A) L l), M') ∧ EF M M' := by
  have h3 := hPC.2.2.1
  have hlen := TL_len l 0 ht
  have hval := TL_val l 0 ht
  have h7 := hX.1.1.2.2.2.2.2.1
  obtain ⟨M1, k1, k2, k3, k4⟩ := c_52L l 0 ht 0 M hPC (Nat.le_refl _) (Or.inl rfl) NF (by show len - 0 < 1000000; omega)
  rw [Nat.zero_add] at k1
  have k1' : f_52 M = some ((l.length : Int), M1) := k1
  have ef1 : EF M M1 := fun r a b c d => k2 r d
  have e62 := c_62' (M := M1) (b := 2) (by decide +kernel) (EF_RC ef1 hR) hX.1
  rw [hL] at e62
  have exm : xmin (L : Int) 48 = (L : Int) := by unfold xmin; rw [wri (L : Int) (by omega) (by omega), wri 48 (by decide) (by decide), if_neg (by omega)]
  have key := loop_inv (b := fun s : Int × xM => f_13_L30b 2 (l.length : Int) (L : Int) s.1 s.2) (s := (0, M1)) (fun i s => s.1 = (i : Int) ∧ EF M s.2 ∧ (∀ j, s.2 181 j = M1 181 j) ∧ ∀ c, c < i → s.2 180 c = hkey A c) (Q := fun o => ∃ M', o = (sumN L (mt (hkey A) L l), M') ∧ EF M M') L ⟨rfl, ef1, fun _ => rfl, fun c hc => absurd hc (Nat.not_lt_zero c)⟩ (fun i s hi hs => ?_) (fun s hs => ?_) (by show L < 1000000; omega)
  · obtain ⟨r, q1, M', rfl, q3⟩ := key
    refine ⟨M', ?_, q3⟩
    unfold f_13 f_13_L30
    rw [k1', Option.bind_some, e62, Option.bind_some, exm]
    exact q1
  · obtain ⟨v, X⟩ := s
    obtain ⟨s1, s2, s3, s4⟩ := hs
    have s1' : v = (i : Int) := s1
    subst s1'
    have hRX := EF_RC s2 hR
    have c1 := c_1' hRX hX (cell := i) (by omega)
    have c5 := c_5 (M := rowU X 178 36 (aRing A (A 0 7).toNat i)) (R := aRing A (A 0 7).toNat i) (fun k hk => rowU_at hk) (fun k hk => by have := aRing_b hX.1 (n := (A 0 7).toNat) (cell := i) (key := k) (by omega); omega)
    refine ⟨((i : Int) + 1, xset (rowU X 178 36 (aRing A (A 0 7).toNat i)) 180 i (hkey A i)), ?_, ?_, ?_, ?_, ?_⟩
    · show f_13_L30b 2 (l.length : Int) (L : Int) (i : Int) X = _
      unfold f_13_L30b
      rw [wri (L : Int) (by omega) (by omega), wri (i : Int) (by omega) (by omega), if_neg (by omega), if_neg (by omega), c1, Option.bind_some, c5, Option.bind_some, gd_pos (by omega), bnd_def, Int.toNat_natCast]
      rfl
    · show (i : Int) + 1 = ((i + 1 : Nat) : Int); omega
    · intro r a b c d
      show xset (rowU X 178 36 (aRing A (A 0 7).toNat i)) 180 i (hkey A i) r = M r
      rw [xset_ne c, rowU_ne a]; exact s2 r a b c d
    · intro j
      show xset (rowU X 178 36 (aRing A (A 0 7).toNat i)) 180 i (hkey A i) 181 j = M1 181 j
      rw [xset_r (by decide), rowU_ne (by decide)]; exact s3 j
    · intro c hc
      show xset (rowU X 178 36 (aRing A (A 0 7).toNat i)) 180 i (hkey A i) 180 c = hkey A c
      by_cases q : c = i
      · subst q; exact xset_eq
      · rw [xset_j q, rowU_ne (by decide)]; exact s4 c (by omega)
  · obtain ⟨v, X⟩ := s
    obtain ⟨s1, s2, s3, s4⟩ := hs
    have s1' : v = (L : Int) := s1
    subst s1'
    have e14 : ∀ c, c < L → f_14 X (c : Int) (l.length : Int) (L : Int) = some (mt (hkey A) L l c) := fun c hc => by
      have := c_14L (M := X) (hk := hkey A) h1 hc (cnt := l.length) (by omega) (fun c => hkey_b) (fun c hc => s4 c hc) l 0 (Nat.zero_add _) (fun j hj => ⟨(s3 (0 + j)).trans (k4 j hj), hval j hj⟩) NF (by show l.length < 1000000; omega)
      rw [Nat.add_zero, Nat.mod_eq_of_lt hc] at this
      exact this
    have e81 : f_13_L81 X 2 (l.length : Int) (L : Int) (0, 0) = some (sumN L (mt (hkey A) L l), X) := by
      unfold f_13_L81
      refine loop_to (fun i => (sumN i (mt (hkey A) L l), (i : Int))) L (fun i hi => ?_) ?_ (by show L < 1000000; omega)
      · show f_13_L81b X 2 (l.length : Int) (L : Int) (sumN i (mt (hkey A) L l)) (i : Int) = some (Sum.inl (sumN i (mt (hkey A) L l) + mt (hkey A) L l i, ((i + 1 : Nat) : Int)))
        have b := mt_b (hk := hkey A) (L := L) l i
        unfold f_13_L81b
        rw [wri (L : Int) (by omega) (by omega), wri (i : Int) (by omega) (by omega), if_neg (by omega), e14 i hi, Option.bind_some, wri (mt (hkey A) L l i) (by omega) (by omega)]
        rcases b with w | w
        · rw [if_pos w, w, Int.add_zero]; rfl
        · rw [if_neg (by omega), w]; rfl
      · show f_13_L81b X 2 (l.length : Int) (L : Int) (sumN L (mt (hkey A) L l)) (L : Int) = _
        unfold f_13_L81b
        rw [wri (L : Int) (by omega) (by omega), if_pos (Int.le_refl _)]
    refine ⟨_, ?_, X, rfl, s2⟩
    show f_13_L30b 2 (l.length : Int) (L : Int) (L : Int) X = _
    unfold f_13_L30b
    rw [wri (L : Int) (by omega) (by omega), if_pos (Int.le_refl _), e81, Option.bind_some]
theorem step_tunes (h : ALLx T M A P n o S sv pd len st stp) : ∃ r1, f_118 M = some r1 ∧ ∃ r2, f_207 r1.2 = some r2 ∧ r1.1 = r2 ∧ ALL (T + 6100) r1.2 := by
  have hX := h.2.2.1
  have h7 := hX.1.1.2.2.2.2.2.1
  have e5 : M 2 5 = A 0 7 := h.1.1.1.2.2.1
  have hPC := ALLx_PC h
  have h3 := hPC.2.2.1
  have h4 := hPC.2.2.2
  have hb := RT_b (pd := pd) (len := len) len 0 (Nat.le_refl _)
  have hb' : -4 ≤ RT pd len 0 0 ∧ RT pd len 0 0 ≤ len := by unfold RT; rw [Nat.sub_zero]; exact hb
  have em0 : ∀ X, ALLx T X A P n o S sv pd len st stp → f_139 X 7 = some (A 0 7) := fun X hx => by rw [← inS_mS hx.2.1.1]; exact m_7
  by_cases q : A 0 7 = 0
  · have e1 : f_118 M = some (-2, M) := by unfold f_118; rw [e5, wri (A 0 7) (by omega) (by omega), if_pos q]
    have e2 : f_207 M = some (-2) := by
      unfold f_207
      rw [m_187t (ALLx_PM h), Option.bind_some, wri (RT pd len 0 0) (by omega) (by omega), em0 M h, Option.bind_some, wri (A 0 7) (by omega) (by omega), if_pos q, ite_self]
    exact ⟨_, e1, _, e2, rfl, ALL_of h⟩
  · by_cases q2 : RT pd len 0 0 = -4
    · obtain ⟨l, ht⟩ := TL_is h4 (len - 0) 0 rfl (Nat.zero_le _) q2
      have hlp := len_pos hX q
      obtain ⟨L, hL⟩ : ∃ L : Nat, aLen A (A 0 7).toNat = (L : Int) := ⟨(aLen A (A 0 7).toNat).toNat, by omega⟩
      have h1 : 1 ≤ L ∧ L ≤ 48 := by omega
      obtain ⟨M', k1, k2⟩ := c_13 h.1.1 hX hPC hL h1 ht
      have h' := EF_all k2 h
      have hPM := ALLx_PM h'
      have e1 : f_118 M = some (sumN L (mt (hkey A) L l), M') := by
        unfold f_118
        rw [e5, wri (A 0 7) (by omega) (by omega), if_neg q, c_51t hPC, Option.bind_some, q2, wri (-4) (by decide) (by decide), if_pos rfl, k1, Option.bind_some]
      have e26 : f_207_L26 M' (0, 0) = some (sumN L (mt (hkey A) L l)) := by
        unfold f_207_L26
        refine loop_to (fun i => (sumN i (mt (hkey A) L l), (i : Int))) L (fun i hi => ?_) ?_ (by show L < 1000000; omega)
        · show f_207_L26b M' (sumN i (mt (hkey A) L l)) (i : Int) = some (Sum.inl (sumN i (mt (hkey A) L l) + mt (hkey A) L l i, ((i + 1 : Nat) : Int)))
          have b := mt_b (hk := hkey A) (L := L) l i
          unfold f_207_L26b
          rw [m_147' h'.2.1.1 hX.1, Option.bind_some, hL, wri (L : Int) (by omega) (by omega), wri (i : Int) (by omega) (by omega), if_neg (by omega), m_206 hPM h'.2.1.1 hX hL h1 ht hi, Option.bind_some, wri (mt (hkey A) L l i) (by omega) (by omega)]
          rcases b with w | w
          · rw [if_pos w, w]; rfl
          · rw [if_neg (by omega), w]; rfl
        · show f_207_L26b M' (sumN L (mt (hkey A) L l)) (L : Int) = _
          unfold f_207_L26b
          rw [m_147' h'.2.1.1 hX.1, Option.bind_some, hL, wri (L : Int) (by omega) (by omega), if_pos (Int.le_refl _)]
      have e2 : f_207 M' = some (sumN L (mt (hkey A) L l)) := by
        unfold f_207
        rw [m_187t hPM, Option.bind_some, q2, wri (-4) (by decide) (by decide), if_pos rfl, em0 M' h', Option.bind_some, wri (A 0 7) (by omega) (by omega), if_neg q, e26]
      exact ⟨_, e1, _, e2, rfl, ALL_of h'⟩
    · have e1 : f_118 M = some (-2, M) := by
        unfold f_118
        rw [e5, wri (A 0 7) (by omega) (by omega), if_neg q, c_51t hPC, Option.bind_some, wri (RT pd len 0 0) (by omega) (by omega), if_neg q2]
      have e2 : f_207 M = some (-2) := by
        unfold f_207
        rw [m_187t (ALLx_PM h), Option.bind_some, wri (RT pd len 0 0) (by omega) (by omega), if_neg q2]
      exact ⟨_, e1, _, e2, rfl, ALL_of h⟩
end TS
