/-! MEANING, 17: the class's press, stop, empty, hit -/
section C5
variable {M : xM} {T : Int}
/-- an answer of a call that may be refused -/
def AN (M : xM) (b : Nat) (why : Int) (good : Int) (A' : xM) (r : Int × xM) : Prop := (why < 0 ∧ r = (why, M)) ∨ (why = 0 ∧ r.1 = good ∧ CU M b A' r.2)
theorem RC_begin {b c : Nat} {A M' : xM} (hR : RC M b A) (hA : A 0 0 = 0 ∧ c = 24 ∨ A 0 0 = 2 ∧ (c : Int) = 2 * A 0 6) (hc : c ≤ 48) (hM : M' = xset (xset (xset (rowU (xset M (b + 4) 1 (c : Int)) (b + 5) (36 * c) (fun _ => 0)) (b + 3) 1 0) (b + 3) 2 (A 0 1)) b 4 (if A 0 0 = 0 then 1 else 3)) : CU M b (aBegin A) M' := by
  have hs := hR.1
  have e0 : aBegin A 0 0 = if A 0 0 = 0 then 1 else 3 := aBegin_0
  have ne : ∀ r, r ≠ b → r ≠ b + 3 → r ≠ b + 4 → r ≠ b + 5 → M' r = M r := fun r q1 q2 q3 q4 => by
    funext k; rw [hM, xset_r q1, xset_r q2, xset_r q2, rowU_ne q4, xset_r q3]
  have nb : ∀ k, k ≠ 4 → M' b k = M b k := fun k d => by rw [hM, xset_j d, xset_r (by omega), xset_r (by omega), rowU_ne (by omega), xset_r (by omega)]
  refine ⟨⟨?_, fun i hi hil => ?_, fun q => ?_⟩, fun r hr => ne r (by omega) (by omega) (by omega) (by omega)⟩
  · obtain ⟨s1, s2, s3, s4, s5, s6, s7, s8, s9, s10, s11⟩ := hs
    unfold RCs
    rw [ne (b + 1) (by omega) (by omega) (by omega) (by omega), nb 3 (by decide), nb 5 (by decide), nb 6 (by decide), nb 7 (by decide), nb 8 (by decide), nb 9 (by decide), nb 10 (by decide), aBegin_sc (k := 1) (by decide) (by decide) (by decide), aBegin_sc (k := 2) (by decide) (by decide) (by decide), aBegin_sc (k := 3) (by decide) (by decide) (by decide), aBegin_sc (k := 4) (by decide) (by decide) (by decide), aBegin_sc (k := 5) (by decide) (by decide) (by decide), aBegin_sc (k := 7) (by decide) (by decide) (by decide), aBegin_sc (k := 8) (by decide) (by decide) (by decide), aBegin_sc (k := 9) (by decide) (by decide) (by decide), aBegin_sc (k := 10) (by decide) (by decide) (by decide), aBegin_sc (k := 13) (by decide) (by decide) (by decide)]
    exact ⟨s1, by rw [hM, xset_eq, e0], s3, s4, s5, s6, s7, s8, s9, s10, s11⟩
  · rw [aBegin_sc (k := 7) (by decide) (by decide) (by decide), aBegin_sc (k := 8) (by decide) (by decide) (by decide)] at hil
    exact RCl_c (fun k hk => aBegin_sc (by omega) (by omega) (by omega)) (fun x => aBegin_row (by omega) (by omega)) (RCl_f (ne _ (by omega) (by omega) (by omega) (by omega)) (ne _ (by omega) (by omega) (by omega) (by omega)) (ne _ (by omega) (by omega) (by omega) (by omega)) (hR.2.1 i hi hil))
  · have etk : tkc (aBegin A) = (c : Int) := by
      unfold tkc
      rw [e0, aBegin_sc (k := 6) (by decide) (by decide) (by decide)]
      rcases hA with ⟨h, h'⟩ | ⟨h, h'⟩
      · rw [if_pos h, if_pos rfl, h']; rfl
      · rw [if_neg (show ¬ A 0 0 = 0 by omega), if_neg (by decide)]; omega
    refine ⟨?_, ?_, ?_, fun x hx hlx => ?_⟩
    · rw [hM, xset_r (by omega), xset_j (by decide), xset_eq, aBegin_11]
    · rw [hM, xset_r (by omega), xset_eq, aBegin_12]
    · rw [hM, xset_r (by omega), xset_r (by omega), xset_r (by omega), rowU_ne (by omega), xset_eq, etk]
    · rw [etk] at hlx
      rw [hM, xset_r (by omega), xset_r (by omega), xset_r (by omega), rowU_at (by omega), aBegin_7 hx]
theorem c_90 {b c : Nat} {v : Int} (hc : c ≤ 48) : f_90 M (b + 3) (c : Int) v = some (xset (xset (rowU (xset M (b + 4) 1 (c : Int)) (b + 5) (36 * c) (fun _ => 0)) (b + 3) 1 0) (b + 3) 2 v) := by
  unfold f_90
  rw [c_32 hc, Option.bind_some, bnd_def, bnd_def]
theorem c_69 {b : Nat} {A : xM} (hb : Tg b = 7) (hR : RC M b A) (hX : WX T A) : ∃ r, f_69 M b = some r ∧ AN M b (whyPress A) (aPress A 0 0) (aPress A) r := by
  have hW := hX.1
  have h0 := hW.1.1
  have hs := hR.1
  have e4 : M b 4 = A 0 0 := hs.2.1
  have h7 := hW.1.2.2.2.2.2.1
  have h11 := hW.1.2.2.2.2.2.2.2.2.2.1
  unfold f_69
  rw [e4, wri (A 0 0) (by omega) (by omega)]
  by_cases q0 : A 0 0 = 0
  · rw [if_pos q0]
    have hm := hW.2.1.1 (by omega)
    have ew : whyPress A = 0 := by unfold whyPress tkr; rw [if_neg (by omega), if_neg (by omega)]
    have ep : aPress A = aBegin A := by unfold aPress; rw [if_neg (by omega), if_neg (by omega), if_neg (by omega)]
    rw [ew, ep]
    have e70 : f_70 M b = some (1, xset (xset (xset (rowU (xset M (b + 4) 1 ((24 : Nat) : Int)) (b + 5) (36 * 24) (fun _ => 0)) (b + 3) 1 0) (b + 3) 2 0) b 4 1) := by
      unfold f_70
      have := c_90 (M := M) (b := b) (c := 24) (v := 0) (by decide)
      rw [show ((24 : Nat) : Int) = 24 from rfl] at this ⊢
      rw [this, Option.bind_some, bnd_def, xset_eq]
    rw [e70, Option.bind_some]
    refine ⟨_, rfl, Or.inr ⟨rfl, ?_, RC_begin (c := 24) hR (Or.inl ⟨q0, rfl⟩) (by decide) ?_⟩⟩
    · rw [aBegin_0, if_pos q0]
    · rw [if_pos q0, hm.2.2]
  · rw [if_neg q0]
    by_cases q1 : A 0 0 = 1
    · rw [if_pos q1]
      by_cases q : A 0 11 = 0
      · rw [c_73n hR (Or.inl q1) q, Option.bind_some]
        have ew : whyPress A = -2 := by unfold whyPress; rw [if_pos ⟨Or.inl q1, q⟩]
        exact ⟨_, rfl, Or.inl ⟨by rw [ew]; decide, by rw [ew]⟩⟩
      · obtain ⟨M', k1, k2⟩ := c_73a hb hR hW q1 (by omega)
        have ew : whyPress A = 0 := by unfold whyPress; rw [if_neg (by omega), if_neg (by omega)]
        have ep : aPress A = aEndFirst A := by unfold aPress; rw [if_pos q1]
        rw [k1, Option.bind_some, ew, ep]
        exact ⟨_, rfl, Or.inr ⟨rfl, (W_endFirst hW q1 (by omega)).2.symm, k2⟩⟩
    · rw [if_neg q1]
      by_cases q2 : A 0 0 = 2
      · rw [if_pos q2]
        have hb1 := (hW.2.1.2.1 (by omega)).1
        have h6 := hW.2.1.2.2.1 hb1
        have e5 : M b 5 = A 0 7 := hs.2.2.1
        unfold f_71
        rw [e5, wri (A 0 7) (by omega) (by omega)]
        by_cases q : A 0 7 < 6
        · have ew : whyPress A = 0 := by unfold whyPress tkr; rw [if_neg (by omega), if_neg (by omega)]
          have ep : aPress A = aBegin A := by unfold aPress; rw [if_neg (by omega), if_neg (by omega), if_neg (by omega)]
          rw [if_pos q, c_63 hb hR hW hb1, Option.bind_some]
          have := c_90 (M := M) (b := b) (c := 2 * (A 0 6).toNat) (v := A 0 1) (by omega)
          rw [show ((2 * (A 0 6).toNat : Nat) : Int) = 2 * A 0 6 by omega] at this
          rw [hs.2.2.2.2.1, this, Option.bind_some, bnd_def, Option.bind_some, ew, ep, xset_eq]
          refine ⟨_, rfl, Or.inr ⟨rfl, ?_, RC_begin (c := 2 * (A 0 6).toNat) hR (Or.inr ⟨q2, by omega⟩) (by omega) ?_⟩⟩
          · rw [aBegin_0, if_neg q0]
          · rw [if_neg q0, show ((2 * (A 0 6).toNat : Nat) : Int) = 2 * A 0 6 by omega]
        · have ew : whyPress A = -3 := by unfold whyPress tkr; rw [if_neg (by omega), if_pos (by omega)]
          rw [if_neg q, Option.bind_some]
          exact ⟨_, rfl, Or.inl ⟨by rw [ew]; decide, by rw [ew]⟩⟩
      · rw [if_neg q2]
        by_cases q3 : A 0 0 = 3
        · rw [if_pos q3]
          by_cases q : A 0 11 = 0
          · rw [c_73n hR (Or.inr q3) q, Option.bind_some]
            have ew : whyPress A = -2 := by unfold whyPress; rw [if_pos ⟨Or.inr q3, q⟩]
            exact ⟨_, rfl, Or.inl ⟨by rw [ew]; decide, by rw [ew]⟩⟩
          · obtain ⟨M', k1, k2⟩ := c_73b hb hR hW q3 (by omega)
            have ew : whyPress A = 0 := by unfold whyPress; rw [if_neg (by omega), if_neg (by omega)]
            have ep : aPress A = aEndOver A := by unfold aPress; rw [if_neg q1, if_pos q3]
            rw [k1, Option.bind_some, ew, ep]
            exact ⟨_, rfl, Or.inr ⟨rfl, (W_endOver hW q3).2.symm, k2⟩⟩
        · have q4 : A 0 0 = 4 := by omega
          rw [if_neg q3, if_pos q4, bnd_def]
          have ew : whyPress A = 0 := by unfold whyPress tkr; rw [if_neg (by omega), if_neg (by omega)]
          have ep : aPress A = aStarts A := by unfold aPress; rw [if_neg q1, if_neg q3, if_pos q4]
          obtain ⟨k1, k2⟩ := c_72 hR q4
          rw [ew, ep]
          refine ⟨_, rfl, Or.inr ⟨rfl, ?_, k2⟩⟩
          rw [k1]
          unfold aStarts; rw [xset_j (by decide), xset_j (by decide), xset_j (by decide), xset_eq]
theorem W_press {A : xM} (hX : WX T A) (h : whyPress A = 0) : WX (T + 1) (aPress A) := by
  have hW := hX.1
  have h0 := hW.1.1
  have h11 := hW.1.2.2.2.2.2.2.2.2.2.1
  have h7 := hW.1.2.2.2.2.2.1
  unfold whyPress at h
  unfold aPress
  by_cases q1 : A 0 0 = 1
  · rw [if_pos q1]
    have : 1 ≤ A 0 11 := by
      rcases Int.lt_or_le 0 (A 0 11) with w | w
      · omega
      · rw [if_pos ⟨Or.inl q1, by omega⟩] at h; omega
    exact (W_endFirst hW q1 this).1
  · rw [if_neg q1]
    by_cases q3 : A 0 0 = 3
    · rw [if_pos q3]; exact (W_endOver hW q3).1
    · rw [if_neg q3]
      by_cases q4 : A 0 0 = 4
      · rw [if_pos q4]; exact WX_mono (W_starts hX q4) (by omega)
      · rw [if_neg q4]
        refine WX_mono (W_begin hX ?_) (by omega)
        by_cases q0 : A 0 0 = 0
        · exact Or.inl q0
        · right
          have q2 : A 0 0 = 2 := by omega
          refine ⟨q2, ?_⟩
          rw [if_neg (by unfold tkr; omega)] at h
          by_cases w : A 0 7 = 6
          · rw [if_pos ⟨q2, w⟩] at h; omega
          · omega
theorem c_75 {b : Nat} {A : xM} (hR : RC M b A) (hX : WX T A) : AN M b (whyStop A) (aStop A 0 0) (aStop A) (f_75 M b) := by
  have hW := hX.1
  have h0 := hW.1.1
  have e4 : M b 4 = A 0 0 := hR.1.2.1
  unfold f_75
  rw [e4, wri (A 0 0) (by omega) (by omega)]
  have fin : ∀ v : Int, A 0 0 ≠ 0 → A 0 0 ≠ 4 → aStop A 0 0 = v → (v = 0 ∨ v = 4) → AN M b (whyStop A) (aStop A 0 0) (aStop A) (bnd (xset M b 4 v) (fun M4 => ((M4 b 4), M4))) := by
    intro v q0 q4 hv hv2
    have ew : whyStop A = 0 := by unfold whyStop; rw [if_neg (by omega)]
    rw [bnd_def, xset_eq, ew]
    have ne : ∀ r, r ≠ b → xset M b 4 v r = M r := fun r q => by funext k; exact xset_r q
    have nb : ∀ k, k ≠ 4 → xset M b 4 v b k = M b k := fun k d => xset_j d
    refine Or.inr ⟨rfl, hv.symm, RC_nums hR (fun r a _ => ne r a) ?_ ?_ (fun k hk => aStop_sc (by omega) (by omega)) (fun r x h1 h2 => aStop_row (by omega) (by omega)) (fun q => ?_), fun r hr => ne r (by omega)⟩
    · obtain ⟨s1, s2, s3, s4, s5, s6, s7, s8, s9, s10, s11⟩ := hR.1
      unfold RCs
      dsimp only
      rw [ne (b + 1) (by omega), nb 3 (by decide), nb 5 (by decide), nb 6 (by decide), nb 7 (by decide), nb 8 (by decide), nb 9 (by decide), nb 10 (by decide), aStop_sc (k := 1) (by decide) (by decide), aStop_sc (k := 2) (by decide) (by decide), aStop_sc (k := 3) (by decide) (by decide), aStop_sc (k := 4) (by decide) (by decide), aStop_sc (k := 5) (by decide) (by decide), aStop_sc (k := 7) (by decide) (by decide), aStop_sc (k := 8) (by decide) (by decide), aStop_sc (k := 9) (by decide) (by decide), aStop_sc (k := 10) (by decide) (by decide), aStop_sc (k := 13) (by decide) (by decide)]
      exact ⟨s1, by rw [xset_eq, hv], s3, s4, s5, s6, s7, s8, s9, s10, s11⟩
    · rw [aStop_sc (k := 7) (by decide) (by decide), aStop_sc (k := 8) (by decide) (by decide)]; exact Int.le_refl _
    · exfalso
      rcases q with q | q <;> omega
  by_cases q0 : A 0 0 = 0
  · rw [if_pos q0]
    have ew : whyStop A = -2 := by unfold whyStop; rw [if_pos (Or.inl q0)]
    exact Or.inl ⟨by rw [ew]; decide, by rw [ew]⟩
  · rw [if_neg q0]
    by_cases q4 : A 0 0 = 4
    · rw [if_pos q4]
      have ew : whyStop A = -2 := by unfold whyStop; rw [if_pos (Or.inr q4)]
      exact Or.inl ⟨by rw [ew]; decide, by rw [ew]⟩
    · rw [if_neg q4]
      by_cases q1 : A 0 0 = 1
      · rw [if_pos q1]; exact fin 0 q0 q4 (by rw [aStop_0, if_pos q1]) (Or.inl rfl)
      · rw [if_neg q1]; exact fin 4 q0 q4 (by rw [aStop_0, if_neg q1]) (Or.inr rfl)
def whyEmpty (A : xM) : Int := if A 0 0 = 0 then -2 else 0
theorem c_76 {b : Nat} {A : xM} (hR : RC M b A) (hX : WX T A) : AN M b (whyEmpty A) (A 0 7) (aEmpty A) (f_76 M b) := by
  have hW := hX.1
  have h0 := hW.1.1
  have e4 : M b 4 = A 0 0 := hR.1.2.1
  unfold f_76
  rw [e4, wri (A 0 0) (by omega) (by omega)]
  by_cases q0 : A 0 0 = 0
  · rw [if_pos q0]
    have ew : whyEmpty A = -2 := by unfold whyEmpty; rw [if_pos q0]
    exact Or.inl ⟨by rw [ew]; decide, by rw [ew]⟩
  · rw [if_neg q0]
    have ew : whyEmpty A = 0 := by unfold whyEmpty; rw [if_neg q0]
    obtain ⟨M2, hM2⟩ : ∃ M2, M2 = xset (xset (xset (xset (xset (xset M b 5 0) b 6 0) b 7 0) b 8 0) b 9 0) b 4 0 := ⟨_, rfl⟩
    simp only [bnd_def]
    rw [← hM2, ew]
    have ne : ∀ r, r ≠ b → M2 r = M r := fun r q => by
      funext k; rw [hM2, xset_r q, xset_r q, xset_r q, xset_r q, xset_r q, xset_r q]
    have nb : ∀ k, k ≠ 4 → k ≠ 5 → k ≠ 6 → k ≠ 7 → k ≠ 8 → k ≠ 9 → M2 b k = M b k := fun k a b c d e f => by rw [hM2, xset_j a, xset_j f, xset_j e, xset_j d, xset_j c, xset_j b]
    refine Or.inr ⟨rfl, hR.1.2.2.1, RC_nums hR (fun r a _ => ne r a) ?_ ?_ (fun k hk => aEmpty_sc (by omega) (by omega) (by omega) (by omega) (by omega) (by omega) (by omega) (by omega)) (fun r x h1 h2 => aEmpty_row (by omega) (by omega)) (fun q => ?_), fun r hr => ne r (by omega)⟩
    · obtain ⟨s1, s2, s3, s4, s5, s6, s7, s8, s9, s10, s11⟩ := hR.1
      show RCs M2 b (aEmpty A)
      unfold RCs
      rw [ne (b + 1) (by omega), nb 3 (by decide) (by decide) (by decide) (by decide) (by decide) (by decide), nb 10 (by decide) (by decide) (by decide) (by decide) (by decide) (by decide), aEmpty_sc (k := 2) (by decide) (by decide) (by decide) (by decide) (by decide) (by decide) (by decide) (by decide), aEmpty_sc (k := 3) (by decide) (by decide) (by decide) (by decide) (by decide) (by decide) (by decide) (by decide), aEmpty_sc (k := 4) (by decide) (by decide) (by decide) (by decide) (by decide) (by decide) (by decide) (by decide), aEmpty_sc (k := 5) (by decide) (by decide) (by decide) (by decide) (by decide) (by decide) (by decide) (by decide), aEmpty_sc (k := 13) (by decide) (by decide) (by decide) (by decide) (by decide) (by decide) (by decide) (by decide), aEmpty_0 (k := 0) (by decide), aEmpty_0 (k := 1) (by decide), aEmpty_0 (k := 7) (by decide), aEmpty_0 (k := 8) (by decide), aEmpty_0 (k := 9) (by decide), aEmpty_0 (k := 10) (by decide)]
      refine ⟨s1, ?_, ?_, ?_, ?_, ?_, ?_, s8, s9, s10, s11⟩
      · rw [hM2, xset_eq]
      · rw [hM2, xset_j (by decide), xset_j (by decide), xset_j (by decide), xset_j (by decide), xset_j (by decide), xset_eq]
      · rw [hM2, xset_j (by decide), xset_j (by decide), xset_j (by decide), xset_j (by decide), xset_eq]
      · rw [hM2, xset_j (by decide), xset_j (by decide), xset_j (by decide), xset_eq]
      · rw [hM2, xset_j (by decide), xset_j (by decide), xset_eq]
      · rw [hM2, xset_j (by decide), xset_eq]
    · have h78 := hW.1.2.2.2.2.2.1
      rw [aEmpty_0 (k := 7) (by decide), aEmpty_0 (k := 8) (by decide)]; omega
    · exfalso
      have := aEmpty_0 (A := A) (k := 0) (by decide)
      rcases q with q | q <;> omega
theorem c_77 {b : Nat} {A : xM} (hb : Tg b = 7) (hR : RC M b A) (hX : WX T A) {k f : Int} (hk : -2147483648 ≤ k ∧ k < 2147483648) (hf : -2147483648 ≤ f ∧ f < 2147483648) : ∃ r, f_77 M b k f = some r ∧ AN M b (whyHit A k f) (aHitV A k f) (aHit A k f) r := by
  have hW := hX.1
  have hs := hR.1
  unfold f_77
  rw [wri k hk.1 hk.2, wri f hf.1 hf.2, c_60 hR hW]
  have bad : ¬ (0 ≤ k ∧ k ≤ 23 ∧ 1 ≤ f ∧ f ≤ 99) → whyHit A k f = -1 := fun h => by unfold whyHit; rw [if_neg h]
  have fail : ¬ (0 ≤ k ∧ k ≤ 23 ∧ 1 ≤ f ∧ f ≤ 99) → ∃ r, some ((-1 : Int), M) = some r ∧ AN M b (whyHit A k f) (aHitV A k f) (aHit A k f) r := fun h => ⟨_, rfl, Or.inl ⟨by rw [bad h]; decide, by rw [bad h]⟩⟩
  by_cases q1 : k < 0
  · rw [if_pos q1]; exact fail (by omega)
  · rw [if_neg q1]
    by_cases q2 : 24 ≤ k
    · rw [if_pos q2]; exact fail (by omega)
    · rw [if_neg q2]
      by_cases q3 : f < 1
      · rw [if_pos q3]; exact fail (by omega)
      · rw [if_neg q3]
        by_cases q4 : f ≤ 99
        · rw [if_pos q4]
          have hok : 0 ≤ k ∧ k ≤ 23 ∧ 1 ≤ f ∧ f ≤ 99 := by omega
          by_cases q5 : tkr A
          · rw [if_neg (fun w => (iff_of_eq (wr01 (c := tkr A))).mp w q5)]
            have ew : whyHit A k f = 0 := by unfold whyHit; rw [if_pos hok, if_pos q5]
            have ht := hR.2.2 q5
            have hc := hitCell_b hX q5
            have hat := hitAt_b hX q5 (k := k) (by omega)
            have h2 := hW.1.2.1
            have h11 := hW.1.2.2.2.2.2.2.2.2.2.1
            have h12 := hW.1.2.2.2.2.2.2.2.2.2.2.1
            have e78 : f_78 M b = some (hitCell A) := by
              unfold f_78 hitCell
              rw [hs.2.1, ht.1, ht.2.1]
              rcases q5 with q | q
              · rw [q, if_pos wr_1, if_pos rfl, hX.1.2.1.2.2.2.1 q, wri _ (by omega) (by omega), Int.tdiv_eq_ediv_of_nonneg (by omega), Int.zero_add]
              · have hb1 := (hW.2.1.2.1 (by omega)).1
                have h6 := hW.2.1.2.2.1 hb1
                rw [q, if_neg (by decide +kernel), if_neg (by decide), c_63 hb hR hW hb1, Option.bind_some, wri _ (by omega) (by omega), Int.tdiv_eq_ediv_of_nonneg (by omega), c_134 (by omega) (by omega)]
            have ekk : k + f_65 M b = ((k + 12 * A 0 2).toNat : Int) := by
              rw [c_65 hR hW]; unfold kup; omega
            have ecc : hitCell A = ((hitCell A).toNat : Int) := by omega
            have ex : M (b + 5) (hitAt A k) = A 7 (hitAt A k) := ht.2.2.2 _ hat.1 hat.2
            have hv : 0 ≤ A 7 (hitAt A k) ∧ A 7 (hitAt A k) ≤ 99 := hW.2.2.2.1 6 _ (by decide) hat.1
            have e31 := c_31 (M := M) (n := b + 4) (c := (hitCell A).toNat) (k := (k + 12 * A 0 2).toNat) (v := f) (by omega) (by omega) (by omega) (by show 0 ≤ M (b + 5) (hitAt A k) ∧ M (b + 5) (hitAt A k) ≤ 99; rw [ex]; exact hv)
            rw [e78, Option.bind_some, ekk, ecc, e31, bnd_def]
            rw [show b + 4 + 1 = b + 5 by omega, show 36 * (hitCell A).toNat + (k + 12 * A 0 2).toNat = hitAt A k from rfl, ex, ew]
            refine ⟨_, rfl, Or.inr ⟨rfl, rfl, ⟨?_, fun i hi hil => ?_, fun _ => ?_⟩, fun r hr => ?_⟩⟩
            · unfold RCs at hs ⊢
              have e0 : aHit A k f 0 = A 0 := funext fun j => by unfold aHit; rw [xset_r (by decide)]
              dsimp only
              rw [e0, xset_r (by omega), xset_r (by omega), xset_r (by omega), xset_r (by omega), xset_r (by omega), xset_r (by omega), xset_r (by omega), xset_r (by omega), xset_r (by omega), xset_r (by omega), xset_r (by omega)]
              exact hs
            · have e0 : ∀ j, aHit A k f 0 j = A 0 j := fun j => by unfold aHit; rw [xset_r (by decide)]
              rw [e0, e0] at hil
              exact RCl_c (fun j _ => e0 j) (fun x => by unfold aHit; rw [xset_r (by omega)]) (RCl_f (funext fun j => xset_r (by omega)) (funext fun j => xset_r (by omega)) (funext fun j => xset_r (by omega)) (hR.2.1 i hi hil))
            · have e0 : aHit A k f 0 = A 0 := funext fun j => by unfold aHit; rw [xset_r (by decide)]
              unfold RCt tkc at ht ⊢
              dsimp only
              rw [e0, xset_r (by omega), xset_r (by omega), xset_r (by omega)]
              refine ⟨ht.1, ht.2.1, ht.2.2.1, fun x hx hlx => ?_⟩
              unfold aHit
              rw [xset_d, xset_d]
              by_cases qx : x = hitAt A k
              · rw [if_pos ⟨rfl, qx⟩, if_pos ⟨rfl, qx⟩]; rfl
              · rw [if_neg (fun w => qx w.2), if_neg (fun w => qx w.2)]
                exact ht.2.2.2 x hx hlx
            · funext j; exact xset_r (by omega)
          · rw [if_pos ((iff_of_eq (wr01 (c := tkr A))).mpr q5)]
            have ew : whyHit A k f = -2 := by unfold whyHit; rw [if_pos hok, if_neg q5]
            exact ⟨_, rfl, Or.inl ⟨by rw [ew]; decide, by rw [ew]⟩⟩
        · rw [if_neg q4]; exact fail (by omega)
end C5
