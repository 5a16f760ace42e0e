/-! MEANING, 41: one step of the law's loop -/
section LW
variable {rom : xRom} {M : xM} {T : Int}
def scriptOk (rom : xRom) : Prop := (rom 2).1 ≤ 2048 ∧ ∀ j, -2147483648 ≤ (rom 2).2 j ∧ (rom 2).2 j < 2147483648
theorem xdc_self {x : UInt64} (h : nnan x) : wr (xdc x x) = 0 := by
  unfold xdc
  rw [show FP.dcmp x x = some .eq from FP.Core.dcmp_refl ((nnan_iff x).mp h)]
  decide +kernel
theorem law_body (hrom : romOk rom) (hs : scriptOk rom) (hT : T < 1000000000) (hA : ALL T M) {i : Nat} (hi : i + 4 ≤ (rom 2).1) : ∃ M', f_221_L18b rom (i : Int) M = some (Sum.inl ((i : Int) + 4, M')) ∧ ALL (T + 10000) M' := by
  obtain ⟨A, P, n, o, S, sv, pd, len, st, stp, h⟩ := hA
  obtain ⟨hn, hv⟩ := hs
  have hsame : ALL (T + 10000) M := ALL_mono (ALLx_ALL h) (by omega)
  have b1 := hv (wr ((i : Int) + 1)).toNat
  have b2 := hv (wr ((i : Int) + 2)).toNat
  have b3 := hv (wr ((i : Int) + 3)).toNat
  have g1 : 0 ≤ wr ((i : Int) + 1) ∧ wr ((i : Int) + 1) < (rom 2).1 := by rw [wri _ (by omega) (by omega)]; omega
  have g2 : 0 ≤ wr ((i : Int) + 2) ∧ wr ((i : Int) + 2) < (rom 2).1 := by rw [wri _ (by omega) (by omega)]; omega
  have g3 : 0 ≤ wr ((i : Int) + 3) ∧ wr ((i : Int) + 3) < (rom 2).1 := by rw [wri _ (by omega) (by omega)]; omega
  have g0 : 0 ≤ wr (i : Int) ∧ wr (i : Int) < (rom 2).1 := by rw [wri _ (by omega) (by omega)]; omega
  have ge : ¬ wr (((rom 2).1 : Int) - 4) < wr (i : Int) := by rw [wri _ (by omega) (by omega), wri _ (by omega) (by omega)]; omega
  unfold f_221_L18b
  rw [if_neg ge, gd_pos g0]
  simp only [gd_pos g1, gd_pos g2, gd_pos g3]
  generalize wr (xand ((rom 2).2 (wr (i : Int)).toNat) 63) = z
  generalize (rom 2).2 (wr ((i : Int) + 1)).toNat = a1 at b1
  generalize (rom 2).2 (wr ((i : Int) + 2)).toNat = a2 at b2
  generalize (rom 2).2 (wr ((i : Int) + 3)).toNat = a3 at b3
  clear g0 g1 g2 g3 ge hv
  by_cases q0 : z = 0
  · rw [if_pos q0]
    obtain ⟨r1, k1, r2, k2, k3, k4⟩ := step_press h
    rw [k1, Option.bind_some, k2, Option.bind_some, if_pos (by rw [k3])]
    exact ⟨_, rfl, ALL_mono k4 (by omega)⟩
  rw [if_neg q0]; clear q0
  by_cases q1 : z = 1
  · rw [if_pos q1]
    obtain ⟨r1, k1, r2, k2, k3, k4⟩ := step_stop h
    rw [k1, Option.bind_some, k2, Option.bind_some, if_pos (by rw [k3])]
    exact ⟨_, rfl, ALL_mono k4 (by omega)⟩
  rw [if_neg q1]; clear q1
  by_cases q2 : z = 2
  · rw [if_pos q2]
    obtain ⟨r1, k1, r2, k2, k3, k4⟩ := step_empty h
    rw [k1, Option.bind_some, k2, Option.bind_some, if_pos (by rw [k3])]
    exact ⟨_, rfl, ALL_mono k4 (by omega)⟩
  rw [if_neg q2]; clear q2
  by_cases q3 : z = 3
  · rw [if_pos q3]
    obtain ⟨r1, k1, r2, k2, k3, k4⟩ := step_hit h b1 b2
    rw [k1, Option.bind_some, k2, Option.bind_some, if_pos (by rw [k3])]
    exact ⟨_, rfl, ALL_mono k4 (by omega)⟩
  rw [if_neg q3]; clear q3
  by_cases q4 : z = 4
  · rw [if_pos q4]
    obtain ⟨r1, k1, r2, k2, k3, k4⟩ := step_pass h b1
    rw [k1, Option.bind_some, k2, Option.bind_some, if_pos (by rw [k3])]
    exact ⟨_, rfl, ALL_mono k4 (by omega)⟩
  rw [if_neg q4]; clear q4
  by_cases q5 : z = 5
  · rw [if_pos q5]
    obtain ⟨r1, k1, r2, k2, k3, k4⟩ := step_peel h
    rw [k1, Option.bind_some, k2, Option.bind_some, if_pos (by rw [k3])]
    exact ⟨_, rfl, ALL_mono k4 (by omega)⟩
  rw [if_neg q5]; clear q5
  by_cases q6 : z = 6
  · rw [if_pos q6]
    obtain ⟨r1, k1, r2, k2, k3, k4⟩ := step_back h
    rw [k1, Option.bind_some, k2, Option.bind_some, if_pos (by rw [k3])]
    exact ⟨_, rfl, ALL_mono k4 (by omega)⟩
  rw [if_neg q6]; clear q6
  by_cases q7 : z = 7
  · rw [if_pos q7]
    obtain ⟨r1, k1, r2, k2, k3, k4⟩ := step_mute h b1
    rw [k1, Option.bind_some, k2, Option.bind_some, if_pos (by rw [k3])]
    exact ⟨_, rfl, ALL_mono k4 (by omega)⟩
  rw [if_neg q7]; clear q7
  by_cases q8 : z = 8
  · rw [if_pos q8]
    obtain ⟨r1, k1, r2, k2, k3, k4⟩ := step_speed h
    rw [k1, Option.bind_some, k2, Option.bind_some, if_pos (by rw [k3])]
    exact ⟨_, rfl, ALL_mono k4 (by omega)⟩
  rw [if_neg q8]; clear q8
  by_cases q9 : z = 9
  · rw [if_pos q9]
    obtain ⟨r1, k1, r2, k2, k3, k4⟩ := step_set hrom h b1 b2
    rw [k1, Option.bind_some, k2, Option.bind_some, if_pos (by rw [k3])]
    exact ⟨_, rfl, ALL_mono k4 (by omega)⟩
  rw [if_neg q9]; clear q9
  by_cases q10 : z = 10
  · rw [if_pos q10]
    obtain ⟨r1, k1, r2, k2, k3, k4⟩ := step_append h b1
    rw [k1, Option.bind_some, k2, Option.bind_some, if_pos (by rw [k3])]
    exact ⟨_, rfl, ALL_mono k4 (by omega)⟩
  rw [if_neg q10]; clear q10
  by_cases q11 : z = 11
  · rw [if_pos q11]
    obtain ⟨k3, k4⟩ := step_erase h
    rw [bnd_def, bnd_def, if_pos (by rw [k3])]
    exact ⟨_, rfl, ALL_mono k4 (by omega)⟩
  rw [if_neg q11]; clear q11
  by_cases q12 : z = 12
  · rw [if_pos q12]
    obtain ⟨r1, k1, r2, k2, k3⟩ := step_fault h b1
    rw [k1, Option.bind_some, k2, Option.bind_some, if_pos (by rw [k3])]
    exact ⟨_, rfl, hsame⟩
  rw [if_neg q12]; clear q12
  by_cases q13 : z = 13
  · rw [if_pos q13]
    obtain ⟨r1, k1, r2, k2, k3, k4⟩ := step_play h
    rw [k1, Option.bind_some, k2, Option.bind_some, if_pos (by rw [k3])]
    exact ⟨_, rfl, ALL_mono k4 (by omega)⟩
  rw [if_neg q13]; clear q13
  by_cases q14 : z = 14
  · rw [if_pos q14]
    obtain ⟨r2, k2, k3⟩ := step_why h b1
    rw [k2, Option.bind_some, if_pos (by rw [k3])]
    exact ⟨_, rfl, hsame⟩
  rw [if_neg q14]; clear q14
  by_cases q15 : z = 15
  · rw [if_pos q15]
    obtain ⟨r1, k1, r2, k2, k3⟩ := step_layer h b1 b2
    rw [k1, Option.bind_some, k2, Option.bind_some, if_pos (by rw [k3])]
    exact ⟨_, rfl, hsame⟩
  rw [if_neg q15]; clear q15
  by_cases q16 : z = 16
  · rw [if_pos q16]
    obtain ⟨r1, k1, r2, k2, k3⟩ := step_note h b1 b2 b3
    rw [k1, Option.bind_some, k2, Option.bind_some, if_pos (by rw [k3])]
    exact ⟨_, rfl, hsame⟩
  rw [if_neg q16]; clear q16
  by_cases q17 : z = 17
  · rw [if_pos q17]
    obtain ⟨r1, k1, r2, k2, k3, k4⟩ := step_ring h b1 b2
    rw [k1, Option.bind_some, k2, Option.bind_some, if_pos (by rw [k3])]
    exact ⟨_, rfl, ALL_mono k4 (by omega)⟩
  rw [if_neg q17]; clear q17
  by_cases q18 : z = 18
  · rw [if_pos q18]
    obtain ⟨r1, k1, r2, k2, k3, k4⟩ := step_heard h b1 b2
    rw [k1, Option.bind_some, k2, Option.bind_some, if_pos (by rw [k3])]
    exact ⟨_, rfl, ALL_mono k4 (by omega)⟩
  rw [if_neg q18]; clear q18
  by_cases q19 : z = 19
  · rw [if_pos q19]
    obtain ⟨r1, k1, r2, k2, k3, k4⟩ := step_loudest h
    rw [k1, Option.bind_some, k2, Option.bind_some, if_pos (by rw [k3])]
    exact ⟨_, rfl, ALL_mono k4 (by omega)⟩
  rw [if_neg q19]; clear q19
  by_cases q20 : z = 20
  · rw [if_pos q20]
    obtain ⟨r1, k1, r2, k2, k3, k4⟩ := step_buried h
    rw [k1, Option.bind_some, k2, Option.bind_some, if_pos (by rw [k3])]
    exact ⟨_, rfl, ALL_mono k4 (by omega)⟩
  rw [if_neg q20]; clear q20
  by_cases q21 : z = 21
  · rw [if_pos q21]
    obtain ⟨r1, k1, r2, k2, k3, k4⟩ := step_tunes h
    rw [k1, Option.bind_some, k2, Option.bind_some, if_pos (by rw [k3])]
    exact ⟨_, rfl, ALL_mono k4 (by omega)⟩
  rw [if_neg q21]; clear q21
  by_cases q22 : z = 22
  · rw [if_pos q22]
    obtain ⟨r1, k1, r2, k2, k3⟩ := step_count h b1
    rw [k1, Option.bind_some, k2, Option.bind_some, if_pos (by rw [k3])]
    exact ⟨_, rfl, hsame⟩
  rw [if_neg q22]; clear q22
  by_cases q23 : z = 23
  · rw [if_pos q23]
    obtain ⟨r1, k1, r2, k2, k3, k4, k5⟩ := step_loudness h
    rw [k1, Option.bind_some, k2, Option.bind_some, if_pos (by rw [k3]; exact xdc_self k4)]
    exact ⟨_, rfl, ALL_mono k5 (by omega)⟩
  rw [if_neg q23]; clear q23
  by_cases q24 : z = 24
  · rw [if_pos q24]
    obtain ⟨r2, k2, k3⟩ := step_barIn hT h
    rw [k2, Option.bind_some, if_pos (by rw [k3])]
    exact ⟨_, rfl, hsame⟩
  rw [if_neg q24]; clear q24
  by_cases q25 : z = 25
  · rw [if_pos q25]
    obtain ⟨r1, k1, r2, k2, k3⟩ := step_drift h b1
    rw [k1, Option.bind_some, k2, Option.bind_some, if_pos (by rw [k3])]
    exact ⟨_, rfl, hsame⟩
  rw [if_neg q25]; clear q25
  by_cases q26 : z = 26
  · rw [if_pos q26]
    obtain ⟨r1, k1, r2, k2, k3⟩ := step_meets h
    rw [k1, Option.bind_some, k2, Option.bind_some, if_pos (by rw [k3])]
    exact ⟨_, rfl, hsame⟩
  rw [if_neg q26]; clear q26
  by_cases q27 : z = 27
  · rw [if_pos q27]
    obtain ⟨r1, k1, r2, k2, k3⟩ := step_rounded h b1
    rw [k1, Option.bind_some, k2, Option.bind_some, if_pos (by rw [k3])]
    exact ⟨_, rfl, hsame⟩
  rw [if_neg q27]; clear q27
  by_cases q28 : z = 28
  · rw [if_pos q28]
    obtain ⟨r1, k1, r2, k2, k3⟩ := step_silentIn h
    rw [k1, Option.bind_some, k2, Option.bind_some, if_pos (by rw [k3])]
    exact ⟨_, rfl, hsame⟩
  rw [if_neg q28]; clear q28
  by_cases q29 : z = 29
  · rw [if_pos q29]
    obtain ⟨r1, k1, r2, k2, k3, k4⟩ := step_ifPeeled h b1 b2
    rw [k1, Option.bind_some, k2, Option.bind_some, if_pos (by rw [k3])]
    exact ⟨_, rfl, ALL_mono k4 (by omega)⟩
  rw [if_neg q29]; clear q29
  by_cases q30 : z = 30
  · rw [if_pos q30]
    obtain ⟨r1, k1, r2, k2, k3, k4⟩ := step_undo h
    rw [k1, Option.bind_some, k2, Option.bind_some, if_pos (by rw [k3])]
    exact ⟨_, rfl, ALL_mono k4 (by omega)⟩
  rw [if_neg q30]; clear q30
  by_cases q31 : z = 31
  · rw [if_pos q31]
    obtain ⟨r1, k1, r2, k2, k3, k4⟩ := step_save h
    rw [k1, Option.bind_some, k2, Option.bind_some, if_pos (by rw [k3])]
    exact ⟨_, rfl, ALL_mono k4 (by omega)⟩
  rw [if_neg q31]; clear q31
  by_cases q32 : z = 32
  · rw [if_pos q32]
    obtain ⟨r1, k1, r2, k2, k3, k4⟩ := step_restore h
    rw [k1, Option.bind_some, k2, Option.bind_some, if_pos (by rw [k3])]
    exact ⟨_, rfl, ALL_mono k4 (by omega)⟩
  rw [if_neg q32]; clear q32
  exact ⟨_, rfl, hsame⟩
theorem law_loop (hrom : romOk rom) (hs : scriptOk rom) {M0 : xM} (hA : ALL 0 M0) : ∃ M', f_221 rom M0 0 = some (1, M') := by
  obtain ⟨hn, hv⟩ := hs
  have key : ∀ (k i : Nat) (M : xM), (rom 2).1 - i = k → i ≤ (rom 2).1 + 3 → ALL (10000 * (i : Int)) M → ∀ f, k < f → ∃ M', loop f (fun s => f_221_L18b rom s.1 s.2) ((i : Int), M) = some (1, M') := by
    intro k
    induction k using Nat.strongRecOn with
    | _ k ih =>
      intro i M hk hi hA f hf
      obtain ⟨f, rfl⟩ : ∃ f', f = f' + 1 := ⟨f - 1, by omega⟩
      by_cases q : i + 4 ≤ (rom 2).1
      · obtain ⟨M1, k1, k2⟩ := law_body hrom ⟨hn, hv⟩ (by omega) hA q
        have k1' : f_221_L18b rom (i : Int) M = some (Sum.inl (((i + 4 : Nat) : Int), M1)) := by
          rw [show ((i + 4 : Nat) : Int) = (i : Int) + 4 by omega]; exact k1
        obtain ⟨M', r⟩ := ih ((rom 2).1 - (i + 4)) (by omega) (i + 4) M1 rfl (by omega) (ALL_mono k2 (by omega)) f (by omega)
        exact ⟨M', (lpI (b := fun s => f_221_L18b rom s.1 s.2) (s := ((i : Int), M)) (s' := (((i + 4 : Nat) : Int), M1)) (F := f) k1').trans r⟩
      · have e : f_221_L18b rom (i : Int) M = some (Sum.inr (1, M)) := by
          unfold f_221_L18b
          rw [if_pos (by rw [wri _ (by omega) (by omega), wri _ (by omega) (by omega)]; omega)]
        exact ⟨M, lpO (b := fun s => f_221_L18b rom s.1 s.2) (s := ((i : Int), M)) (F := f) e⟩
  obtain ⟨M', r⟩ := key ((rom 2).1 - 0) 0 M0 rfl (Nat.zero_le _) hA NF (by show (rom 2).1 - 0 < 1000000; omega)
  exact ⟨M', r⟩
end LW
