/-! MEANING, 24: pad, halt, history, snapshot -/
section HI
variable {M A : xM} {T : Int} {P : Nat → xM} {n o : Nat} {S : xM} {sv : Int} {pd : Nat → Int} {len : Nat} {st : Nat → Int} {stp : Int}
/-- a row of the class that is no pedal's, no row of the history, the snapshot, the pad, the halt -/
theorem ALLx_mono {U : Int} (h : ALLx T M A P n o S sv pd len st stp) (ht : T ≤ U) : ALLx U M A P n o S sv pd len st stp := ⟨h.1, h.2.1, WX_mono h.2.2.1 ht, OKr_mono h.2.2.2 ht⟩
theorem ALLx_ALL (h : ALLx T M A P n o S sv pd len st stp) : ALL T M := ⟨A, P, n, o, S, sv, pd, len, st, stp, h⟩
theorem ALLx_frame {M' : xM} (hr : ∀ r, r < 188 → (r < 178 ∨ 182 ≤ r) → M' r = M r) (h : ALLx T M A P n o S sv pd len st stp) : ALLx T M' A P n o S sv pd len st stp := by
  obtain ⟨⟨h1, h2⟩, ⟨h3, h4⟩, h5, h6⟩ := h
  refine ⟨⟨RC_frame (fun r a b => hr r (by omega) (by omega)) h1, ?_⟩, ⟨inS_frame (hr 183 (by decide) (by decide)) h3, MWr_frame (fun r a b c => hr r b (by omega)) h4⟩, h5, h6⟩
  obtain ⟨g1, g2, g3, g4, g5, g6, g7⟩ := h2
  have ho := g1.2.2.2
  have hn := g1.2.1
  refine ⟨?_, fun i hi => ?_, ?_, fun w => ?_, ?_, ?_, fun w => ?_⟩
  · rw [hr 50 (by decide) (by decide)]; exact g1
  · exact RC_frame (fun r r1 r2 => hr r (by omega) (by omega)) (g2 i hi)
  · rw [hr 1 (by decide) (by decide)]; exact g3
  · exact RC_frame (fun r r1 r2 => hr r (by omega) (by omega)) (g4 w)
  · rw [hr 172 (by decide) (by decide), hr 173 (by decide) (by decide)]; exact g5
  · rw [hr 176 (by decide) (by decide)]; exact g6
  · rw [hr 176 (by decide) (by decide)]; exact g7 w
def pushC (pd : Nat → Int) (len : Nat) (c : Int) : Nat → Int := fun j => if j = len then c else pd j
theorem step_append (h : ALLx T M A P n o S sv pd len st stp) {c : Int} (hc : -2147483648 ≤ c ∧ c < 2147483648) : ∃ r1, f_107 M c = some r1 ∧ ∃ r2, f_179 r1.2 c = some r2 ∧ r1.1 = r2.1 ∧ ALL (T + 6100) r2.2 := by
  have h' := ALLx_mono h (show T ≤ T + 6100 by omega)
  obtain ⟨⟨h1, h2⟩, ⟨h3, h4⟩, h5, h6⟩ := h'
  obtain ⟨g1, g2, g3, g4, g5, g6, g7⟩ := h2
  obtain ⟨e1, e2, e3, e4, e5, e6, e7⟩ := h4
  have hlen := h6.2.2.2.1
  have ho := g1.2.2.2
  have hn := g1.2.1
  have q138 : wr (f_138 c 33 126) = 0 ↔ ¬ (33 ≤ c ∧ c ≤ 126) := by
    rw [m_138w, wri c hc.1 hc.2, wri 33 (by decide) (by decide), wri 126 (by decide) (by decide)]
  unfold f_107 f_45 f_179
  rw [wri c hc.1 hc.2, g5.1, wri (len : Int) (by omega) (by omega)]
  by_cases q : 33 ≤ c ∧ c ≤ 126
  · rw [if_neg (by omega), if_pos q.2, if_neg (by omega)]
    by_cases q2 : len < 60
    · have ec : xi2c c = c := by unfold xi2c; rw [wri c hc.1 hc.2]; omega
      have e172 : xset M 173 len c 172 1 = (len : Int) := (xset_r (by decide)).trans g5.1
      rw [if_pos (by omega), ec, wri c hc.1 hc.2, gd_pos (by omega), bnd_def, bnd_def, Int.toNat_natCast, xset_eq, e172, Option.bind_some]
      obtain ⟨M1, hM1⟩ : ∃ M1, M1 = xset (xset M 173 len c) 172 1 ((len : Int) + 1) := ⟨_, rfl⟩
      rw [← hM1]
      have ne1 : ∀ r, r ≠ 172 → r ≠ 173 → M1 r = M r := fun r a b => by rw [hM1]; funext k; rw [xset_r a, xset_r b]
      have e186 : xset M1 186 len c 182 6 = (len : Int) := (xset_r (by decide)).trans (by rw [ne1 182 (by decide) (by decide)]; exact e5.1)
      refine ⟨_, rfl, ?_⟩
      show ∃ r2, (if wr (f_138 c 33 126) = 0 then some ((-1 : Int), M1) else if wr (M1 182 6) = 60 then some ((-3 : Int), M1) else gd (0 ≤ wr (M1 182 6) ∧ wr (M1 182 6) < 60) (bnd (xset M1 186 (wr (M1 182 6)).toNat c) (fun M4 => bnd (xset M4 182 6 ((M4 182 6) + 1)) (fun M5 => some ((M5 182 6), M5))))) = some r2 ∧ _
      rw [if_neg (fun w => q138.mp w q), ne1 182 (by decide) (by decide), e5.1, wri (len : Int) (by omega) (by omega), if_neg (by omega), gd_pos (by omega), bnd_def, bnd_def, Int.toNat_natCast, xset_eq, e186]
      obtain ⟨M2, hM2⟩ : ∃ M2, M2 = xset (xset M1 186 len c) 182 6 ((len : Int) + 1) := ⟨_, rfl⟩
      rw [← hM2]
      have ne2 : ∀ r, r ≠ 182 → r ≠ 186 → M2 r = M1 r := fun r a b => by rw [hM2]; funext k; rw [xset_r a, xset_r b]
      have n182 : ∀ k, k ≠ 6 → M2 182 k = M 182 k := fun k a => by rw [hM2, xset_j a, xset_r (by decide), ne1 182 (by decide) (by decide)]
      suffices fin : ALLx (T + 6100) M2 A P n o S sv (pushC pd len c) (len + 1) st stp from ⟨_, rfl, rfl, ALLx_ALL fin⟩
      refine ⟨⟨RC_frame (fun r a b => by rw [ne2 r (by omega) (by omega), ne1 r (by omega) (by omega)]) h1, ?_⟩, ⟨?_, ?_⟩, h5, ?_⟩
      · refine ⟨?_, fun i hi => ?_, ?_, fun w => ?_, ?_, ?_, fun w => ?_⟩
        · rw [ne2 50 (by decide) (by decide), ne1 50 (by decide) (by decide)]; exact g1
        · exact RC_frame (fun r r1 r2 => by rw [ne2 r (by omega) (by omega), ne1 r (by omega) (by omega)]) (g2 i hi)
        · rw [ne2 1 (by decide) (by decide), ne1 1 (by decide) (by decide)]; exact g3
        · exact RC_frame (fun r r1 r2 => by rw [ne2 r (by omega) (by omega), ne1 r (by omega) (by omega)]) (g4 w)
        · rw [ne2 172 (by decide) (by decide), ne2 173 (by decide) (by decide)]
          refine ⟨by rw [hM1, xset_eq]; omega, fun j hj => ?_⟩
          rw [hM1, xset_r (by decide), xset_d]
          unfold pushC
          by_cases w : j = len
          · rw [if_pos ⟨rfl, w⟩, if_pos w]
          · rw [if_neg (fun x => w x.2), if_neg w]; exact g5.2 j (by omega)
        · rw [ne2 176 (by decide) (by decide), ne1 176 (by decide) (by decide)]; exact g6
        · rw [ne2 176 (by decide) (by decide), ne1 176 (by decide) (by decide)]; exact g7 w
      · exact inS_frame (by rw [ne2 183 (by decide) (by decide), ne1 183 (by decide) (by decide)]) h3
      · refine ⟨?_, fun i hi => ?_, ?_, fun w => ?_, ?_, ?_, fun w => ?_⟩
        · rw [n182 2 (by decide)]; exact e1
        · exact inS_frame (by rw [ne2 184 (by decide) (by decide), ne1 184 (by decide) (by decide)]) (e2 i hi)
        · rw [n182 4 (by decide)]; exact e3
        · exact inS_frame (by rw [ne2 185 (by decide) (by decide), ne1 185 (by decide) (by decide)]) (e4 w)
        · refine ⟨by rw [hM2, xset_eq]; omega, fun j hj => ?_⟩
          rw [hM2, xset_r (by decide), xset_d]
          unfold pushC
          by_cases w : j = len
          · rw [if_pos ⟨rfl, w⟩, if_pos w]
          · rw [if_neg (fun x => w x.2), if_neg w, ne1 186 (by decide) (by decide)]; exact e5.2 j (by omega)
        · rw [n182 8 (by decide)]; exact e6
        · rw [ne2 187 (by decide) (by decide), ne1 187 (by decide) (by decide)]; exact e7 w
      · obtain ⟨o1, o2, o3, o4, o5, o6⟩ := h6
        refine ⟨o1, o2, o3, by omega, fun j hj => ?_, o6⟩
        unfold pushC
        by_cases w : j = len
        · rw [if_pos w]; exact q
        · rw [if_neg w]; exact o5 j (by omega)
    · rw [if_neg (by omega), Option.bind_some]
      refine ⟨_, rfl, ?_⟩
      show ∃ r2, (if wr (f_138 c 33 126) = 0 then some ((-1 : Int), M) else if wr (M 182 6) = 60 then some ((-3 : Int), M) else _) = some r2 ∧ _
      rw [if_neg (fun w => q138.mp w q), e5.1, wri (len : Int) (by omega) (by omega), if_pos (by omega)]
      exact ⟨_, rfl, rfl, ALL_mono (ALLx_ALL h) (by omega)⟩
  · have ex : (if c < 33 then some ((-1 : Int), M) else if c ≤ 126 then if (len : Int) < 0 then some (-3, M) else if (len : Int) < 60 then gd (0 ≤ wr (xi2c c) ∧ wr (xi2c c) < 65536) (bnd (xset M 173 ((len : Int)).toNat (xi2c c)) (fun M6 => bnd (xset M6 172 1 ((M6 172 1) + 1)) (fun M7 => some ((M7 172 1), M7)))) else some (-3, M) else some (-1, M)) = some (-1, M) := by
      by_cases w : c < 33
      · rw [if_pos w]
      · rw [if_neg w, if_neg (by omega)]
    rw [ex, Option.bind_some]
    refine ⟨_, rfl, ?_⟩
    show ∃ r2, (if wr (f_138 c 33 126) = 0 then some ((-1 : Int), M) else _) = some r2 ∧ _
    rw [if_pos (q138.mpr q)]
    exact ⟨_, rfl, rfl, ALL_mono (ALLx_ALL h) (by omega)⟩
/-- the pads are emptied -/
theorem ALLx_wipe (h : ALLx T M A P n o S sv pd len st stp) : ALLx T (xset (xset M 172 1 0) 182 6 0) A P n o S sv pd 0 st stp := by
  obtain ⟨⟨h1, h2⟩, ⟨h3, h4⟩, h5, h6⟩ := h
  obtain ⟨g1, g2, g3, g4, g5, g6, g7⟩ := h2
  obtain ⟨e1, e2, e3, e4, e5, e6, e7⟩ := h4
  have ho := g1.2.2.2
  have hn := g1.2.1
  obtain ⟨M2, hM2⟩ : ∃ M2, M2 = xset (xset M 172 1 0) 182 6 0 := ⟨_, rfl⟩
  rw [← hM2]
  have ne : ∀ r, r ≠ 172 → r ≠ 182 → M2 r = M r := fun r a b => by rw [hM2]; funext k; rw [xset_r b, xset_r a]
  have n182 : ∀ k, k ≠ 6 → M2 182 k = M 182 k := fun k a => by rw [hM2, xset_j a, xset_r (by decide)]
  refine ⟨⟨RC_frame (fun r a b => ne r (by omega) (by omega)) h1, ?_⟩, ⟨inS_frame (ne 183 (by decide) (by decide)) h3, ?_⟩, h5, ?_⟩
  · refine ⟨?_, fun i hi => ?_, ?_, fun w => ?_, ?_, ?_, fun w => ?_⟩
    · rw [ne 50 (by decide) (by decide)]; exact g1
    · exact RC_frame (fun r r1 r2 => ne r (by omega) (by omega)) (g2 i hi)
    · rw [ne 1 (by decide) (by decide)]; exact g3
    · exact RC_frame (fun r r1 r2 => ne r (by omega) (by omega)) (g4 w)
    · exact ⟨by rw [hM2, xset_r (by decide), xset_eq]; rfl, fun j hj => by omega⟩
    · rw [ne 176 (by decide) (by decide)]; exact g6
    · rw [ne 176 (by decide) (by decide)]; exact g7 w
  · refine ⟨?_, fun i hi => ?_, ?_, fun w => ?_, ?_, ?_, fun w => ?_⟩
    · rw [n182 2 (by decide)]; exact e1
    · exact inS_frame (ne 184 (by decide) (by decide)) (e2 i hi)
    · rw [n182 4 (by decide)]; exact e3
    · exact inS_frame (ne 185 (by decide) (by decide)) (e4 w)
    · exact ⟨by rw [hM2, xset_eq]; rfl, fun j hj => by omega⟩
    · rw [n182 8 (by decide)]; exact e6
    · rw [ne 187 (by decide) (by decide)]; exact e7 w
  · obtain ⟨o1, o2, o3, o4, o5, o6⟩ := h6
    exact ⟨o1, o2, o3, by decide, fun j hj => by omega, o6⟩
theorem step_erase (h : ALLx T M A P n o S sv pd len st stp) : (f_108 M).1 = (f_180 (f_108 M).2).1 ∧ ALL (T + 6100) (f_180 (f_108 M).2).2 := by
  have e1 : f_108 M = (M 172 1, xset M 172 1 0) := by unfold f_108 f_46; rfl
  have e2 : ∀ X : xM, f_180 X = (X 182 6, xset X 182 6 0) := fun X => by unfold f_180; rfl
  rw [e1, e2]
  refine ⟨?_, ALL_mono (ALLx_ALL (ALLx_wipe h)) (by omega)⟩
  show M 172 1 = xset M 172 1 0 182 6
  rw [xset_r (by decide), h.1.2.2.2.2.2.1.1, h.2.1.2.2.2.2.2.1.1]
theorem step_why (h : ALLx T M A P n o S sv pd len st stp) {w : Int} (hw : -2147483648 ≤ w ∧ w < 2147483648) : ∃ r2, f_192 M w = some r2 ∧ f_111 M w = r2 := by
  obtain ⟨⟨h1, h2⟩, ⟨h3, h4⟩, h5, h6⟩ := h
  obtain ⟨g1, g2, g3, g4, g5, g6, g7⟩ := h2
  obtain ⟨e1, e2, e3, e4, e5, e6, e7⟩ := h4
  have hs := h6.2.2.2.2.2
  have q138 : wr (f_138 w 0 2) = 0 ↔ ¬ (0 ≤ w ∧ w ≤ 2) := by
    rw [m_138w, wri w hw.1 hw.2, wr0, wri 2 (by decide) (by decide)]
  have eM : f_192 M w = if wr (f_138 w 0 2) = 0 then some (-1) else if wr stp = 0 then some (-4) else gd (0 ≤ w ∧ w < 3) (some (M 187 w.toNat)) := by
    unfold f_192; rw [wri w hw.1 hw.2, e6]
  have eC : f_111 M w = if w < 0 then -1 else if w ≤ 2 then if wr stp = 0 then -4 else if w = 0 then M 176 1 else if w = 1 then M 176 2 else M 176 3 else -1 := by
    unfold f_111 f_19; rw [wri w hw.1 hw.2, g6]
  by_cases q : 0 ≤ w ∧ w ≤ 2
  · rw [if_neg (fun x => q138.mp x q)] at eM
    rw [if_neg (by omega), if_pos q.2] at eC
    rcases hs with e | e
    · rw [e, if_pos wr0] at eM eC
      exact ⟨_, eM, eC⟩
    · rw [e, if_neg (by decide +kernel)] at eM eC
      rw [gd_pos (by omega)] at eM
      refine ⟨_, eM, ?_⟩
      rw [eC]
      have a := g7 e
      have b := e7 e
      by_cases w0 : w = 0
      · subst w0; rw [if_pos rfl]; show M 176 1 = M 187 0; rw [a.1, b.1]
      · rw [if_neg w0]
        by_cases w1 : w = 1
        · subst w1; rw [if_pos rfl]; show M 176 2 = M 187 1; rw [a.2.1, b.2.1]
        · rw [if_neg w1]
          have w2 : w = 2 := by omega
          subst w2; show M 176 3 = M 187 2; rw [a.2.2, b.2.2]
  · rw [if_pos (q138.mpr q)] at eM
    refine ⟨_, eM, ?_⟩
    rw [eC]
    by_cases x : w < 0
    · rw [if_pos x]
    · rw [if_neg x, if_neg (by omega)]
theorem step_save (h : ALLx T M A P n o S sv pd len st stp) : ∃ r1, f_128 M = some r1 ∧ ∃ r2, f_219 r1.2 = some r2 ∧ r1.1 = r2.1 ∧ ALL (T + 6100) r2.2 := by
  have h' := ALLx_mono h (show T ≤ T + 6100 by omega)
  obtain ⟨⟨h1, h2⟩, ⟨h3, h4⟩, h5, h6⟩ := h'
  obtain ⟨g1, g2, g3, g4, g5, g6, g7⟩ := h2
  obtain ⟨e1, e2, e3, e4, e5, e6, e7⟩ := h4
  have ho := g1.2.2.2
  have hn := g1.2.1
  obtain ⟨M1, k1, k2, k3⟩ := c_55 (b := 26) (o := 2) (by decide +kernel) (by decide +kernel) (by decide) h1 h5.1
  obtain ⟨M2, hM2⟩ : ∃ M2, M2 = xset M1 1 8 1 := ⟨_, rfl⟩
  have ne2 : ∀ r, r ≠ 1 → M2 r = M1 r := fun r a => by rw [hM2]; funext k; rw [xset_r a]
  have em : M2 2 4 = A 0 0 := by rw [ne2 2 (by decide), k3 2 (by decide)]; exact h1.1.2.1
  have ef : f_128 M = some (A 0 0, M2) := by
    unfold f_128
    rw [k1, Option.bind_some, bnd_def, ← hM2, em]
  refine ⟨_, ef, ?_⟩
  have hA2 : inS M2 A 183 0 := inS_frame (by rw [ne2 183 (by decide), k3 183 (by decide)]) h3
  obtain ⟨M3, hM3⟩ : ∃ M3, M3 = xset (rowU M2 185 1376 (M2 183)) 182 4 1 := ⟨_, rfl⟩
  have ne3 : ∀ r, r ≠ 182 → r ≠ 185 → M3 r = M2 r := fun r a b => by rw [hM3]; funext k; rw [xset_r a, rowU_ne b]
  have n182 : ∀ k, k ≠ 4 → M3 182 k = M2 182 k := fun k a => by rw [hM3, xset_j a, rowU_ne (by decide)]
  have hA3 : inS M3 A 183 0 := inS_frame (ne3 183 (by decide) (by decide)) hA2
  have er : f_219 M2 = some (A 0 0, M3) := by
    unfold f_219 f_219_L2
    have key := loop_to (b := fun s => f_219_L2b s.1 s.2) (fun i => ((i : Int), rowU M2 185 i (M2 183))) 1376 (r := (A 0 0, M3)) (fun i hi => ?_) ?_ (by show 1376 < 1000000; omega)
    · have e0 : ((0 : Int), M2) = ((fun i : Nat => ((i : Int), rowU M2 185 i (M2 183))) 0) := by
        show _ = (((0 : Nat) : Int), _)
        rw [rowU_0]; rfl
      rw [e0]; exact key
    · show f_219_L2b (i : Int) (rowU M2 185 i (M2 183)) = some (Sum.inl (((i + 1 : Nat) : Int), rowU M2 185 (i + 1) (M2 183)))
      unfold f_219_L2b
      rw [wri (i : Int) (by omega) (by omega), if_neg (by omega), gd_pos (by omega), gd_pos (by omega), bnd_def, Int.toNat_natCast, rowU_ne (a := 183) (by decide), rowU_s]
      rfl
    · show f_219_L2b ((1376 : Nat) : Int) (rowU M2 185 1376 (M2 183)) = _
      unfold f_219_L2b
      rw [wri _ (by omega) (by omega), if_pos (by omega), bnd_def, ← hM3, ← inS_mS hA3, m_0]
      rfl
  suffices fin : ALLx (T + 6100) M3 A P n o A 1 pd len st stp from ⟨_, er, rfl, ALLx_ALL fin⟩
  refine ⟨⟨RC_frame (fun r a b => by rw [ne3 r (by omega) (by omega), ne2 r (by omega), k3 r (by omega)]) h1, ?_⟩, ⟨hA3, ?_⟩, h5, ?_⟩
  · refine ⟨?_, fun i hi => ?_, ?_, fun w => ?_, ?_, ?_, fun w => ?_⟩
    · show _; rw [ne3 50 (by decide) (by decide), ne2 50 (by decide), k3 50 (by decide)]; exact g1
    · exact RC_frame (fun r r1 r2 => by rw [ne3 r (by omega) (by omega), ne2 r (by omega), k3 r (by omega)]) (g2 i hi)
    · rw [ne3 1 (by decide) (by decide), hM2, xset_eq]
    · exact RC_frame (fun r r1 r2 => by rw [ne3 r (by omega) (by omega), ne2 r (by omega)]) k2
    · rw [ne3 172 (by decide) (by decide), ne2 172 (by decide), k3 172 (by decide), ne3 173 (by decide) (by decide), ne2 173 (by decide), k3 173 (by decide)]; exact g5
    · rw [ne3 176 (by decide) (by decide), ne2 176 (by decide), k3 176 (by decide)]; exact g6
    · rw [ne3 176 (by decide) (by decide), ne2 176 (by decide), k3 176 (by decide)]; exact g7 w
  · have n182' : ∀ k, k ≠ 4 → M3 182 k = M 182 k := fun k a => by rw [n182 k a, ne2 182 (by decide), k3 182 (by decide)]
    have ne' : ∀ r, 182 < r → r ≠ 185 → M3 r = M r := fun r a b => by rw [ne3 r (by omega) b, ne2 r (by omega), k3 r (by omega)]
    refine ⟨?_, fun i hi => ?_, ?_, fun w => ?_, ?_, ?_, fun w => ?_⟩
    · rw [n182' 2 (by decide)]; exact e1
    · exact inS_frame (ne' 184 (by decide) (by decide)) (e2 i hi)
    · rw [hM3, xset_eq]
    · intro k hk
      rw [hM3, xset_r (by decide), rowU_at (by omega)]
      exact hA2 k hk
    · rw [n182' 6 (by decide), ne' 186 (by decide) (by decide)]; exact e5
    · rw [n182' 8 (by decide)]; exact e6
    · rw [ne' 187 (by decide) (by decide)]; exact e7 w
  · obtain ⟨o1, o2, o3, o4, o5, o6⟩ := h6
    exact ⟨o1, fun _ => h5, Or.inr rfl, o4, o5, o6⟩
theorem step_undo (h : ALLx T M A P n o S sv pd len st stp) : ∃ r1, f_127 M = some r1 ∧ ∃ r2, f_218 r1.2 = some r2 ∧ r1.1 = r2.1 ∧ ALL (T + 6100) r2.2 := by
  have h' := ALLx_mono h (show T ≤ T + 6100 by omega)
  obtain ⟨⟨h1, h2⟩, ⟨h3, h4⟩, h5, h6⟩ := h'
  obtain ⟨g1, g2, g3, g4, g5, g6, g7⟩ := h2
  obtain ⟨e1, e2, e3, e4, e5, e6, e7⟩ := h4
  have ho := g1.2.2.2
  have hn := g1.2.1
  by_cases q : n = 0
  · have e25 : f_25 M = (0, M) := by unfold f_25; rw [g1.1, q, if_pos (show wr ((0 : Nat) : Int) = 0 from wr0)]
    have e127 : f_127 M = some (-2, M) := by unfold f_127; rw [bnd_def, e25, if_pos rfl]
    have e218 : f_218 M = some (-2, M) := by unfold f_218; rw [e1, q, if_pos (show wr ((0 : Nat) : Int) = 0 from wr0)]
    exact ⟨_, e127, _, e218, rfl, ALL_mono (ALLx_ALL h) (by omega)⟩
  · obtain ⟨m, rfl⟩ : ∃ m, n = m + 1 := ⟨n - 1, by omega⟩
    obtain ⟨M2, hM2⟩ : ∃ M2, M2 = xset M 50 2 (m : Int) := ⟨_, rfl⟩
    have ne2 : ∀ r, r ≠ 50 → M2 r = M r := fun r a => by rw [hM2]; funext k; rw [xset_r a]
    have e50 : M2 50 1 = (o : Int) := by rw [hM2, xset_j (by decide)]; exact g1.2.2.1
    have e22 := c_22 (M := M2) (k := m) e50 ho (by omega)
    have e25 : f_25 M = (52 + 24 * ((o + m) % 5), M2) := by
      unfold f_25
      rw [g1.1, wri _ (by omega) (by omega), if_neg (by omega), bnd_def, show (((m + 1 : Nat) : Int) - 1) = (m : Int) by omega, ← hM2]
      have : M2 50 2 = (m : Int) := by rw [hM2, xset_eq]
      rw [this, e22]
    have hb := tg_state ((o + m) % 5) (by omega)
    have hP : RC M2 (52 + 24 * ((o + m) % 5)) (P m) := RC_frame (fun r r1 r2 => ne2 r (by omega)) (g2 m (by omega))
    obtain ⟨M3, k1, k2, k3⟩ := c_55 (b := 2) (o := 52 + 24 * ((o + m) % 5)) (by decide +kernel) hb (by omega) hP (h6.1 m (by omega)).1
    have e127 : f_127 M = some ((m : Int), M3) := by
      unfold f_127
      rw [bnd_def, e25]
      show (if 52 + 24 * ((o + m) % 5) = 0 then _ else gd (Tg (52 + 24 * ((o + m) % 5)) = 7) ((f_55 M2 2 (52 + 24 * ((o + m) % 5))).bind (fun k4 => some (f_21 k4, k4)))) = _
      rw [if_neg (by omega), gd_pos hb, k1]
      show some (M3 50 2, M3) = _
      rw [k3 50 (by decide), hM2, xset_eq]
    have ne3 : ∀ r, 26 ≤ r → r ≠ 50 → M3 r = M r := fun r a b => by rw [k3 r (by omega), ne2 r b]
    obtain ⟨M4, hM4⟩ : ∃ M4, M4 = xset M3 182 2 (m : Int) := ⟨_, rfl⟩
    obtain ⟨M5, hM5⟩ : ∃ M5, M5 = rowU M4 183 1376 (fun k => M4 184 (1376 * m + k)) := ⟨_, rfl⟩
    have ne4 : ∀ r, r ≠ 182 → M4 r = M3 r := fun r a => by rw [hM4]; funext k; rw [xset_r a]
    have ne5 : ∀ r, r ≠ 183 → M5 r = M4 r := fun r a => by rw [hM5]; exact rowU_ne a
    have e42 : M4 182 2 = (m : Int) := by rw [hM4, xset_eq]
    have e218 : f_218 M3 = some ((m : Int), M5) := by
      unfold f_218
      rw [ne3 182 (by decide) (by decide), e1, wri _ (by omega) (by omega), if_neg (by omega), bnd_def, show (((m + 1 : Nat) : Int) - 1) = (m : Int) by omega, ← hM4]
      unfold f_218_L22
      have key := loop_to (b := fun s => f_218_L22b s.1 s.2) (fun i => ((i : Int), rowU M4 183 i (fun k => M4 184 (1376 * m + k)))) 1376 (r := ((m : Int), M5)) (fun i hi => ?_) ?_ (by show 1376 < 1000000; omega)
      · have e0 : ((0 : Int), M4) = ((fun i : Nat => ((i : Int), rowU M4 183 i (fun k => M4 184 (1376 * m + k)))) 0) := by
          show _ = (((0 : Nat) : Int), _)
          rw [rowU_0]; rfl
        rw [e0]; exact key
      · show f_218_L22b (i : Int) (rowU M4 183 i (fun k => M4 184 (1376 * m + k))) = some (Sum.inl (((i + 1 : Nat) : Int), rowU M4 183 (i + 1) (fun k => M4 184 (1376 * m + k))))
        unfold f_218_L22b
        rw [wri (i : Int) (by omega) (by omega), if_neg (by omega), rowU_ne (a := 182) (by decide), e42, wri (1376 * (m : Int) + (i : Int)) (by omega) (by omega), gd_pos (by omega), gd_pos (by omega), bnd_def, Int.toNat_natCast, show (1376 * (m : Int) + (i : Int)).toNat = 1376 * m + i by omega, rowU_ne (a := 184) (by decide), rowU_s (f := fun k => M4 184 (1376 * m + k))]
        rfl
      · show f_218_L22b ((1376 : Nat) : Int) (rowU M4 183 1376 (fun k => M4 184 (1376 * m + k))) = _
        unfold f_218_L22b
        rw [wri _ (by omega) (by omega), if_pos (by omega), ← hM5, ne5 182 (by decide), e42]
    have ne' : ∀ r, r ≠ 182 → r ≠ 183 → M5 r = M3 r := fun r a b => by rw [ne5 r b, ne4 r a]
    have n182 : ∀ k, k ≠ 2 → M5 182 k = M 182 k := fun k a => by rw [ne5 182 (by decide), hM4, xset_j a, ne3 182 (by decide) (by decide)]
    suffices fin : ALLx (T + 6100) M5 (P m) P m o S sv pd len st stp from ⟨_, e127, _, e218, rfl, ALLx_ALL fin⟩
    refine ⟨⟨RC_frame (fun r a b => ne' r (by omega) (by omega)) k2, ?_⟩, ⟨?_, ?_⟩, h6.1 m (by omega), ?_⟩
    · refine ⟨?_, fun i hi => ?_, ?_, fun w => ?_, ?_, ?_, fun w => ?_⟩
      · rw [ne' 50 (by decide) (by decide), k3 50 (by decide), hM2, xset_eq, xset_j (by decide)]; exact ⟨rfl, by omega, g1.2.2.1, ho⟩
      · exact RC_frame (fun r r1 r2 => by rw [ne' r (by omega) (by omega), ne3 r (by omega) (by omega)]) (g2 i (by omega))
      · rw [ne' 1 (by decide) (by decide), k3 1 (by decide), ne2 1 (by decide)]; exact g3
      · exact RC_frame (fun r r1 r2 => by rw [ne' r (by omega) (by omega), ne3 r (by omega) (by omega)]) (g4 w)
      · rw [ne' 172 (by decide) (by decide), ne3 172 (by decide) (by decide), ne' 173 (by decide) (by decide), ne3 173 (by decide) (by decide)]; exact g5
      · rw [ne' 176 (by decide) (by decide), ne3 176 (by decide) (by decide)]; exact g6
      · rw [ne' 176 (by decide) (by decide), ne3 176 (by decide) (by decide)]; exact g7 w
    · intro k hk
      rw [Nat.zero_add, hM5, rowU_at hk, ne4 184 (by decide), ne3 184 (by decide) (by decide)]
      exact e2 m (by omega) k hk
    · refine ⟨?_, fun i hi => ?_, ?_, fun w => ?_, ?_, ?_, fun w => ?_⟩
      · rw [ne5 182 (by decide), e42]
      · exact inS_frame (by rw [ne' 184 (by decide) (by decide), ne3 184 (by decide) (by decide)]) (e2 i (by omega))
      · rw [n182 4 (by decide)]; exact e3
      · exact inS_frame (by rw [ne' 185 (by decide) (by decide), ne3 185 (by decide) (by decide)]) (e4 w)
      · rw [n182 6 (by decide), ne' 186 (by decide) (by decide), ne3 186 (by decide) (by decide)]; exact e5
      · rw [n182 8 (by decide)]; exact e6
      · rw [ne' 187 (by decide) (by decide), ne3 187 (by decide) (by decide)]; exact e7 w
    · obtain ⟨o1, o2⟩ := h6
      exact ⟨fun i hi => o1 i (by omega), o2⟩
theorem step_restore (h : ALLx T M A P n o S sv pd len st stp) : ∃ r1, f_129 M = some r1 ∧ ∃ r2, f_220 r1.2 = some r2 ∧ r1.1 = r2.1 ∧ ALL (T + 6100) r2.2 := by
  have h0 := h
  obtain ⟨⟨h1, h2⟩, ⟨h3, h4⟩, h5, h6⟩ := h
  have g3 := h2.2.2.1
  have e3 := h4.2.2.1
  rcases h6.2.2.1 with q | q
  · have e129 : f_129 M = some (-2, M) := by unfold f_129; rw [g3, q, if_pos wr0]
    have e220 : f_220 M = some (-2, M) := by unfold f_220; rw [e3, q, if_pos wr0]
    exact ⟨_, e129, _, e220, rfl, ALL_mono (ALLx_ALL h0) (by omega)⟩
  · have hS := h6.2.1 q
    obtain ⟨M1, k1, k2, k3, k4, k5⟩ := c_23 h1 h5 h2
    obtain ⟨M2, j1, j2, j3⟩ := c_55 (b := 2) (o := 26) (by decide +kernel) (by decide +kernel) (by decide) (k3.2.2.2.1 q) hS.1
    have em : M2 2 4 = S 0 0 := j2.1.2.1
    have an : AN M1 2 0 (S 0 0) S (S 0 0, M2) := Or.inr ⟨rfl, rfl, j2, j3⟩
    have hS0 := hS.1.1.1
    have ca := c_change' (M := M) (A := A) (A' := S) k2 k3 k4 k5 an (fun _ => by omega) (by decide)
    have e129 : f_129 M = some (f_130 M2 (S 0 0)) := by
      unfold f_129
      rw [g3, q, if_neg (by decide +kernel), k1, Option.bind_some, j1, Option.bind_some, bnd_def, em]
    refine ⟨_, e129, ?_⟩
    exact both_change (f := f_220) (by omega) h0 ca (fun X a b => by
      have hn := h2.1.2.1
      obtain ⟨X1, l1, l2, l3, l4⟩ := m_140 hn a b
      obtain ⟨X2, hX2⟩ : ∃ X2, X2 = rowU X1 183 1376 (X1 185) := ⟨_, rfl⟩
      have ne : ∀ r, r ≠ 183 → X2 r = X1 r := fun r w => by rw [hX2]; exact rowU_ne w
      have hS2 : inS X2 S 183 0 := fun k hk => by
        rw [Nat.zero_add, hX2, rowU_at hk]
        have := l3.2.2.2.1 q k hk
        rw [Nat.zero_add] at this; exact this
      have e220 : f_220 X = some (S 0 0, X2) := by
        unfold f_220
        rw [b.2.2.1, q, if_neg (by decide +kernel), l1, Option.bind_some]
        unfold f_220_L16
        have key := loop_to (b := fun s => f_220_L16b s.1 s.2) (fun i => ((i : Int), rowU X1 183 i (X1 185))) 1376 (r := (S 0 0, X2)) (fun i hi => ?_) ?_ (by show 1376 < 1000000; omega)
        · have e0 : ((0 : Int), X1) = ((fun i : Nat => ((i : Int), rowU X1 183 i (X1 185))) 0) := by
            show _ = (((0 : Nat) : Int), _)
            rw [rowU_0]; rfl
          rw [e0]; exact key
        · show f_220_L16b (i : Int) (rowU X1 183 i (X1 185)) = some (Sum.inl (((i + 1 : Nat) : Int), rowU X1 183 (i + 1) (X1 185)))
          unfold f_220_L16b
          rw [wri (i : Int) (by omega) (by omega), if_neg (by omega), gd_pos (by omega), gd_pos (by omega), bnd_def, Int.toNat_natCast, rowU_ne (a := 185) (by decide), rowU_s]
          rfl
        · show f_220_L16b ((1376 : Nat) : Int) (rowU X1 183 1376 (X1 185)) = _
          unfold f_220_L16b
          rw [wri _ (by omega) (by omega), if_pos (by omega), ← hX2, ← inS_mS hS2, m_0]
          rfl
      refine ⟨_, e220, fun k hk => ?_, Or.inr ⟨rfl, rfl, hS2, MWr_frame (fun r _ _ w => ne r w) l3⟩⟩
      show X2 k = X k
      rw [ne k (by omega), l4 k (Or.inl hk)]) (fun _ => WX_mono hS (by omega))
end HI
