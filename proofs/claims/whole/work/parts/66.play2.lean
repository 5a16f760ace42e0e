/-! MEANING, 37: play -/
section PQ
variable {M A : xM} {T : Int} {P : Nat → xM} {n o : Nat} {S : xM} {sv : Int} {pd : Nat → Int} {len : Nat} {st : Nat → Int} {stp : Int}
theorem RO_b : ∀ (k : Nat) (s : Int), k ≤ len → -4 ≤ runO pd len k s ∧ runO pd len k s ≤ len := by
  intro k
  induction k with
  | zero =>
    intro s _
    show -4 ≤ (if wr (f_42 s) = 0 then (len : Int) else -4) ∧ (if wr (f_42 s) = 0 then (len : Int) else -4) ≤ len
    split <;> omega
  | succ k ih =>
    intro s hk
    show -4 ≤ (if f_40 s (pd (len - (k + 1))) = -1 then ((len - (k + 1) : Nat) : Int) else runO pd len k (f_40 s (pd (len - (k + 1))))) ∧ (if f_40 s (pd (len - (k + 1))) = -1 then ((len - (k + 1) : Nat) : Int) else runO pd len k (f_40 s (pd (len - (k + 1))))) ≤ len
    have := ih (f_40 s (pd (len - (k + 1)))) (by omega)
    split
    · omega
    · exact this
theorem CWr_forget (h : CWr M P n o S sv pd len st stp) : CWr (f_17 M) P n o S sv pd len st 0 := by
  obtain ⟨g1, g2, g3, g4, g5, g6, g7⟩ := h
  have ne : ∀ r, r ≠ 176 → f_17 M r = M r := fun r a => by show xset M 176 0 0 r = M r; exact xset_ne a
  refine ⟨?_, fun i hi => ?_, ?_, fun w => ?_, ?_, ?_, fun w => absurd w (by decide)⟩
  · rw [ne 50 (by decide)]; exact g1
  · exact RC_frame (fun r r1 r2 => ne r (by omega)) (g2 i hi)
  · rw [ne 1 (by decide)]; exact g3
  · exact RC_frame (fun r r1 r2 => ne r (by omega)) (g4 w)
  · rw [ne 172 (by decide), ne 173 (by decide)]; exact g5
  · show xset M 176 0 0 176 0 = 0
    exact xset_eq
theorem m_start (hn : n ≤ 4) (hl : len ≤ 60) (h4 : ∀ j, j < len → 33 ≤ pd j ∧ pd j ≤ 126) (hI : inS M A 183 0) (hM : MWr M P n S sv pd len st stp) (q : RO pd len 0 0 = -4) : ∃ X, f_191 M = loop NF mB (0, 0, X) ∧ inS X A 183 0 ∧ MWr X (pushP P n A) (pushN n) S sv pd len st 0 ∧ ∀ r, r < 182 → X r = M r := by
  have hPM : PM M pd len := ⟨hM.2.2.2.2.1.1, hM.2.2.2.2.1.2, hl, h4⟩
  obtain ⟨M1, k1, k2, k3, k4⟩ := m_140 hn hI hM
  refine ⟨xset M1 182 8 0, ?_, inS_frame (xset_ne (by decide)) k2, ?_, fun r hr => (xset_ne (by omega)).trans (k4 r (Or.inl hr))⟩
  · unfold f_191 f_191_L26
    rw [m_187o hPM, Option.bind_some, q, wri (-4) (by decide) (by decide), if_pos rfl, k1, Option.bind_some, bnd_def]
  · obtain ⟨g1, g2, g3, g4, g5, g6, g7⟩ := k3
    refine ⟨?_, fun i hi => ?_, ?_, fun w => ?_, ?_, xset_eq, fun w => absurd w (by decide)⟩
    · rw [xset_j (by decide)]; exact g1
    · exact inS_frame (xset_ne (by decide)) (g2 i hi)
    · rw [xset_j (by decide)]; exact g3
    · exact inS_frame (xset_ne (by decide)) (g4 w)
    · rw [xset_j (by decide), xset_ne (by decide)]; exact g5
theorem step_play (h : ALLx T M A P n o S sv pd len st stp) : ∃ r1, f_110 M = some r1 ∧ ∃ r2, f_191 r1.2 = some r2 ∧ r1.1 = r2.1 ∧ ALL (T + 10000) r2.2 := by
  have hPC := ALLx_PC h
  have hPM := ALLx_PM h
  have hl := hPC.2.2.1
  have h4' := hPC.2.2.2
  have hb := RO_b (pd := pd) (len := len) len 0 (Nat.le_refl _)
  have hb' : -4 ≤ RO pd len 0 0 ∧ RO pd len 0 0 ≤ len := by unfold RO; rw [Nat.sub_zero]; exact hb
  by_cases q : RO pd len 0 0 = -4
  · have hlen : 0 < len := by
      by_cases z : 0 < len
      · exact z
      · have e : len = 0 := by omega
        have r := RO_end (pd := pd) (len := len) (s := 0)
        rw [f42s.1, if_pos rfl] at r
        rw [e] at r q
        omega
    have hf : RO pd len 1 0 = -4 := by
      rw [← q, RO_step (s := 0) hlen, RO_step (s := 1) hlen, f40_0, f40_1]
    obtain ⟨⟨h1, h2⟩, ⟨h3, h4⟩, h5, h6⟩ := h
    have hn := h2.1.2.1
    obtain ⟨M1, k1, k2, k3, k4, k5⟩ := c_23 h1 h5 h2
    obtain ⟨a1, a2, a3⟩ := c_24 k2 k3 k4
    have a4 := CWr_forget a2
    obtain ⟨M2, hM2⟩ : ∃ M2, M2 = f_17 (f_24 M1) := ⟨_, rfl⟩
    rw [← hM2] at a4
    have ne2 : ∀ r, r ≠ 176 → r ≠ 50 → M2 r = M1 r := fun r a b => by
      rw [hM2]; show xset (f_24 M1) 176 0 0 r = M1 r; exact (xset_ne a).trans (a3 r b)
    have hR2 : RC M2 2 A := RC_frame (fun r a b => ne2 r (by omega) (by omega)) k2
    have fr2 : ∀ r, 182 ≤ r → M2 r = M r := fun r a => (ne2 r (by omega) (by omega)).trans (k5 r a)
    have ec : f_110 M = loop NF cB (0, 0, M2) := by
      unfold f_110 f_110_L48
      rw [c_51o hPC, Option.bind_some, q, wri (-4) (by decide) (by decide), if_pos rfl, k1, Option.bind_some, bnd_def, bnd_def, ← hM2]
    have hO : OKr T (pushP P n A) (pushN n) S sv pd len 0 := ⟨pushP_ok hn h6.1 h5, h6.2.1, h6.2.2.1, hl, h4', Or.inl rfl⟩
    obtain ⟨X, x1, x2, x3, x4⟩ := m_start hn hl h4' (inS_frame (fr2 183 (by decide)) h3) (MWr_frame (fun r a b c => fr2 r a) h4) q
    have nf : len - 0 < NF := by show len - 0 < 1000000; omega
    obtain ⟨r1, -, l1, -, -, l2, -⟩ := play_loop (len - 0) 0 rfl (Nat.zero_le _) hf T M2 X A 0 st st hO hR2 a4 x2 x3 h5 NF NF nf nf
    have l1' : loop NF cB (0, 0, M2) = some r1 := l1
    have fr1 : ∀ r, 182 ≤ r → r1.2 r = M r := fun r a => (l2 r a).trans (fr2 r a)
    obtain ⟨Y, y1, y2, y3, y4⟩ := m_start hn hl h4' (inS_frame (fr1 183 (by decide)) h3) (MWr_frame (fun r a b c => fr1 r a) h4) q
    obtain ⟨s1, s2, p1, p2, p3, p4, p5, A', s', stp', p6, p7, p8, p9, p10, p11⟩ := play_loop (len - 0) 0 rfl (Nat.zero_le _) hf T M2 Y A 0 st st hO hR2 a4 y2 y3 h5 NF NF nf nf
    have p1' : loop NF cB (0, 0, M2) = some s1 := p1
    have p2' : loop NF mB (0, 0, Y) = some s2 := p2
    have es : s1 = r1 := by rw [l1'] at p1'; exact (Option.some.inj p1').symm
    rw [es] at p3 p6 p7
    have fin : ∀ r, r < 182 → s2.2 r = r1.2 r := fun r a => (p5 r a).trans (y4 r a)
    refine ⟨r1, ec.trans l1', s2, y1.trans p2', p3, A', pushP P n A, pushN n, pushO o n, S, sv, pd, 0, s', stp', ⟨RC_frame (fun r a b => fin r (by omega)) p6, CWr_frame (fun r a b => fin r b) p7⟩, ⟨p8, p9⟩, WX_mono p11 (by omega), ?_⟩
    have hO' := OKr_mono hO (show T ≤ T + 10000 by omega)
    exact ⟨hO'.1, hO'.2.1, hO'.2.2.1, Nat.zero_le _, fun j hj => absurd hj (Nat.not_lt_zero j), p10⟩
  · have e1 : f_110 M = some (-2, M) := by
      unfold f_110
      rw [c_51o hPC, Option.bind_some, wri (RO pd len 0 0) (by omega) (by omega), if_neg q]
    have e2 : f_191 M = some (-2, M) := by
      unfold f_191
      rw [m_187o hPM, Option.bind_some, wri (RO pd len 0 0) (by omega) (by omega), if_neg q]
    exact ⟨_, e1, _, e2, rfl, ALL_mono ⟨A, P, n, o, S, sv, pd, len, st, stp, h⟩ (by omega)⟩
end PQ
