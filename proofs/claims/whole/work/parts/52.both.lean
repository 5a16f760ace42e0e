/-! MEANING, 23: both worlds; the calls that change -/
section BO
/-- class and reference hold the same -/
def ALLx (T : Int) (M A : xM) (P : Nat → xM) (n o : Nat) (S : xM) (sv : Int) (pd : Nat → Int) (len : Nat) (st : Nat → Int) (stp : Int) : Prop :=
  (RC M 2 A ∧ CWr M P n o S sv pd len st stp) ∧ (inS M A 183 0 ∧ MWr M P n S sv pd len st stp) ∧ WX T A ∧ OKr T P n S sv pd len stp
def ALL (T : Int) (M : xM) : Prop := ∃ A P n o S sv pd len st stp, ALLx T M A P n o S sv pd len st stp
theorem ALL_mono {T U : Int} {M : xM} (h : ALL T M) (ht : T ≤ U) : ALL U M := by
  obtain ⟨A, P, n, o, S, sv, pd, len, st, stp, h1, h2, h3, h4⟩ := h
  exact ⟨A, P, n, o, S, sv, pd, len, st, stp, h1, h2, WX_mono h3 ht, OKr_mono h4 ht⟩
variable {M A : xM} {T : Int} {P : Nat → xM} {n o : Nat} {S : xM} {sv : Int} {pd : Nat → Int} {len : Nat} {st : Nat → Int} {stp : Int}
theorem inS_frame {M' B : xM} {r off : Nat} (h : M' r = M r) (hi : inS M B r off) : inS M' B r off := by
  unfold inS at hi ⊢; rw [h]; exact hi
/-- class and reference, a change -/
theorem both_change {U why good : Int} {A' : xM} {r1 : Int × xM} {f : xM → Option (Int × xM)} (hTU : T ≤ U) (h : ALLx T M A P n o S sv pd len st stp) (hc : CAns M why good A A' P n o S sv pd len st stp r1)
    (hm : ∀ M1, inS M1 A 183 0 → MWr M1 P n S sv pd len st stp → ∃ r2, f M1 = some r2 ∧ MAns M1 why good A A' P n S sv pd len st stp r2) (hW : why = 0 → WX U A') : ∃ r2, f r1.2 = some r2 ∧ r1.1 = r2.1 ∧ ALL U r2.2 := by
  obtain ⟨⟨h1, h2⟩, ⟨h3, h4⟩, h5, h6⟩ := h
  obtain ⟨c1, c2⟩ := hc
  obtain ⟨r2, k1, k2, k3⟩ := hm r1.2 (inS_frame (c1 183 (by decide)) h3) (MWr_frame (fun r a b _ => c1 r a) h4)
  refine ⟨r2, k1, ?_⟩
  have hb : ∀ (X : xM) (Q : Nat → xM) (m p : Nat), RC r1.2 2 X → CWr r1.2 Q m p S sv pd len st stp → RC r2.2 2 X ∧ CWr r2.2 Q m p S sv pd len st stp := fun X Q m p q1 q2 =>
    ⟨RC_frame (fun r a b => k2 r (by omega)) q1, CWr_frame (fun r a b => k2 r b) q2⟩
  rcases c2 with ⟨w, g1, g2, g3⟩ | ⟨w, g1, g2, g3⟩
  · rcases k3 with ⟨w', e1, e2, e3⟩ | ⟨w', e1, e2, e3⟩
    · exact ⟨by rw [g1, e1], A, P, n, o, S, sv, pd, len, st, stp, hb _ _ _ _ g2 g3, ⟨e2, e3⟩, WX_mono h5 hTU, OKr_mono h6 hTU⟩
    · omega
  · rcases k3 with ⟨w', e1, e2, e3⟩ | ⟨w', e1, e2, e3⟩
    · omega
    · refine ⟨by rw [g1, e1], A', pushP P n A, pushN n, pushO o n, S, sv, pd, len, st, stp, hb _ _ _ _ g2 g3, ⟨e2, e3⟩, hW w, ?_⟩
      have h6' := OKr_mono h6 hTU
      exact ⟨pushP_ok h2.1.2.1 h6'.1 (WX_mono h5 hTU), h6'.2⟩
abbrev CUT : Int := 6100
theorem why_b (h : ALLx T M A P n o S sv pd len st stp) : n ≤ 4 := h.1.2.1.2.1
theorem step_press (h : ALLx T M A P n o S sv pd len st stp) : ∃ r1, f_97 M = some r1 ∧ ∃ r2, f_169 r1.2 = some r2 ∧ r1.1 = r2.1 ∧ ALL (T + 6100) r2.2 := by
  obtain ⟨M1, k1, k2, k3, k4, k5⟩ := c_23 h.1.1 h.2.2.1 h.1.2
  obtain ⟨r, j1, j2⟩ := c_69 (M := M1) (b := 2) (by decide +kernel) k2 h.2.2.1
  have hw : -3 ≤ whyPress A ∧ whyPress A ≤ 0 := by unfold whyPress; split; decide; split <;> decide
  have hg : whyPress A = 0 → WX (T + 6100) (aPress A) := fun w => WX_mono (W_press h.2.2.1 w) (by omega)
  by_cases w : whyPress A = 0
  · have hgood := (hg w).1.1.1
    have ca := c_change (M := M) k2 k3 k4 k5 j2 (by omega) (by omega)
    refine ⟨f_130 r.2 r.1, by unfold f_97; rw [k1, Option.bind_some, j1, Option.bind_some, bnd_def], ?_⟩
    exact both_change (by omega) h ca (fun M1 a b => m_169 h.2.2.1 (why_b h) a b) hg
  · have j2' : AN M1 2 (whyPress A) 0 (aPress A) r := by
      rcases j2 with q | ⟨q, _⟩
      · exact Or.inl q
      · exact absurd q w
    have ca := c_change (M := M) k2 k3 k4 k5 j2' (by decide) (by omega)
    have ca' : CAns M (whyPress A) (aPress A 0 0) A (aPress A) P n o S sv pd len st stp (f_130 r.2 r.1) := by
      refine ⟨ca.1, ?_⟩
      rcases ca.2 with q | ⟨q, _⟩
      · exact Or.inl q
      · exact absurd q w
    refine ⟨f_130 r.2 r.1, by unfold f_97; rw [k1, Option.bind_some, j1, Option.bind_some, bnd_def], ?_⟩
    exact both_change (by omega) h ca' (fun M1 a b => m_169 h.2.2.1 (why_b h) a b) hg
/-- the same, the answer's bounds asked for only where there is one -/
theorem c_change' {A' M1 : xM} {why good : Int} {r : Int × xM} (hR1 : RC M1 2 A) (h : CWr M1 P n o S sv pd len st stp) (hF : RC M1 (52 + 24 * ((o + n) % 5)) A) (hfr : ∀ r, 182 ≤ r → M1 r = M r) (hr : AN M1 2 why good A' r) (hg : why = 0 → 0 ≤ good ∧ good < 2147483648) (hw : -2147483648 ≤ why) : CAns M why good A A' P n o S sv pd len st stp (f_130 r.2 r.1) := by
  by_cases w : why = 0
  · exact c_change hR1 h hF hfr hr (hg w) hw
  · have j2' : AN M1 2 why 0 A' r := by
      rcases hr with q | ⟨q, _⟩
      · exact Or.inl q
      · exact absurd q w
    have ca := c_change (M := M) hR1 h hF hfr j2' (by decide) hw
    refine ⟨ca.1, ?_⟩
    rcases ca.2 with q | ⟨q, _⟩
    · exact Or.inl q
    · exact absurd q w
theorem step_stop (h : ALLx T M A P n o S sv pd len st stp) : ∃ r1, f_98 M = some r1 ∧ ∃ r2, f_170 r1.2 = some r2 ∧ r1.1 = r2.1 ∧ ALL (T + 6100) r2.2 := by
  obtain ⟨M1, k1, k2, k3, k4, k5⟩ := c_23 h.1.1 h.2.2.1 h.1.2
  have j2 := c_75 (M := M1) (b := 2) k2 h.2.2.1
  have hw : whyStop A = -2 ∨ whyStop A = 0 := by unfold whyStop; split <;> decide
  have hg : whyStop A = 0 → WX (T + 6100) (aStop A) := fun w => WX_mono (W_stop h.2.2.1 (by unfold whyStop at w; by_cases q : A 0 0 = 0 ∨ A 0 0 = 4; rw [if_pos q] at w; omega; omega)) (by omega)
  have ca := c_change' (M := M) k2 k3 k4 k5 j2 (fun w => by have := (hg w).1.1.1; omega) (by omega)
  exact ⟨_, by unfold f_98; rw [k1, Option.bind_some, bnd_def, bnd_def], both_change (by omega) h ca (fun M1 a b => m_170 h.2.2.1 (why_b h) a b) hg⟩
theorem step_empty (h : ALLx T M A P n o S sv pd len st stp) : ∃ r1, f_99 M = some r1 ∧ ∃ r2, f_171 r1.2 = some r2 ∧ r1.1 = r2.1 ∧ ALL (T + 6100) r2.2 := by
  obtain ⟨M1, k1, k2, k3, k4, k5⟩ := c_23 h.1.1 h.2.2.1 h.1.2
  have j2 := c_76 (M := M1) (b := 2) k2 h.2.2.1
  have hw : whyEmpty A = -2 ∨ whyEmpty A = 0 := by unfold whyEmpty; split <;> decide
  have hg : whyEmpty A = 0 → WX (T + 6100) (aEmpty A) := fun w => WX_mono (W_empty h.2.2.1) (by omega)
  have h7 := h.2.2.1.1.1.2.2.2.2.2.1
  have ca := c_change' (M := M) k2 k3 k4 k5 j2 (fun w => by omega) (by omega)
  exact ⟨_, by unfold f_99; rw [k1, Option.bind_some, bnd_def, bnd_def], both_change (by omega) h ca (fun M1 a b => m_171 h.2.2.1 (why_b h) a b) hg⟩
theorem whyHit_0 {k f : Int} (w : whyHit A k f = 0) : (0 ≤ k ∧ k ≤ 23 ∧ 1 ≤ f ∧ f ≤ 99) ∧ tkr A := by
  unfold whyHit at w
  by_cases q : 0 ≤ k ∧ k ≤ 23 ∧ 1 ≤ f ∧ f ≤ 99
  · rw [if_pos q] at w
    by_cases t : tkr A
    · exact ⟨q, t⟩
    · rw [if_neg t] at w; omega
  · rw [if_neg q] at w; omega
theorem aHitV_b {k f : Int} (hX : WX T A) (w : whyHit A k f = 0) : 0 ≤ aHitV A k f ∧ aHitV A k f ≤ 99 := by
  obtain ⟨q, t⟩ := whyHit_0 w
  have hat := hitAt_b hX t (k := k) (by omega)
  exact both_b (hX.1.2.2.2.1 6 _ (by decide) hat.1) (by omega)
theorem step_hit (h : ALLx T M A P n o S sv pd len st stp) {k f : Int} (hk : -2147483648 ≤ k ∧ k < 2147483648) (hf : -2147483648 ≤ f ∧ f < 2147483648) : ∃ r1, f_100 M k f = some r1 ∧ ∃ r2, f_172 r1.2 k f = some r2 ∧ r1.1 = r2.1 ∧ ALL (T + 6100) r2.2 := by
  obtain ⟨M1, k1, k2, k3, k4, k5⟩ := c_23 h.1.1 h.2.2.1 h.1.2
  obtain ⟨r, j1, j2⟩ := c_77 (M := M1) (b := 2) (by decide +kernel) k2 h.2.2.1 hk hf
  have hw : -2 ≤ whyHit A k f := by unfold whyHit; split; split <;> decide; decide
  have hg : whyHit A k f = 0 → WX (T + 6100) (aHit A k f) := fun w => by
    obtain ⟨q, t⟩ := whyHit_0 w
    exact WX_mono (W_hit h.2.2.1 t (by omega) (by omega)) (by omega)
  have ca := c_change' (M := M) k2 k3 k4 k5 j2 (fun w => by have := aHitV_b h.2.2.1 w; omega) (by omega)
  exact ⟨_, by unfold f_100; rw [k1, Option.bind_some, j1, Option.bind_some, bnd_def], both_change (f := fun X => f_172 X k f) (by omega) h ca (fun M1 a b => m_172 h.2.2.1 (why_b h) a b hk hf) hg⟩
theorem step_pass (h : ALLx T M A P n o S sv pd len st stp) {t : Int} (ht : -2147483648 ≤ t ∧ t < 2147483648) : ∃ r1, f_101 M t = some r1 ∧ ∃ r2, f_173 r1.2 t = some r2 ∧ r1.1 = r2.1 ∧ ALL (T + 6100) r2.2 := by
  obtain ⟨M1, k1, k2, k3, k4, k5⟩ := c_23 h.1.1 h.2.2.1 h.1.2
  obtain ⟨r, j1, j2⟩ := c_79 (M := M1) (b := 2) (by decide +kernel) k2 h.2.2.1 ht
  have hw : whyPass t = 0 ∧ (1 ≤ t ∧ t ≤ 99) ∨ whyPass t = -1 := by
    unfold whyPass
    by_cases q : 1 ≤ t ∧ t ≤ 99
    · rw [if_pos q]; exact Or.inl ⟨rfl, q⟩
    · rw [if_neg q]; exact Or.inr rfl
  have hg : whyPass t = 0 → WX (T + 6100) (aPass t.toNat A).2 := fun w => WX_mono (W_pass h.2.2.1 t.toNat) (by omega)
  have ca := c_change' (M := M) k2 k3 k4 k5 j2 (fun w => by have := pass_b (A := A) t.toNat; omega) (by omega)
  exact ⟨_, by unfold f_101; rw [k1, Option.bind_some, j1, Option.bind_some, bnd_def], both_change (f := fun X => f_173 X t) (by omega) h ca (fun M1 a b => m_173 h.2.2.1 (why_b h) a b ht) hg⟩
theorem whyPeel_0 (w : whyPeel A = 0) : ¬ tkr A ∧ 2 ≤ A 0 7 := by
  unfold whyPeel at w
  by_cases q : tkr A ∨ A 0 7 < 2
  · rw [if_pos q] at w; omega
  · exact ⟨fun x => q (Or.inl x), by omega⟩
theorem whyBack_0 (w : whyBack A = 0) : ¬ tkr A ∧ A 0 8 ≠ 0 := by
  unfold whyBack at w
  by_cases q : tkr A ∨ A 0 8 = 0
  · rw [if_pos q] at w; omega
  · exact ⟨fun x => q (Or.inl x), fun x => q (Or.inr x)⟩
theorem step_peel (h : ALLx T M A P n o S sv pd len st stp) : ∃ r1, f_102 M = some r1 ∧ ∃ r2, f_174 r1.2 = some r2 ∧ r1.1 = r2.1 ∧ ALL (T + 6100) r2.2 := by
  obtain ⟨M1, k1, k2, k3, k4, k5⟩ := c_23 h.1.1 h.2.2.1 h.1.2
  obtain ⟨r, j1, j2⟩ := c_83 (M := M1) (b := 2) (by decide +kernel) k2 h.2.2.1
  have h7 := h.2.2.1.1.1.2.2.2.2.2.1
  have hw : whyPeel A = -2 ∨ whyPeel A = 0 := by unfold whyPeel; split <;> decide
  have ca := c_change' (M := M) k2 k3 k4 k5 j2 (fun w => by have := whyPeel_0 w; omega) (by omega)
  exact ⟨_, by unfold f_102; rw [k1, Option.bind_some, j1, Option.bind_some, bnd_def], both_change (by omega) h ca (fun M1 a b => m_174 h.2.2.1 (why_b h) a b) (fun w => WX_mono (W_peel h.2.2.1 (whyPeel_0 w)) (by omega))⟩
theorem step_back (h : ALLx T M A P n o S sv pd len st stp) : ∃ r1, f_103 M = some r1 ∧ ∃ r2, f_175 r1.2 = some r2 ∧ r1.1 = r2.1 ∧ ALL (T + 6100) r2.2 := by
  obtain ⟨M1, k1, k2, k3, k4, k5⟩ := c_23 h.1.1 h.2.2.1 h.1.2
  have j2 := c_84 (M := M1) (b := 2) k2 h.2.2.1
  have h7 := h.2.2.1.1.1.2.2.2.2.2.1
  have hw : whyBack A = -2 ∨ whyBack A = 0 := by unfold whyBack; split <;> decide
  have ca := c_change' (M := M) k2 k3 k4 k5 j2 (fun w => by omega) (by omega)
  exact ⟨_, by unfold f_103; rw [k1, Option.bind_some, bnd_def, bnd_def], both_change (by omega) h ca (fun M1 a b => m_175 h.2.2.1 (why_b h) a b) (fun w => WX_mono (W_back h.2.2.1 (whyBack_0 w)) (by omega))⟩
theorem step_mute (h : ALLx T M A P n o S sv pd len st stp) {l : Int} (hl : -2147483648 ≤ l ∧ l < 2147483648) : ∃ r1, f_104 M l = some r1 ∧ ∃ r2, f_176 r1.2 l = some r2 ∧ r1.1 = r2.1 ∧ ALL (T + 6100) r2.2 := by
  obtain ⟨M1, k1, k2, k3, k4, k5⟩ := c_23 h.1.1 h.2.2.1 h.1.2
  obtain ⟨r, j1, j2⟩ := c_85 (M := M1) (b := 2) (by decide +kernel) k2 h.2.2.1 hl
  have h7 := h.2.2.1.1.1.2.2.2.2.2.1
  have hw : whyMute A l = 0 ∧ (0 ≤ l ∧ l < A 0 7) ∨ whyMute A l = -1 := by
    unfold whyMute
    by_cases q : 0 ≤ l ∧ l < A 0 7
    · rw [if_pos q]; exact Or.inl ⟨rfl, q⟩
    · rw [if_neg q]; exact Or.inr rfl
  have ca := c_change' (M := M) k2 k3 k4 k5 j2 (fun w => by have := (h.2.2.1.1.2.2.1 l.toNat (by omega) (by omega)).2.1; omega) (by omega)
  exact ⟨_, by unfold f_104; rw [k1, Option.bind_some, j1, Option.bind_some, bnd_def], both_change (f := fun X => f_176 X l) (by omega) h ca (fun M1 a b => m_176 h.2.2.1 (why_b h) a b hl) (fun w => WX_mono (W_mute h.2.2.1 (l := l.toNat) (by omega)) (by omega))⟩
theorem step_speed (h : ALLx T M A P n o S sv pd len st stp) : ∃ r1, f_105 M = some r1 ∧ ∃ r2, f_177 r1.2 = some r2 ∧ r1.1 = r2.1 ∧ ALL (T + 6100) r2.2 := by
  obtain ⟨M1, k1, k2, k3, k4, k5⟩ := c_23 h.1.1 h.2.2.1 h.1.2
  have j2 := c_86 (M := M1) (b := 2) k2 h.2.2.1
  have h2 := h.2.2.1.1.1.2.1
  have ca := c_change' (M := M) k2 k3 k4 k5 j2 (fun w => by omega) (by decide)
  exact ⟨_, by unfold f_105; rw [k1, Option.bind_some, bnd_def, bnd_def], both_change (by omega) h ca (fun M1 a b => m_177 h.2.2.1 (why_b h) a b) (fun w => WX_mono (W_speed h.2.2.1) (by omega))⟩
theorem step_set {rom : xRom} (hrom : romOk rom) (h : ALLx T M A P n o S sv pd len st stp) {w v : Int} (hw : -2147483648 ≤ w ∧ w < 2147483648) (hv : -2147483648 ≤ v ∧ v < 2147483648) : ∃ r1, f_106 rom M w v = some r1 ∧ ∃ r2, f_178 r1.2 w v = some r2 ∧ r1.1 = r2.1 ∧ ALL (T + 6100) r2.2 := by
  obtain ⟨M1, k1, k2, k3, k4, k5⟩ := c_23 h.1.1 h.2.2.1 h.1.2
  obtain ⟨r, j1, j2⟩ := c_87 (M := M1) (b := 2) hrom k2 hw hv
  have hc : whySet w v = 0 ∧ ((w = 0 ∧ 2 ≤ v ∧ v ≤ 16) ∨ (w = 1 ∧ 0 ≤ v ∧ v ≤ 8) ∨ (w = 2 ∧ 0 ≤ v ∧ v ≤ 100)) ∨ whySet w v = -1 := by
    unfold whySet
    split
    · exact Or.inl ⟨rfl, by assumption⟩
    · exact Or.inr rfl
  have hs := h.2.2.1.1.1
  have ca := c_change' (M := M) k2 k3 k4 k5 j2 (fun q => by
    have hw3 : w = 0 ∨ w = 1 ∨ w = 2 := by omega
    rcases hw3 with e | e | e <;> subst e
    · have := hs.2.2.1
      show 0 ≤ A 0 3 ∧ A 0 3 < 2147483648
      omega
    · have := hs.2.2.2.1
      show 0 ≤ A 0 4 ∧ A 0 4 < 2147483648
      omega
    · have := hs.2.2.2.2.1
      show 0 ≤ A 0 5 ∧ A 0 5 < 2147483648
      omega) (by omega)
  exact ⟨_, by unfold f_106; rw [k1, Option.bind_some, j1, Option.bind_some, bnd_def], both_change (f := fun X => f_178 X w v) (by omega) h ca (fun M1 a b => m_178 h.2.2.1 (why_b h) a b hw hv) (fun q => WX_mono (W_set h.2.2.1 (w := w.toNat) (v := v) (by unfold setOk; omega)) (by omega))⟩
end BO
