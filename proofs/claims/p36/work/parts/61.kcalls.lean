/-! P36, 2: the class's calls that change -/
section KC
variable {M A : xM} {T : Int} {P : Nat → xM} {n o : Nat} {S : xM} {sv : Int}
def KA (T U why good : Int) (A A' : xM) (P : Nat → xM) (n o : Nat) (S : xM) (sv : Int) (r : Int × xM) : Prop :=
  (why < 0 ∧ r.1 = why ∧ KX T r.2 A P n o S sv) ∨ (why = 0 ∧ r.1 = good ∧ KX U r.2 A' (pushP P n A) (pushN n) (pushO o n) S sv)
theorem KA_of {U why good : Int} {A' : xM} {r : Int × xM} (h : KX T M A P n o S sv) (hTU : T ≤ U) (ca : CAns M why good A A' P n o S sv (fun _ => 0) 0 (fun _ => 0) 0 r) (hW : why = 0 → WX U A') : KA T U why good A A' P n o S sv r := by
  obtain ⟨h1, h2, h5, h6⟩ := h
  rcases ca.2 with ⟨w, g1, g2, g3⟩ | ⟨w, g1, g2, g3⟩
  · exact Or.inl ⟨w, g1, g2, g3, h5, h6⟩
  · have h6' := OKr_mono h6 hTU
    exact Or.inr ⟨w, g1, g2, g3, hW w, pushP_ok h2.1.2.1 h6'.1 (WX_mono h5 hTU), h6'.2⟩
theorem k_press (h : KX T M A P n o S sv) : ∃ r, f_97 M = some r ∧ KA T (T + 6100) (whyPress A) (aPress A 0 0) A (aPress A) P n o S sv r := by
  obtain ⟨M1, k1, k2, k3, k4, k5⟩ := c_23 h.1 h.2.2.1 h.2.1
  obtain ⟨r, j1, j2⟩ := c_69 (M := M1) (b := 2) (by decide +kernel) k2 h.2.2.1
  have hw : -3 ≤ whyPress A ∧ whyPress A ≤ 0 := by unfold whyPress; split; decide; split <;> decide
  have hg : whyPress A = 0 → WX (T + 6100) (aPress A) := fun w => WX_mono (W_press h.2.2.1 w) (by omega)
  have ca := c_change' (M := M) k2 k3 k4 k5 j2 (fun w => by have := (hg w).1.1.1; omega) (by omega)
  exact ⟨_, by unfold f_97; rw [k1, Option.bind_some, j1, Option.bind_some, bnd_def], KA_of h (by omega) ca hg⟩
theorem k_stop (h : KX T M A P n o S sv) : ∃ r, f_98 M = some r ∧ KA T (T + 6100) (whyStop A) (aStop A 0 0) A (aStop A) P n o S sv r := by
  obtain ⟨M1, k1, k2, k3, k4, k5⟩ := c_23 h.1 h.2.2.1 h.2.1
  have j2 := c_75 (M := M1) (b := 2) k2 h.2.2.1
  have hw : whyStop A = -2 ∨ (whyStop A = 0 ∧ A 0 0 ≠ 0 ∧ A 0 0 ≠ 4) := by
    unfold whyStop
    by_cases q : A 0 0 = 0 ∨ A 0 0 = 4
    · rw [if_pos q]; exact Or.inl rfl
    · rw [if_neg q]; exact Or.inr ⟨rfl, fun x => q (Or.inl x), fun x => q (Or.inr x)⟩
  have hg : whyStop A = 0 → WX (T + 6100) (aStop A) := fun w => WX_mono (W_stop h.2.2.1 (by rcases hw with q | q <;> omega)) (by omega)
  have ca := c_change' (M := M) k2 k3 k4 k5 j2 (fun w => by have := (hg w).1.1.1; omega) (by omega)
  exact ⟨_, by unfold f_98; rw [k1, Option.bind_some, bnd_def, bnd_def], KA_of h (by omega) ca hg⟩
theorem k_empty (h : KX T M A P n o S sv) : ∃ r, f_99 M = some r ∧ KA T (T + 6100) (whyEmpty A) (A 0 7) A (aEmpty A) P n o S sv r := by
  obtain ⟨M1, k1, k2, k3, k4, k5⟩ := c_23 h.1 h.2.2.1 h.2.1
  have j2 := c_76 (M := M1) (b := 2) k2 h.2.2.1
  have h7 := h.2.2.1.1.1.2.2.2.2.2.1
  have hw : whyEmpty A = -2 ∨ whyEmpty A = 0 := by unfold whyEmpty; split <;> decide
  have ca := c_change' (M := M) k2 k3 k4 k5 j2 (fun w => by omega) (by omega)
  exact ⟨_, by unfold f_99; rw [k1, Option.bind_some, bnd_def, bnd_def], KA_of h (by omega) ca (fun w => WX_mono (W_empty h.2.2.1) (by omega))⟩
theorem k_hit (h : KX T M A P n o S sv) {k f : Int} (hk : -2147483648 ≤ k ∧ k < 2147483648) (hf : -2147483648 ≤ f ∧ f < 2147483648) : ∃ r, f_100 M k f = some r ∧ KA T (T + 6100) (whyHit A k f) (aHitV A k f) A (aHit A k f) P n o S sv r := by
  obtain ⟨M1, k1, k2, k3, k4, k5⟩ := c_23 h.1 h.2.2.1 h.2.1
  obtain ⟨r, j1, j2⟩ := c_77 (M := M1) (b := 2) (by decide +kernel) k2 h.2.2.1 hk hf
  have hw : -2 ≤ whyHit A k f := by unfold whyHit; split; split <;> decide; decide
  have ca := c_change' (M := M) k2 k3 k4 k5 j2 (fun w => by have := aHitV_b h.2.2.1 w; omega) (by omega)
  exact ⟨_, by unfold f_100; rw [k1, Option.bind_some, j1, Option.bind_some, bnd_def], KA_of h (by omega) ca (fun w => WX_mono (W_hit h.2.2.1 (whyHit_0 w).2 (by have := (whyHit_0 w).1; omega) (by have := (whyHit_0 w).1; omega)) (by omega))⟩
theorem k_pass (h : KX T M A P n o S sv) {t : Int} (ht : -2147483648 ≤ t ∧ t < 2147483648) : ∃ r, f_101 M t = some r ∧ KA T (T + 6100) (whyPass t) (aPass t.toNat A).1 A (aPass t.toNat A).2 P n o S sv r := by
  obtain ⟨M1, k1, k2, k3, k4, k5⟩ := c_23 h.1 h.2.2.1 h.2.1
  obtain ⟨r, j1, j2⟩ := c_79 (M := M1) (b := 2) (by decide +kernel) k2 h.2.2.1 ht
  have hw : whyPass t = 0 ∧ (1 ≤ t ∧ t ≤ 99) ∨ whyPass t = -1 := by
    unfold whyPass
    by_cases q : 1 ≤ t ∧ t ≤ 99
    · rw [if_pos q]; exact Or.inl ⟨rfl, q⟩
    · rw [if_neg q]; exact Or.inr rfl
  have hg : whyPass t = 0 → WX (T + 6100) (aPass t.toNat A).2 := fun w => WX_mono (W_pass h.2.2.1 t.toNat) (by omega)
  have ca := c_change' (M := M) k2 k3 k4 k5 j2 (fun w => by have := pass_b (A := A) t.toNat; omega) (by omega)
  exact ⟨_, by unfold f_101; rw [k1, Option.bind_some, j1, Option.bind_some, bnd_def], KA_of h (by omega) ca hg⟩
theorem k_peel (h : KX T M A P n o S sv) : ∃ r, f_102 M = some r ∧ KA T (T + 6100) (whyPeel A) (A 0 7 - 1) A (aPeel A) P n o S sv r := by
  obtain ⟨M1, k1, k2, k3, k4, k5⟩ := c_23 h.1 h.2.2.1 h.2.1
  obtain ⟨r, j1, j2⟩ := c_83 (M := M1) (b := 2) (by decide +kernel) k2 h.2.2.1
  have h7 := h.2.2.1.1.1.2.2.2.2.2.1
  have hw : whyPeel A = -2 ∨ whyPeel A = 0 := by unfold whyPeel; split <;> decide
  have ca := c_change' (M := M) k2 k3 k4 k5 j2 (fun w => by have := whyPeel_0 w; omega) (by omega)
  exact ⟨_, by unfold f_102; rw [k1, Option.bind_some, j1, Option.bind_some, bnd_def], KA_of h (by omega) ca (fun w => WX_mono (W_peel h.2.2.1 (whyPeel_0 w)) (by omega))⟩
theorem k_back (h : KX T M A P n o S sv) : ∃ r, f_103 M = some r ∧ KA T (T + 6100) (whyBack A) (A 0 7 + 1) A (aBack A) P n o S sv r := by
  obtain ⟨M1, k1, k2, k3, k4, k5⟩ := c_23 h.1 h.2.2.1 h.2.1
  have j2 := c_84 (M := M1) (b := 2) k2 h.2.2.1
  have h7 := h.2.2.1.1.1.2.2.2.2.2.1
  have hw : whyBack A = -2 ∨ whyBack A = 0 := by unfold whyBack; split <;> decide
  have ca := c_change' (M := M) k2 k3 k4 k5 j2 (fun w => by omega) (by omega)
  exact ⟨_, by unfold f_103; rw [k1, Option.bind_some, bnd_def, bnd_def], KA_of h (by omega) ca (fun w => WX_mono (W_back h.2.2.1 (whyBack_0 w)) (by omega))⟩
theorem k_mute (h : KX T M A P n o S sv) {l : Int} (hl : -2147483648 ≤ l ∧ l < 2147483648) : ∃ r, f_104 M l = some r ∧ KA T (T + 6100) (whyMute A l) (1 - A 0 (20 + l.toNat)) A (aMute A l.toNat) P n o S sv r := by
  obtain ⟨M1, k1, k2, k3, k4, k5⟩ := c_23 h.1 h.2.2.1 h.2.1
  obtain ⟨r, j1, j2⟩ := c_85 (M := M1) (b := 2) (by decide +kernel) k2 h.2.2.1 hl
  have h7 := h.2.2.1.1.1.2.2.2.2.2.1
  have hw : whyMute A l = 0 ∧ (0 ≤ l ∧ l < A 0 7) ∨ whyMute A l = -1 := by
    unfold whyMute
    by_cases q : 0 ≤ l ∧ l < A 0 7
    · rw [if_pos q]; exact Or.inl ⟨rfl, q⟩
    · rw [if_neg q]; exact Or.inr rfl
  have ca := c_change' (M := M) k2 k3 k4 k5 j2 (fun w => by have := (h.2.2.1.1.2.2.1 l.toNat (by omega) (by omega)).2.1; omega) (by omega)
  exact ⟨_, by unfold f_104; rw [k1, Option.bind_some, j1, Option.bind_some, bnd_def], KA_of h (by omega) ca (fun w => WX_mono (W_mute h.2.2.1 (l := l.toNat) (by omega)) (by omega))⟩
theorem k_speed (h : KX T M A P n o S sv) : ∃ r, f_105 M = some r ∧ KA T (T + 6100) 0 (1 - A 0 2) A (aSpeed A) P n o S sv r := by
  obtain ⟨M1, k1, k2, k3, k4, k5⟩ := c_23 h.1 h.2.2.1 h.2.1
  have j2 := c_86 (M := M1) (b := 2) k2 h.2.2.1
  have h2 := h.2.2.1.1.1.2.1
  have ca := c_change' (M := M) k2 k3 k4 k5 j2 (fun w => by omega) (by decide)
  exact ⟨_, by unfold f_105; rw [k1, Option.bind_some, bnd_def, bnd_def], KA_of h (by omega) ca (fun w => WX_mono (W_speed h.2.2.1) (by omega))⟩
theorem k_set {rom : xRom} (hrom : romOk rom) (h : KX T M A P n o S sv) {w v : Int} (hw : -2147483648 ≤ w ∧ w < 2147483648) (hv : -2147483648 ≤ v ∧ v < 2147483648) : ∃ r, f_106 rom M w v = some r ∧ KA T (T + 6100) (whySet w v) (A 0 (3 + w.toNat)) A (aSet A w.toNat v) P n o S sv r := by
  obtain ⟨M1, k1, k2, k3, k4, k5⟩ := c_23 h.1 h.2.2.1 h.2.1
  obtain ⟨r, j1, j2⟩ := c_87 (M := M1) (b := 2) hrom k2 hw hv
  have hc : whySet w v = 0 ∧ ((w = 0 ∧ 2 ≤ v ∧ v ≤ 16) ∨ (w = 1 ∧ 0 ≤ v ∧ v ≤ 8) ∨ (w = 2 ∧ 0 ≤ v ∧ v ≤ 100)) ∨ whySet w v = -1 := by
    unfold whySet
    split
    · exact Or.inl ⟨rfl, by assumption⟩
    · exact Or.inr rfl
  have hs := h.2.2.1.1.1
  have ca := c_change' (M := M) k2 k3 k4 k5 j2 (fun q => by
    have hw3 : w = 0 ∨ w = 1 ∨ w = 2 := by omega
    rcases hw3 with e | e | e <;> subst e
    · have := hs.2.2.1
      show 0 ≤ A 0 3 ∧ A 0 3 < 2147483648
      omega
    · have := hs.2.2.2.1
      show 0 ≤ A 0 4 ∧ A 0 4 < 2147483648
      omega
    · have := hs.2.2.2.2.1
      show 0 ≤ A 0 5 ∧ A 0 5 < 2147483648
      omega) (by omega)
  exact ⟨_, by unfold f_106; rw [k1, Option.bind_some, j1, Option.bind_some, bnd_def], KA_of h (by omega) ca (fun q => WX_mono (W_set h.2.2.1 (w := w.toNat) (v := v) (by unfold setOk; omega)) (by omega))⟩
theorem k_undo0 (h : KX T M A P 0 o S sv) : f_127 M = some (-2, M) := by
  have g := h.2.1.1
  have e25 : f_25 M = (0, M) := by unfold f_25; rw [g.1, if_pos (show wr ((0 : Nat) : Int) = 0 from wr0)]
  unfold f_127; rw [bnd_def, e25, if_pos rfl]
theorem k_undo {m : Nat} (h : KX T M A P (m + 1) o S sv) : ∃ M', f_127 M = some ((m : Int), M') ∧ KX T M' (P m) P m o S sv := by
  obtain ⟨h1, h2, h5, h6⟩ := h
  obtain ⟨g1, g2, g3, g4, g5, g6, g7⟩ := h2
  have ho := g1.2.2.2
  have hn := g1.2.1
  obtain ⟨M2, hM2⟩ : ∃ M2, M2 = xset M 50 2 (m : Int) := ⟨_, rfl⟩
  have ne2 : ∀ r, r ≠ 50 → M2 r = M r := fun r a => by rw [hM2]; funext k; rw [xset_r a]
  have e50 : M2 50 1 = (o : Int) := by rw [hM2, xset_j (by decide)]; exact g1.2.2.1
  have e22 := c_22 (M := M2) (k := m) e50 ho (by omega)
  have e25 : f_25 M = (52 + 24 * ((o + m) % 5), M2) := by
    unfold f_25
    rw [g1.1, wri _ (by omega) (by omega), if_neg (by omega), bnd_def, show (((m + 1 : Nat) : Int) - 1) = (m : Int) by omega, ← hM2]
    have : M2 50 2 = (m : Int) := by rw [hM2, xset_eq]
    rw [this, e22]
  have hb := tg_state ((o + m) % 5) (by omega)
  have hP : RC M2 (52 + 24 * ((o + m) % 5)) (P m) := RC_frame (fun r r1 r2 => ne2 r (by omega)) (g2 m (by omega))
  obtain ⟨M3, k1, k2, k3⟩ := c_55 (b := 2) (o := 52 + 24 * ((o + m) % 5)) (by decide +kernel) hb (by omega) hP (h6.1 m (by omega)).1
  have e127 : f_127 M = some ((m : Int), M3) := by
    unfold f_127
    rw [bnd_def, e25]
    show (if 52 + 24 * ((o + m) % 5) = 0 then _ else gd (Tg (52 + 24 * ((o + m) % 5)) = 7) ((f_55 M2 2 (52 + 24 * ((o + m) % 5))).bind (fun k4 => some (f_21 k4, k4)))) = _
    rw [if_neg (by omega), gd_pos hb, k1]
    show some (M3 50 2, M3) = _
    rw [k3 50 (by decide), hM2, xset_eq]
  have ne3 : ∀ r, 26 ≤ r → r ≠ 50 → M3 r = M r := fun r a b => by rw [k3 r (by omega), ne2 r b]
  refine ⟨M3, e127, k2, ⟨?_, fun i hi => ?_, ?_, fun w => ?_, ?_, ?_, fun w => ?_⟩, h6.1 m (by omega), fun i hi => h6.1 i (by omega), h6.2⟩
  · rw [k3 50 (by decide), hM2, xset_eq, xset_j (by decide)]; exact ⟨rfl, by omega, g1.2.2.1, ho⟩
  · exact RC_frame (fun r r1 r2 => ne3 r (by omega) (by omega)) (g2 i (by omega))
  · rw [k3 1 (by decide), ne2 1 (by decide)]; exact g3
  · exact RC_frame (fun r r1 r2 => ne3 r (by omega) (by omega)) (g4 w)
  · rw [ne3 172 (by decide) (by decide), ne3 173 (by decide) (by decide)]; exact g5
  · rw [ne3 176 (by decide) (by decide)]; exact g6
  · rw [ne3 176 (by decide) (by decide)]; exact g7 w
theorem k_save (h : KX T M A P n o S sv) : ∃ M', f_128 M = some (A 0 0, M') ∧ KX T M' A P n o A 1 := by
  obtain ⟨h1, h2, h5, h6⟩ := h
  obtain ⟨g1, g2, g3, g4, g5, g6, g7⟩ := h2
  have ho := g1.2.2.2
  have hn := g1.2.1
  obtain ⟨M1, k1, k2, k3⟩ := c_55 (b := 26) (o := 2) (by decide +kernel) (by decide +kernel) (by decide) h1 h5.1
  obtain ⟨M2, hM2⟩ : ∃ M2, M2 = xset M1 1 8 1 := ⟨_, rfl⟩
  have ne2 : ∀ r, r ≠ 1 → M2 r = M1 r := fun r a => by rw [hM2]; funext k; rw [xset_r a]
  have em : M2 2 4 = A 0 0 := by rw [ne2 2 (by decide), k3 2 (by decide)]; exact h1.1.2.1
  have ef : f_128 M = some (A 0 0, M2) := by
    unfold f_128
    rw [k1, Option.bind_some, bnd_def, ← hM2, em]
  obtain ⟨o1, o2, o3, o4, o5, o6⟩ := h6
  refine ⟨M2, ef, RC_frame (fun r a b => by rw [ne2 r (by omega), k3 r (by omega)]) h1, ⟨?_, fun i hi => ?_, ?_, fun w => ?_, ?_, ?_, fun w => ?_⟩, h5, o1, fun _ => h5, Or.inr rfl, o4, o5, o6⟩
  · rw [ne2 50 (by decide), k3 50 (by decide)]; exact g1
  · exact RC_frame (fun r r1 r2 => by rw [ne2 r (by omega), k3 r (by omega)]) (g2 i hi)
  · rw [hM2, xset_eq]
  · exact RC_frame (fun r r1 r2 => by rw [ne2 r (by omega)]) k2
  · rw [ne2 172 (by decide), k3 172 (by decide), ne2 173 (by decide), k3 173 (by decide)]; exact g5
  · rw [ne2 176 (by decide), k3 176 (by decide)]; exact g6
  · rw [ne2 176 (by decide), k3 176 (by decide)]; exact g7 w
theorem k_restore0 (h : KX T M A P n o S 0) : f_129 M = some (-2, M) := by
  unfold f_129; rw [h.2.1.2.2.1, if_pos wr0]
theorem k_restore (h : KX T M A P n o S 1) : ∃ r, f_129 M = some r ∧ KA T T 0 (S 0 0) A S P n o S 1 r := by
  have hS := h.2.2.2.2.1 rfl
  have g3 := h.2.1.2.2.1
  obtain ⟨M1, k1, k2, k3, k4, k5⟩ := c_23 h.1 h.2.2.1 h.2.1
  obtain ⟨M2, j1, j2, j3⟩ := c_55 (b := 2) (o := 26) (by decide +kernel) (by decide +kernel) (by decide) (k3.2.2.2.1 rfl) hS.1
  have em : M2 2 4 = S 0 0 := j2.1.2.1
  have an : AN M1 2 0 (S 0 0) S (S 0 0, M2) := Or.inr ⟨rfl, rfl, j2, j3⟩
  have hS0 := hS.1.1.1
  have ca := c_change' (M := M) (A := A) (A' := S) k2 k3 k4 k5 an (fun _ => by omega) (by decide)
  refine ⟨f_130 M2 (S 0 0), ?_, KA_of h (Int.le_refl _) ca (fun _ => hS)⟩
  unfold f_129
  rw [g3, if_neg (by decide +kernel), k1, Option.bind_some, j1, Option.bind_some, bnd_def, em]
end KC
