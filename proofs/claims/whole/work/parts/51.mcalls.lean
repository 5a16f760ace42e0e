/-! MEANING, 22: the reference's changes -/
section MC
variable {M A : xM} {T : Int}
theorem m_156 (hX : WX T A) : f_156 (mS M A) = some (whyPress A) := by
  have hW := hX.1
  have h0 := hW.1.1
  have h7 := hW.1.2.2.2.2.2.1
  have h11 := hW.1.2.2.2.2.2.2.2.2.2.1
  have e20 : f_156_L20 (mS M A) = some (if A 0 0 = 2 ∧ A 0 7 = 6 then -3 else 0) := by
    unfold f_156_L20 f_156_L21
    rw [if_pos wr0, m_0, Option.bind_some, wri (A 0 0) (by omega) (by omega)]
    by_cases q : A 0 0 = 2
    · rw [if_pos q, m_7, Option.bind_some, wri (A 0 7) (by omega) (by omega)]
      by_cases w : A 0 7 = 6
      · rw [if_pos w, if_pos ⟨q, w⟩]
      · rw [if_neg w, if_neg (fun x => w x.2)]
    · rw [if_neg q, if_neg (fun x => q x.1)]
  unfold f_156
  rw [m_148 hW.1, Option.bind_some]
  have hq : wr (if tkr A then 1 else 0) = 0 ↔ ¬ tkr A := iff_of_eq wr01
  by_cases q : tkr A
  · rw [if_neg (fun w => hq.mp w q), m_11, Option.bind_some, wri (A 0 11) (by omega) (by omega)]
    by_cases w : A 0 11 = 0
    · rw [if_pos w]
      unfold f_156_L21 whyPress
      rw [if_neg (by decide +kernel), if_pos ⟨q, w⟩]
    · rw [if_neg w, e20]
      unfold whyPress
      rw [if_neg (show ¬ (tkr A ∧ A 0 11 = 0) from fun x => w x.2)]
  · rw [if_pos (hq.mpr q), e20]
    unfold whyPress
    rw [if_neg (show ¬ (tkr A ∧ A 0 11 = 0) from fun x => q x.1)]
theorem m_157 (hX : WX T A) (hw : whyPress A = 0) : f_157 (mS M A) = some (mS M (aPress A)) := by
  have hW := hX.1
  have h0 := hW.1.1
  have h7 := hW.1.2.2.2.2.2.1
  have h11 := hW.1.2.2.2.2.2.2.2.2.2.1
  have hz : tkr A → 1 ≤ A 0 11 := fun q => by
    unfold whyPress at hw
    rcases Int.lt_or_le 0 (A 0 11) with w | w
    · omega
    · rw [if_pos ⟨q, by omega⟩] at hw; omega
  unfold f_157 aPress
  rw [m_0, Option.bind_some, wri (A 0 0) (by omega) (by omega)]
  by_cases q1 : A 0 0 = 1
  · have hm := hW.2.1.1 (by omega)
    rw [if_pos q1, if_pos q1, m_154 hW.1 hW.2.2.2.1 (by omega) (hz (Or.inl q1))]
    rfl
  · rw [if_neg q1, if_neg q1]
    by_cases q2 : A 0 0 = 2
    · rw [if_pos q2, m_150 hW.1, if_neg (by omega), if_neg (by omega)]; rfl
    · rw [if_neg q2]
      by_cases q3 : A 0 0 = 3
      · rw [if_pos q3, if_pos q3, m_155 hW q3 (hW.2.1.2.2.2.2.1 q3)]; rfl
      · rw [if_neg q3, if_neg q3]
        by_cases q4 : A 0 0 = 4
        · rw [if_pos q4, if_pos q4, bnd_def, m_149]
        · rw [if_neg q4, if_neg q4, m_150 hW.1]; rfl
theorem m_158 (hX : WX T A) : f_158 (mS M A) = some (whyStop A) := by
  have h0 := hX.1.1.1
  unfold f_158 whyStop
  rw [m_0, Option.bind_some, wri (A 0 0) (by omega) (by omega)]
  by_cases q0 : A 0 0 = 0
  · rw [if_pos q0, if_pos (Or.inl q0)]
  · rw [if_neg q0, Option.bind_some, wri (A 0 0) (by omega) (by omega)]
    by_cases q4 : A 0 0 = 4
    · rw [if_pos q4, if_pos (Or.inr q4)]
    · rw [if_neg q4, if_neg (by omega)]
theorem m_159 (hX : WX T A) : f_159 (mS M A) = some (mS M (aStop A)) := by
  have h0 := hX.1.1.1
  unfold f_159 aStop
  rw [m_0, Option.bind_some, wri (A 0 0) (by omega) (by omega)]
  by_cases q1 : A 0 0 = 1
  · rw [if_pos q1, if_pos q1, bnd_def, mS_set (by decide), m_151]; rfl
  · rw [if_neg q1, if_neg q1, bnd_def, mS_set (by decide), m_151]; rfl
theorem m_163 (hX : WX T A) {k f : Int} (hk : -2147483648 ≤ k ∧ k < 2147483648) (hf : -2147483648 ≤ f ∧ f < 2147483648) : f_163 (mS M A) k f = some (whyHit A k f) := by
  have e24 : f_163_L24 (mS M A) = some (-1) := by unfold f_163_L24 f_163_L25; rw [if_pos wr0]
  have hq : wr (if tkr A then 1 else 0) = 0 ↔ ¬ tkr A := iff_of_eq wr01
  unfold f_163 whyHit
  simp only [m_138w]
  rw [wri k hk.1 hk.2, wri f hf.1 hf.2, wri 0 (by decide) (by decide), wri 23 (by decide) (by decide), wri 1 (by decide) (by decide), wri 99 (by decide) (by decide)]
  by_cases q1 : 0 ≤ k ∧ k ≤ 23
  · rw [if_neg (fun w => w q1)]
    by_cases q2 : 1 ≤ f ∧ f ≤ 99
    · rw [if_neg (fun w => w q2), if_pos (by omega)]
      unfold f_163_L25
      rw [if_neg (by decide +kernel), m_148 hX.1.1, Option.bind_some]
      by_cases q3 : tkr A
      · rw [if_neg (fun w => hq.mp w q3), if_pos q3]
      · rw [if_pos (hq.mpr q3), if_neg q3]
    · rw [if_pos q2, e24, if_neg (by omega)]
  · rw [if_pos q1, e24, if_neg (by omega)]
theorem m_12 : f_139 (mS M A) 12 = some (A 0 12) := m_139 (k := 12) (by decide)
theorem m_2 : f_139 (mS M A) 2 = some (A 0 2) := m_139 (k := 2) (by decide)
theorem m_164 (hX : WX T A) (ht : tkr A) {k f : Int} (hk : 0 ≤ k ∧ k ≤ 23) (hf : 1 ≤ f ∧ f ≤ 99) : f_164 (mS M A) k f = some (aHitV A k f, mS M (aHit A k f)) := by
  have hW := hX.1
  have h0 := hW.1.1
  have h2 := hW.1.2.1
  have h11 := hW.1.2.2.2.2.2.2.2.2.2.1
  have h12 := hW.1.2.2.2.2.2.2.2.2.2.2.1
  have hc := hitCell_b hX ht
  have hat := hitAt_b hX ht hk
  have hv : 0 ≤ A 7 (hitAt A k) ∧ A 7 (hitAt A k) ≤ 99 := hW.2.2.2.1 6 _ (by decide) hat.1
  have key : ∀ s0 : Int, s0 = hitCell A → f_164_L44 (mS M A) k f s0 = some (aHitV A k f, mS M (aHit A k f)) := by
    intro s0 hs0
    have ekk : k + 12 * A 0 2 = ((k + 12 * A 0 2).toNat : Int) := by omega
    have ecc : s0 = ((hitCell A).toNat : Int) := by omega
    have e1 := m_141 (M := M) hW.2.2.2.1 (l := 6) (c := (hitCell A).toNat) (k := (k + 12 * A 0 2).toNat) (by decide) (by omega) (by omega)
    rw [show ((6 : Nat) : Int) = 6 from rfl, ← ekk, ← ecc, show 36 * (hitCell A).toNat + (k + 12 * A 0 2).toNat = hitAt A k from rfl] at e1
    have ev : f_144 (A 7 (hitAt A k)) f = aHitV A k f := by rw [m_144 (by omega) (by omega)]; rfl
    have hb := both_b hv (show 0 ≤ f ∧ f ≤ 99 by omega)
    have e2 := m_142 (M := M) hW.2.2.2.1 (l := 6) (c := (hitCell A).toNat) (k := (k + 12 * A 0 2).toNat) (by decide) (by omega) (by omega) (v := aHitV A k f) hb
    rw [show ((6 : Nat) : Int) = 6 from rfl, ← ekk, ← ecc, show 36 * (hitCell A).toNat + (k + 12 * A 0 2).toNat = hitAt A k from rfl] at e2
    unfold f_164_L44
    rw [m_2, Option.bind_some, e1, Option.bind_some, ev, e2]
    rfl
  unfold f_164
  rw [m_0, Option.bind_some, wri (A 0 0) (by omega) (by omega)]
  rcases ht with q | q
  · rw [if_pos q, m_11, Option.bind_some, wri (A 0 11) (by omega) (by omega), Int.tdiv_eq_ediv_of_nonneg (by omega)]
    exact key _ (by unfold hitCell; rw [if_pos q])
  · have hb1 := (hW.2.1.2.1 (by omega)).1
    have h6 := hW.2.1.2.2.1 hb1
    rw [if_neg (by omega), m_12, Option.bind_some, m_11, Option.bind_some, m_6, Option.bind_some, wri (2 * A 0 6) (by omega) (by omega), gd_pos (by omega), wri (A 0 12 + A 0 11) (by omega) (by omega), Int.tdiv_eq_ediv_of_nonneg (by omega), wri ((A 0 12 + A 0 11) / 2) (by omega) (by omega), Int.tmod_eq_emod_of_nonneg (by omega)]
    exact key _ (by unfold hitCell; rw [if_neg (by omega)])
theorem m_165 (hX : WX T A) : f_165 (mS M A) = some (whyPeel A) := by
  have h7 := hX.1.1.2.2.2.2.2.1
  have hq : wr (if tkr A then 1 else 0) = 0 ↔ ¬ tkr A := iff_of_eq wr01
  unfold f_165 whyPeel
  rw [m_148 hX.1.1, Option.bind_some]
  by_cases q : tkr A
  · rw [if_neg (fun w => hq.mp w q), if_pos (Or.inl q)]
  · rw [if_pos (hq.mpr q), m_7, Option.bind_some, wri (A 0 7) (by omega) (by omega)]
    by_cases w : 2 ≤ A 0 7
    · rw [if_pos w, if_neg (fun x => by rcases x with x | x; exact q x; omega)]
    · rw [if_neg w, if_pos (Or.inr (by omega))]
theorem m_166 (hX : WX T A) (h : ¬ tkr A ∧ 2 ≤ A 0 7) : f_166 (mS M A) = some (mS M (aPeel A)) := by
  have hW := hX.1
  have h7 := hW.1.2.2.2.2.2.1
  have s1 := hW.1.2.2.2.2.2.2.2.2.2.2.2
  have hm2 : 2 ≤ A 0 0 := by
    rcases Int.lt_or_le (A 0 0) 2 with w | w
    · have := hW.2.1.1 (by omega); omega
    · exact w
  have hm := hW.2.1.2.1 hm2
  have hle : 1 ≤ aLen A ((A 0 7).toNat - 1) ∧ aLen A ((A 0 7).toNat - 1) ≤ 48 := by
    have a := aLen_b hW (n := (A 0 7).toNat - 1) (by omega)
    have b := aLen_two hW hm.1 (n := (A 0 7).toNat - 1) (by omega) (by omega)
    have c := hW.2.1.2.2.1 hm.1
    omega
  have hl0 := aLen_b hW (n := (A 0 7).toNat) (by omega)
  obtain ⟨B, hB⟩ : ∃ B, B = xset (xset A 0 7 (A 0 7 - 1)) 0 8 (A 0 8 + 1) := ⟨_, rfl⟩
  have b7 : B 0 7 = A 0 7 - 1 := by rw [hB, xset_j (by decide), xset_eq]
  have bk : ∀ k, k ≠ 7 → k ≠ 8 → B 0 k = A 0 k := fun k a c => by rw [hB, xset_j c, xset_j a]
  have bl : aLen B (B 0 7).toNat = aLen A ((A 0 7).toNat - 1) := by
    rw [b7, show (A 0 7 - 1).toNat = (A 0 7).toNat - 1 by omega]
    exact aLen_c (fun i hi => bk _ (by omega) (by omega))
  have e2 : f_147 (mS M B) = some (aLen A ((A 0 7).toNat - 1)) := by
    have := m_147g (M := M) (A := B) (by rw [b7]; omega) (fun i hi => by
      rw [b7] at hi
      rw [bk _ (by omega) (by omega)]
      have := WF_len hW (i := i) (by omega) (by omega) hm.1
      omega)
    rw [this, bl]
  unfold f_166 aPeel
  rw [m_147 hW, Option.bind_some, mS_sc (by decide), mS_set (by decide), bnd_def, mS_sc (by decide), xset_j (by decide), mS_set (by decide), bnd_def, ← hB, e2, Option.bind_some, wri (aLen A (A 0 7).toNat) (by omega) (by omega), wri (aLen A ((A 0 7).toNat - 1)) (by omega) (by omega)]
  by_cases q : aLen A ((A 0 7).toNat - 1) < aLen A (A 0 7).toNat
  · rw [if_neg (by omega), if_pos q, Option.bind_some, wri (2 * aLen A ((A 0 7).toNat - 1)) (by omega) (by omega), wli (2 * aLen A ((A 0 7).toNat - 1)) (by omega) (by omega), gd_pos (by omega), bnd_def, mS_sc (by decide), bk 1 (by decide) (by decide), wli (A 0 1) (by omega) (by omega), mS_set (by decide), Int.tmod_eq_emod_of_nonneg (by omega)]
  · rw [if_pos (by omega), if_neg q]
theorem m_167 (hX : WX T A) : f_167 (mS M A) = some (whyBack A) := by
  have h7 := hX.1.1.2.2.2.2.2.1
  have hq : wr (if tkr A then 1 else 0) = 0 ↔ ¬ tkr A := iff_of_eq wr01
  have e8 : f_139 (mS M A) 8 = some (A 0 8) := m_139 (k := 8) (by decide)
  unfold f_167 whyBack
  rw [m_148 hX.1.1, Option.bind_some]
  by_cases q : tkr A
  · rw [if_neg (fun w => hq.mp w q), if_pos (Or.inl q)]
  · rw [if_pos (hq.mpr q), e8, Option.bind_some, wri (A 0 8) (by omega) (by omega)]
    by_cases w : A 0 8 = 0
    · rw [if_pos w, if_pos (Or.inr w)]
    · rw [if_neg w, if_neg (fun x => by rcases x with x | x; exact q x; exact w x)]
theorem m_168 : f_168 (mS M A) = mS M (aBack A) := by
  unfold f_168 aBack
  rw [bnd_def, bnd_def, mS_sc (by decide), mS_set (by decide), mS_sc (by decide), xset_j (by decide), mS_set (by decide)]
variable {P : Nat → xM} {n : Nat} {S : xM} {sv : Int} {pd : Nat → Int} {len : Nat} {st : Nat → Int} {stp : Int}
/-- refused -/
theorem MAns_no {why good : Int} {A' : xM} (hA : inS M A 183 0) (h : MWr M P n S sv pd len st stp) (w : why < 0) : MAns M why good A A' P n S sv pd len st stp (why, M) :=
  ⟨fun _ _ => rfl, Or.inl ⟨w, rfl, hA, h⟩⟩
/-- remembered, then done -/
theorem MAns_do {M1 : xM} {good : Int} {A' : xM} (hfr : ∀ r, (r < 182 ∨ r = 183) → M1 r = M r) (h : MWr M1 (pushP P n A) (pushN n) S sv pd len st stp) : MAns M 0 good A A' P n S sv pd len st stp (good, mS M1 A') := by
  obtain ⟨k1, k2, k3⟩ := m_change (A := A) (A' := A') h
  exact ⟨fun k hk => by show mS M1 A' k = M k; rw [k3 k hk, hfr k (Or.inl hk)], Or.inr ⟨rfl, rfl, k1, k2⟩⟩
theorem why_ge {w : Int} (h : ¬ w < 0) (h2 : w ≤ 0) : w = 0 := by omega
theorem m_169 (hX : WX T A) (hn : n ≤ 4) (hA : inS M A 183 0) (h : MWr M P n S sv pd len st stp) : ∃ r, f_169 M = some r ∧ MAns M (whyPress A) (aPress A 0 0) A (aPress A) P n S sv pd len st stp r := by
  have hb : -3 ≤ whyPress A ∧ whyPress A ≤ 0 := by unfold whyPress; split; decide; split <;> decide
  unfold f_169
  rw [← inS_mS hA, m_156 hX, Option.bind_some, wri (whyPress A) (by omega) (by omega), inS_mS hA]
  by_cases q : 0 ≤ whyPress A
  · have e : whyPress A = 0 := by omega
    obtain ⟨M1, k1, k2, k3, k4⟩ := m_140 hn hA h
    rw [if_pos q, k1, Option.bind_some, ← inS_mS k2, m_157 hX e, Option.bind_some, m_0, e]
    exact ⟨_, rfl, MAns_do k4 k3⟩
  · rw [if_neg q]
    exact ⟨_, rfl, MAns_no hA h (by omega)⟩
theorem m_170 (hX : WX T A) (hn : n ≤ 4) (hA : inS M A 183 0) (h : MWr M P n S sv pd len st stp) : ∃ r, f_170 M = some r ∧ MAns M (whyStop A) (aStop A 0 0) A (aStop A) P n S sv pd len st stp r := by
  have hb : whyStop A = -2 ∨ whyStop A = 0 := by unfold whyStop; split <;> decide
  unfold f_170
  rw [← inS_mS hA, m_158 hX, Option.bind_some, wri (whyStop A) (by omega) (by omega), inS_mS hA]
  by_cases q : 0 ≤ whyStop A
  · have e : whyStop A = 0 := by omega
    obtain ⟨M1, k1, k2, k3, k4⟩ := m_140 hn hA h
    rw [if_pos q, k1, Option.bind_some, ← inS_mS k2, m_159 hX, Option.bind_some, m_0, e]
    exact ⟨_, rfl, MAns_do k4 k3⟩
  · have e : whyStop A = -2 := by omega
    rw [if_neg q, e]
    exact ⟨_, rfl, MAns_no hA h (by decide)⟩
theorem m_171 (hX : WX T A) (hn : n ≤ 4) (hA : inS M A 183 0) (h : MWr M P n S sv pd len st stp) : ∃ r, f_171 M = some r ∧ MAns M (whyEmpty A) (A 0 7) A (aEmpty A) P n S sv pd len st stp r := by
  have h0 := hX.1.1.1
  unfold f_171
  have e0 : f_139 M 0 = some (A 0 0) := by rw [← inS_mS hA]; exact m_0
  rw [e0, Option.bind_some, wri (A 0 0) (by omega) (by omega)]
  by_cases q : A 0 0 = 0
  · have e : whyEmpty A = -2 := by unfold whyEmpty; rw [if_pos q]
    rw [if_pos q, e]
    exact ⟨_, rfl, MAns_no hA h (by decide)⟩
  · have e : whyEmpty A = 0 := by unfold whyEmpty; rw [if_neg q]
    obtain ⟨M1, k1, k2, k3, k4⟩ := m_140 hn hA h
    rw [if_neg q, k1, Option.bind_some, ← inS_mS k2, m_7, Option.bind_some, bnd_def, m_149, m_151, Option.bind_some, bnd_def, mS_set (by decide), bnd_def, mS_set (by decide), bnd_def, mS_set (by decide), bnd_def, mS_set (by decide), e]
    exact ⟨_, rfl, MAns_do (A' := aEmpty A) k4 k3⟩
theorem m_172 (hX : WX T A) (hn : n ≤ 4) (hA : inS M A 183 0) (h : MWr M P n S sv pd len st stp) {k f : Int} (hk : -2147483648 ≤ k ∧ k < 2147483648) (hf : -2147483648 ≤ f ∧ f < 2147483648) : ∃ r, f_172 M k f = some r ∧ MAns M (whyHit A k f) (aHitV A k f) A (aHit A k f) P n S sv pd len st stp r := by
  have hb : whyHit A k f = 0 ∧ (0 ≤ k ∧ k ≤ 23 ∧ 1 ≤ f ∧ f ≤ 99) ∧ tkr A ∨ (-2 ≤ whyHit A k f ∧ whyHit A k f < 0) := by
    unfold whyHit
    by_cases q : 0 ≤ k ∧ k ≤ 23 ∧ 1 ≤ f ∧ f ≤ 99
    · rw [if_pos q]
      by_cases w : tkr A
      · rw [if_pos w]; exact Or.inl ⟨rfl, q, w⟩
      · rw [if_neg w]; exact Or.inr (by decide)
    · rw [if_neg q]; exact Or.inr (by decide)
  unfold f_172
  rw [← inS_mS hA, m_163 hX hk hf, Option.bind_some, inS_mS hA]
  rcases hb with ⟨e, q, w⟩ | q
  · obtain ⟨M1, k1, k2, k3, k4⟩ := m_140 hn hA h
    rw [e, if_pos (by decide +kernel), k1, Option.bind_some, ← inS_mS k2, m_164 hX w (by omega) (by omega), Option.bind_some]
    exact ⟨_, rfl, MAns_do k4 k3⟩
  · rw [wri (whyHit A k f) (by omega) (by omega), if_neg (by omega)]
    exact ⟨_, rfl, MAns_no hA h q.2⟩
theorem m_173 (hX : WX T A) (hn : n ≤ 4) (hA : inS M A 183 0) (h : MWr M P n S sv pd len st stp) {t : Int} (ht : -2147483648 ≤ t ∧ t < 2147483648) : ∃ r, f_173 M t = some r ∧ MAns M (whyPass t) (aPass t.toNat A).1 A (aPass t.toNat A).2 P n S sv pd len st stp r := by
  unfold f_173
  simp only [m_138w]
  rw [wri t ht.1 ht.2, wri 1 (by decide) (by decide), wri 99 (by decide) (by decide)]
  by_cases q : 1 ≤ t ∧ t ≤ 99
  · have e : whyPass t = 0 := by unfold whyPass; rw [if_pos q]
    obtain ⟨M1, k1, k2, k3, k4⟩ := m_140 hn hA h
    have e1 := m_162 (M := M1) hX t.toNat (by omega)
    rw [show ((t.toNat : Nat) : Int) = t by omega] at e1
    rw [if_neg (fun w => w q), k1, Option.bind_some, ← inS_mS k2, e1, Option.bind_some, e]
    exact ⟨_, rfl, MAns_do k4 k3⟩
  · have e : whyPass t = -1 := by unfold whyPass; rw [if_neg q]
    rw [if_pos q, e]
    exact ⟨_, rfl, MAns_no hA h (by decide)⟩
theorem m_174 (hX : WX T A) (hn : n ≤ 4) (hA : inS M A 183 0) (h : MWr M P n S sv pd len st stp) : ∃ r, f_174 M = some r ∧ MAns M (whyPeel A) (A 0 7 - 1) A (aPeel A) P n S sv pd len st stp r := by
  have hb : whyPeel A = -2 ∨ whyPeel A = 0 := by unfold whyPeel; split <;> decide
  unfold f_174
  rw [← inS_mS hA, m_165 hX, Option.bind_some, wri (whyPeel A) (by omega) (by omega), inS_mS hA]
  by_cases q : 0 ≤ whyPeel A
  · have e : whyPeel A = 0 := by omega
    have hc : ¬ tkr A ∧ 2 ≤ A 0 7 := by
      unfold whyPeel at e
      by_cases w : tkr A ∨ A 0 7 < 2
      · rw [if_pos w] at e; omega
      · exact ⟨fun x => w (Or.inl x), by omega⟩
    obtain ⟨M1, k1, k2, k3, k4⟩ := m_140 hn hA h
    have e7 : aPeel A 0 7 = A 0 7 - 1 := by
      unfold aPeel; split
      · rw [xset_j (by decide), xset_j (by decide), xset_eq]
      · rw [xset_j (by decide), xset_eq]
    rw [if_pos q, k1, Option.bind_some, ← inS_mS k2, m_166 hX hc, Option.bind_some, m_7, e7, e]
    exact ⟨_, rfl, MAns_do k4 k3⟩
  · have e : whyPeel A = -2 := by omega
    rw [if_neg q, e]
    exact ⟨_, rfl, MAns_no hA h (by decide)⟩
theorem m_175 (hX : WX T A) (hn : n ≤ 4) (hA : inS M A 183 0) (h : MWr M P n S sv pd len st stp) : ∃ r, f_175 M = some r ∧ MAns M (whyBack A) (A 0 7 + 1) A (aBack A) P n S sv pd len st stp r := by
  have hb : whyBack A = -2 ∨ whyBack A = 0 := by unfold whyBack; split <;> decide
  unfold f_175
  rw [← inS_mS hA, m_167 hX, Option.bind_some, wri (whyBack A) (by omega) (by omega), inS_mS hA]
  by_cases q : 0 ≤ whyBack A
  · have e : whyBack A = 0 := by omega
    obtain ⟨M1, k1, k2, k3, k4⟩ := m_140 hn hA h
    have e7 : aBack A 0 7 = A 0 7 + 1 := by unfold aBack; rw [xset_j (by decide), xset_eq]
    rw [if_pos q, k1, Option.bind_some, ← inS_mS k2, bnd_def, m_168, m_7, e7, e]
    exact ⟨_, rfl, MAns_do k4 k3⟩
  · have e : whyBack A = -2 := by omega
    rw [if_neg q, e]
    exact ⟨_, rfl, MAns_no hA h (by decide)⟩
theorem m_145 (hX : WX T A) (l : Int) : f_145 (mS M A) l = some (f_138 l 0 (A 0 7 - 1)) := by
  unfold f_145
  rw [m_7, Option.bind_some, gd_pos (m_138o _ _ _)]
theorem m_145q (hX : WX T A) {l : Int} (hl : -2147483648 ≤ l ∧ l < 2147483648) : wr (f_138 l 0 (A 0 7 - 1)) = 0 ↔ ¬ (0 ≤ l ∧ l < A 0 7) := by
  have h7 := hX.1.1.2.2.2.2.2.1
  rw [m_138w, wri l hl.1 hl.2, wr0, wri (A 0 7 - 1) (by omega) (by omega)]
  omega
theorem m_176 (hX : WX T A) (hn : n ≤ 4) (hA : inS M A 183 0) (h : MWr M P n S sv pd len st stp) {l : Int} (hl : -2147483648 ≤ l ∧ l < 2147483648) : ∃ r, f_176 M l = some r ∧ MAns M (whyMute A l) (1 - A 0 (20 + l.toNat)) A (aMute A l.toNat) P n S sv pd len st stp r := by
  have h7 := hX.1.1.2.2.2.2.2.1
  unfold f_176
  rw [← inS_mS hA, m_145 hX, Option.bind_some, inS_mS hA]
  by_cases q : 0 ≤ l ∧ l < A 0 7
  · have e : whyMute A l = 0 := by unfold whyMute; rw [if_pos q]
    obtain ⟨i, hi⟩ : ∃ i : Nat, l = (i : Int) := ⟨l.toNat, by omega⟩
    subst hi
    obtain ⟨M1, k1, k2, k3, k4⟩ := m_140 hn hA h
    have e1 : f_139 (mS M1 (xset A 0 (20 + i) (1 - A 0 (20 + i)))) (20 + (i : Int)) = some (1 - A 0 (20 + i)) := by
      have := m_139 (M := M1) (A := xset A 0 (20 + i) (1 - A 0 (20 + i))) (k := 20 + i) (by omega)
      rw [show ((20 + i : Nat) : Int) = 20 + (i : Int) by omega, xset_eq] at this
      exact this
    rw [if_neg (fun w => (m_145q hX hl).mp w q), k1, Option.bind_some, wri (20 + (i : Int)) (by omega) (by omega), gd_pos (by omega), gd_pos (by omega), show (20 + (i : Int)).toNat = 20 + i by omega, ← inS_mS k2, bnd_def, mS_sc (by omega), mS_set (by omega), e1, e, Int.toNat_natCast]
    exact ⟨_, rfl, MAns_do (A' := aMute A i) k4 k3⟩
  · have e : whyMute A l = -1 := by unfold whyMute; rw [if_neg q]
    rw [if_pos ((m_145q hX hl).mpr q), e]
    exact ⟨_, rfl, MAns_no hA h (by decide)⟩
theorem m_177 (hX : WX T A) (hn : n ≤ 4) (hA : inS M A 183 0) (h : MWr M P n S sv pd len st stp) : ∃ r, f_177 M = some r ∧ MAns M 0 (1 - A 0 2) A (aSpeed A) P n S sv pd len st stp r := by
  obtain ⟨M1, k1, k2, k3, k4⟩ := m_140 hn hA h
  unfold f_177
  rw [k1, Option.bind_some, ← inS_mS k2, bnd_def, mS_sc (by decide), mS_set (by decide), m_2, xset_eq]
  exact ⟨_, rfl, MAns_do (A' := aSpeed A) k4 k3⟩
theorem m_178 (hX : WX T A) (hn : n ≤ 4) (hA : inS M A 183 0) (h : MWr M P n S sv pd len st stp) {w v : Int} (hw : -2147483648 ≤ w ∧ w < 2147483648) (hv : -2147483648 ≤ v ∧ v < 2147483648) : ∃ r, f_178 M w v = some r ∧ MAns M (whySet w v) (A 0 (3 + w.toNat)) A (aSet A w.toNat v) P n S sv pd len st stp r := by
  have no : ¬ whySet w v = 0 → whySet w v = -1 := fun q => by
    unfold whySet at q ⊢
    split at q
    · exact absurd rfl q
    · rw [if_neg (by assumption)]
  have L49 : ∀ s0 : Int, (wr s0 = 0 ↔ ¬ whySet w v = 0) → ∃ r, f_178_L49 M w v s0 = some r ∧ MAns M (whySet w v) (A 0 (3 + w.toNat)) A (aSet A w.toNat v) P n S sv pd len st stp r := by
    intro s0 hs
    unfold f_178_L49
    by_cases q : whySet w v = 0
    · obtain ⟨M1, k1, k2, k3, k4⟩ := m_140 hn hA h
      have hw3 : 0 ≤ w ∧ w < 3 := by
        unfold whySet at q
        split at q
        · omega
        · omega
      obtain ⟨j, hj⟩ : ∃ j : Nat, w = (j : Int) := ⟨w.toNat, by omega⟩
      subst hj
      have e1 : f_139 (mS M1 A) (3 + (j : Int)) = some (A 0 (3 + j)) := by
        have := m_139 (M := M1) (A := A) (k := 3 + j) (by omega)
        rw [show ((3 + j : Nat) : Int) = 3 + (j : Int) by omega] at this
        exact this
      rw [if_neg (fun x => hs.mp x q), k1, Option.bind_some, ← inS_mS k2, e1, Option.bind_some, wri (3 + (j : Int)) (by omega) (by omega), gd_pos (by omega), show (3 + (j : Int)).toNat = 3 + j by omega, wri v hv.1 hv.2, bnd_def, mS_set (by omega), q, Int.toNat_natCast]
      exact ⟨_, rfl, MAns_do (A' := aSet A j v) k4 k3⟩
    · rw [if_pos (hs.mpr q), no q]
      exact ⟨_, rfl, MAns_no hA h (by decide)⟩
  have L48 : ¬ whySet w v = 0 → ∃ r, f_178_L48 M w v = some r ∧ MAns M (whySet w v) (A 0 (3 + w.toNat)) A (aSet A w.toNat v) P n S sv pd len st stp r := fun q => by
    unfold f_178_L48
    exact L49 0 ⟨fun _ => q, fun _ => wr0⟩
  have sp : ∀ a c : Int, -1000 ≤ a → a ≤ 1000 → -1000 ≤ c → c ≤ 1000 → (wr (f_138 v a c) = 0 ↔ ¬ (a ≤ v ∧ v ≤ c)) := fun a c h1 h2 h3 h4 => by
    rw [m_138w, wri v hv.1 hv.2, wri a (by omega) (by omega), wri c (by omega) (by omega)]
  have ws : whySet w v = 0 ↔ (w = 0 ∧ 2 ≤ v ∧ v ≤ 16) ∨ (w = 1 ∧ 0 ≤ v ∧ v ≤ 8) ∨ (w = 2 ∧ 0 ≤ v ∧ v ≤ 100) := by
    unfold whySet
    split
    · exact ⟨fun _ => by assumption, fun _ => rfl⟩
    · exact ⟨fun x => by omega, fun x => absurd x (by assumption)⟩
  unfold f_178
  rw [wri w hw.1 hw.2]
  by_cases q0 : w = 0
  · rw [if_pos q0]
    have e := sp 2 16 (by decide) (by decide) (by decide) (by decide)
    exact L49 _ (by rw [e, ws]; omega)
  · rw [if_neg q0]
    by_cases q1 : w = 1
    · rw [if_pos q1]
      have e := sp 0 8 (by decide) (by decide) (by decide) (by decide)
      exact L49 _ (by rw [e, ws]; omega)
    · rw [if_neg q1]
      by_cases q2 : w = 2
      · rw [if_pos q2]
        have e := sp 0 100 (by decide) (by decide) (by decide) (by decide)
        by_cases q : 0 ≤ v ∧ v ≤ 100
        · rw [if_neg (fun x => e.mp x q)]
          exact L49 1 ⟨fun x => absurd x (by decide +kernel), fun x => absurd (ws.mpr (by omega)) x⟩
        · rw [if_pos (e.mpr q)]
          exact L48 (fun x => by have := ws.mp x; omega)
      · rw [if_neg q2]
        exact L48 (fun x => by have := ws.mp x; omega)
end MC
