/-! MEANING, 32: faults of tunes -/
section TU
variable {M : xM} {pd : Nat → Int} {len : Nat}
theorem f94_is (c : Int) : f_94 c = if wr c = 49 ∨ wr c = 50 then 2 else if wr c = 51 then 3 else 1 := by
  unfold f_94
  generalize wr c = z
  repeat' split
  all_goals first
    | rfl
    | omega
theorem f93_0 (c : Int) : f_93 0 c = if ¬ (48 ≤ wr c ∧ wr c ≤ 57) then -1 else f_94 c := by
  unfold f_93; simp only [d53]; rw [wr0, if_pos rfl]
theorem f93_1 (c : Int) : f_93 1 c = if wr c = 44 then 0 else -1 := by
  unfold f_93 f_93_L41; simp only [d53]; rw [w_small.1, if_neg (show ¬ (1 : Int) = 0 by decide), if_neg (show ¬ (1 : Int) = 2 by decide), if_neg (show ¬ (1 : Int) = 3 by decide)]
theorem f93_2 (c : Int) : f_93 2 c = if wr c = 44 then 0 else if ¬ (48 ≤ wr c ∧ wr c ≤ 57) then -1 else 1 := by
  unfold f_93 f_93_L41; simp only [d53]; rw [w_small.2.1, if_neg (show ¬ (2 : Int) = 0 by decide), if_pos (show (2 : Int) = 2 from rfl), if_neg (show ¬ (2 : Int) = 3 by decide)]
theorem f93_3 (c : Int) : f_93 3 c = if wr c = 44 then 0 else if ¬ (48 ≤ wr c ∧ wr c ≤ 57) then -1 else if 53 < wr c then -1 else 1 := by
  unfold f_93 f_93_L41; simp only [d53]; rw [w_small.2.2.1, if_neg (show ¬ (3 : Int) = 0 by decide), if_neg (show ¬ (3 : Int) = 2 by decide), if_pos (show (3 : Int) = 3 from rfl)]
theorem f94_b (c : Int) : 1 ≤ f_94 c ∧ f_94 c ≤ 3 := by
  rw [f94_is]
  repeat' split
  all_goals omega
def okT (s : Int) : Prop := 0 ≤ s ∧ s ≤ 3
theorem f93_b {s c : Int} (hs : okT s) : -1 ≤ f_93 s c ∧ f_93 s c ≤ 3 := by
  have hb := f94_b c
  have : s = 0 ∨ s = 1 ∨ s = 2 ∨ s = 3 := by unfold okT at hs; omega
  rcases this with h | h | h | h <;> subst h
  · rw [f93_0]; repeat' split
    all_goals omega
  · rw [f93_1]; repeat' split
    all_goals omega
  · rw [f93_2]; repeat' split
    all_goals omega
  · rw [f93_3]; repeat' split
    all_goals omega
/-- the run from a step on, k characters before the end -/
def runT (pd : Nat → Int) (len : Nat) : Nat → Int → Int
  | 0, s => if wr (f_95 s) = 0 then (len : Int) else -4
  | k + 1, s => if f_93 s (pd (len - (k + 1))) = -1 then ((len - (k + 1) : Nat) : Int) else runT pd len k (f_93 s (pd (len - (k + 1))))
def RT (pd : Nat → Int) (len : Nat) (s : Int) (p : Nat) : Int := runT pd len (len - p) s
theorem RT_end {s : Int} : RT pd len s len = if wr (f_95 s) = 0 then (len : Int) else -4 := by unfold RT; rw [Nat.sub_self]; rfl
theorem RT_step {s : Int} {p : Nat} (hp : p < len) : RT pd len s p = if f_93 s (pd p) = -1 then (p : Int) else RT pd len (f_93 s (pd p)) (p + 1) := by
  unfold RT
  obtain ⟨k, hk⟩ : ∃ k, len - p = k + 1 := ⟨len - p - 1, by omega⟩
  rw [hk, show len - (p + 1) = k by omega]
  show (if f_93 s (pd (len - (k + 1))) = -1 then ((len - (k + 1) : Nat) : Int) else runT pd len k (f_93 s (pd (len - (k + 1))))) = _
  rw [show len - (k + 1) = p by omega]
theorem c_51t (h : PC M pd len) : f_51_175 M = some (RT pd len 0 0) := by
  have key : ∀ (k : Nat), k ≤ len → ∀ (s : Int), okT s → ∀ f, k < f → loop f (fun s => f_51_175_L4b M s.1 s.2) (s, ((len - k : Nat) : Int)) = some (runT pd len k s) := by
    obtain ⟨h1, h2, h3, h4⟩ := h
    intro k
    induction k with
    | zero =>
      intro _ s hs f hf
      cases f with
      | zero => omega
      | succ f =>
        show (f_51_175_L4b M s ((len - 0 : Nat) : Int)).bind _ = _
        unfold f_51_175_L4b
        rw [h1, wri (len : Int) (by omega) (by omega), wri _ (by omega) (by omega), if_pos (by omega)]
        show _ = some (if wr (f_95 s) = 0 then (len : Int) else -4)
        by_cases q : wr (f_95 s) = 0
        · rw [if_pos q, if_pos q]; rfl
        · rw [if_neg q, if_neg q]; rfl
    | succ k ih =>
      intro hk s hs f hf
      cases f with
      | zero => omega
      | succ f =>
        have hb := f93_b (c := pd (len - (k + 1))) hs
        have hpd := h4 (len - (k + 1)) (by omega)
        have body : f_51_175_L4b M s ((len - (k + 1) : Nat) : Int) = if f_93 s (pd (len - (k + 1))) = -1 then some (Sum.inr ((len - (k + 1) : Nat) : Int)) else some (Sum.inl (f_93 s (pd (len - (k + 1))), ((len - (k + 1) : Nat) : Int) + 1)) := by
          unfold f_51_175_L4b
          rw [h1, wri (len : Int) (by omega) (by omega), wri _ (by omega) (by omega), if_neg (by omega), c_47 ⟨h1, h2, h3, h4⟩ (show len - (k + 1) < 1000 by omega), if_pos (by omega), Option.bind_some, wri (f_93 s (pd (len - (k + 1)))) (by omega) (by omega)]
        show _ = some (if f_93 s (pd (len - (k + 1))) = -1 then ((len - (k + 1) : Nat) : Int) else runT pd len k (f_93 s (pd (len - (k + 1)))))
        by_cases q : f_93 s (pd (len - (k + 1))) = -1
        · rw [if_pos q] at body
          rw [if_pos q]
          exact lpO body
        · rw [if_neg q] at body
          rw [if_neg q]
          have := ih (by omega) (f_93 s (pd (len - (k + 1)))) ⟨by omega, hb.2⟩ f (by omega)
          rw [show ((len - k : Nat) : Int) = ((len - (k + 1) : Nat) : Int) + 1 by omega] at this
          exact (lpI body).trans this
  have := key len (Nat.le_refl _) 0 ⟨by decide, by decide⟩ NF (by have := h.2.2.1; show len < 1000000; omega)
  rw [Nat.sub_self] at this
  unfold f_51_175 f_51_175_L4 RT
  rw [Nat.sub_zero]
  exact this
theorem f95s : wr (f_95 0) = 0 ∧ wr (f_95 1) = 1 ∧ wr (f_95 2) = 1 ∧ wr (f_95 3) = 1 := by decide +kernel
theorem RT_1 (h4 : ∀ j, j < len → 33 ≤ pd j ∧ pd j ≤ 126) {p : Nat} (hp : p ≤ len) : RT pd len 1 p = if p = len then -4 else if pd p = 44 then RT pd len 0 (p + 1) else (p : Int) := by
  by_cases a : p = len
  · subst a; rw [if_pos rfl, RT_end, f95s.2.1, if_neg (by decide)]
  · have q : p < len := by omega
    have b := h4 p q
    rw [if_neg a, RT_step (s := 1) q, f93_1, wri (pd p) (by omega) (by omega)]
    by_cases z : pd p = 44
    · rw [if_pos z, if_pos z, if_neg (by decide)]
    · rw [if_neg z, if_neg z, if_pos rfl]
theorem RT_2 (h4 : ∀ j, j < len → 33 ≤ pd j ∧ pd j ≤ 126) {p : Nat} (hp : p ≤ len) : RT pd len 2 p = if 0 ≤ dg pd len p then RT pd len 1 (p + 1) else RT pd len 1 p := by
  rcases dg_two h4 hp with ⟨a, b⟩ | ⟨a, b, c, d⟩ | ⟨a, b, c, d⟩
  · subst a; rw [b, if_neg (by decide), RT_end, RT_end, f95s.2.1, f95s.2.2.1]
  · rw [if_pos (show 0 ≤ dg pd len p by omega), RT_step (s := 2) a, f93_2, b, if_neg (show ¬ pd p = 44 by omega), if_neg (show ¬ ¬ (48 ≤ pd p ∧ pd p ≤ 57) by omega), if_neg (by decide)]
  · rw [if_neg (show ¬ 0 ≤ dg pd len p by omega), RT_step (s := 2) a, RT_step (s := 1) a, f93_2, f93_1, b, if_pos c]
theorem RT_3 (h4 : ∀ j, j < len → 33 ≤ pd j ∧ pd j ≤ 126) {p : Nat} (hp : p ≤ len) : RT pd len 3 p = if 0 ≤ dg pd len p ∧ dg pd len p ≤ 5 then RT pd len 1 (p + 1) else RT pd len 1 p := by
  rcases dg_two h4 hp with ⟨a, b⟩ | ⟨a, b, c, d⟩ | ⟨a, b, c, d⟩
  · subst a; rw [b, if_neg (by decide), RT_end, RT_end, f95s.2.1, f95s.2.2.2]
  · by_cases q : 53 < pd p
    · rw [if_neg (show ¬ (0 ≤ dg pd len p ∧ dg pd len p ≤ 5) by omega), RT_step (s := 3) a, RT_step (s := 1) a, f93_3, f93_1, b, if_neg (show ¬ ¬ (48 ≤ pd p ∧ pd p ≤ 57) by omega), if_pos q]
    · rw [if_pos (show 0 ≤ dg pd len p ∧ dg pd len p ≤ 5 by omega), RT_step (s := 3) a, f93_3, b, if_neg (show ¬ pd p = 44 by omega), if_neg (show ¬ ¬ (48 ≤ pd p ∧ pd p ≤ 57) by omega), if_neg q, if_neg (by decide)]
  · rw [if_neg (show ¬ (0 ≤ dg pd len p ∧ dg pd len p ≤ 5) by omega), RT_step (s := 3) a, RT_step (s := 1) a, f93_3, f93_1, b, if_pos c]
theorem RT_0 (h4 : ∀ j, j < len → 33 ≤ pd j ∧ pd j ≤ 126) {p : Nat} (hp : p ≤ len) : RT pd len 0 p = if nE pd len p 0 35 < 0 then (p : Int) else RT pd len 1 (nE pd len p 0 35).toNat := by
  rcases dg_two h4 hp with ⟨a, b⟩ | ⟨a, b, c, d⟩ | ⟨a, b, c, d⟩
  · rw [nE_0 (by omega), if_pos (by omega)]
    subst a; rw [RT_end, f95s.1, if_pos rfl]
  · have d1 := dg_b (pd := pd) (len := len) (j := p + 1)
    rw [RT_step (s := 0) a, f93_0, b, if_neg (show ¬ ¬ (48 ≤ pd p ∧ pd p ≤ 57) by omega), f94_is, b]
    by_cases q : pd p = 49 ∨ pd p = 50
    · rw [if_pos q, if_neg (by decide), RT_2 h4 (by omega)]
      by_cases q2 : 0 ≤ dg pd len (p + 1)
      · rw [if_pos q2, nE_2 (by omega) (by omega) (by omega), if_neg (by omega), show ((p : Int) + 2).toNat = p + 1 + 1 by omega]
      · rw [if_neg q2, nE_1 (by omega) (by omega), if_neg (by omega), show ((p : Int) + 1).toNat = p + 1 by omega]
    · by_cases q1 : pd p = 51
      · rw [if_neg q, if_pos q1, if_neg (by decide), RT_3 h4 (by omega)]
        by_cases q2 : 0 ≤ dg pd len (p + 1) ∧ dg pd len (p + 1) ≤ 5
        · rw [if_pos q2, nE_2 (by omega) (by omega) (by omega), if_neg (by omega), show ((p : Int) + 2).toNat = p + 1 + 1 by omega]
        · rw [if_neg q2, nE_1 (by omega) (by omega), if_neg (by omega), show ((p : Int) + 1).toNat = p + 1 by omega]
      · rw [if_neg q, if_neg q1, if_neg (by decide), nE_1 (by omega) (by omega), if_neg (by omega), show ((p : Int) + 1).toNat = p + 1 by omega]
  · rw [RT_step (s := 0) a, f93_0, b, if_pos c, if_pos rfl, nE_0 (by omega), if_pos (by omega)]
theorem m_187t (h : PM M pd len) : f_187 M 1 = some (RT pd len 0 0) := by
  have h4 := h.2.2.2
  have h3 := h.2.2.1
  have w1 : wr 1 = 1 := w_small.1
  have body : ∀ (p n : Nat), n ≤ p → p ≤ len → f_187_L4b M 1 (p : Int) (n : Int) = if nE pd len p 0 35 < 0 then some (Sum.inr (p : Int)) else if nE pd len p 0 35 = len then some (Sum.inr (-4)) else if pd (nE pd len p 0 35).toNat = 44 then some (Sum.inl (nE pd len p 0 35 + 1, (n : Int) + 1)) else some (Sum.inr (nE pd len p 0 35)) := by
    intro p n h1 h2
    have hb := nE_b (pd := pd) (len := len) (p := p) (l := 0) (m := 35)
    have hle := nE_le (pd := pd) (len := len) (p := p) (l := 0) (m := 35) h2 (by decide)
    unfold f_187_L4b
    rw [wri (n : Int) (by omega) (by omega), if_neg (by omega), w1, if_neg (by decide), m_183 h (show p < 900 by omega) (Or.inl rfl) (by decide), Option.bind_some]
    unfold f_187_L30
    generalize nE pd len p 0 35 = z at hb hle
    rw [wri z (by omega) (by omega), w1, h.1, wri (len : Int) (by omega) (by omega)]
    by_cases q : z < 0
    · rw [if_pos q, if_neg (show ¬ 0 ≤ z by omega)]
      congr 2; omega
    · rw [if_neg q, if_pos (show 0 ≤ z by omega)]
      by_cases q2 : z = len
      · rw [if_pos q2, if_pos q2]
      · have e := m_185 h (p := z.toNat) (by omega) (c := 44) (by decide)
        rw [show ((z.toNat : Nat) : Int) = z by omega] at e
        rw [if_neg q2, if_neg q2, if_neg (by decide), e, Option.bind_some]
        by_cases q3 : pd z.toNat = 44
        · rw [if_pos q3, if_pos (show z.toNat < len ∧ pd z.toNat = 44 from ⟨by omega, q3⟩), wri (z + 1) (by omega) (by omega), if_pos (by omega)]
        · rw [if_neg q3, if_neg (show ¬ (z.toNat < len ∧ pd z.toNat = 44) from fun w => q3 w.2), wri (-1 - z) (by omega) (by omega), if_neg (by omega)]
          congr 2; omega
  have key : ∀ (k p n : Nat), len - p = k → n ≤ p → p ≤ len → ∀ f, k < f → loop f (fun s => f_187_L4b M 1 s.1 s.2) ((p : Int), (n : Int)) = some (RT pd len 0 p) := by
    intro k
    induction k using Nat.strongRecOn with
    | _ k ih =>
      intro p n hk h1 h2 f hf
      cases f with
      | zero => omega
      | succ f =>
        have hb := nE_b (pd := pd) (len := len) (p := p) (l := 0) (m := 35)
        have hle := nE_le (pd := pd) (len := len) (p := p) (l := 0) (m := 35) h2 (by decide)
        have bd := body p n h1 h2
        rw [RT_0 h4 h2]
        generalize nE pd len p 0 35 = z at hb hle bd
        by_cases q : z < 0
        · rw [if_pos q] at bd
          rw [if_pos q]
          exact lpO bd
        · rw [if_neg q] at bd
          rw [if_neg q, RT_1 h4 (by omega)]
          by_cases q2 : z = len
          · rw [if_pos q2] at bd
            rw [if_pos (by omega)]
            exact lpO bd
          · rw [if_neg q2] at bd
            rw [if_neg (by omega)]
            by_cases q3 : pd z.toNat = 44
            · rw [if_pos q3] at bd
              rw [if_pos q3]
              have := ih (len - (z.toNat + 1)) (by omega) (z.toNat + 1) (n + 1) rfl (by omega) (by omega) f (by omega)
              rw [show ((z.toNat + 1 : Nat) : Int) = z + 1 by omega, show ((n + 1 : Nat) : Int) = (n : Int) + 1 by omega] at this
              exact (lpI bd).trans this
            · rw [if_neg q3] at bd
              rw [if_neg q3, show ((z.toNat : Nat) : Int) = z by omega]
              exact lpO bd
  unfold f_187 f_187_L4
  exact key (len - 0) 0 0 rfl (Nat.le_refl _) (Nat.zero_le _) NF (by show len - 0 < 1000000; omega)
variable {A : xM} {T : Int} {P : Nat → xM} {n o : Nat} {S : xM} {sv : Int} {st : Nat → Int} {stp : Int}
theorem ALLx_PC (h : ALLx T M A P n o S sv pd len st stp) : PC M pd len := by
  obtain ⟨⟨h1, h2⟩, ⟨h3, h4⟩, h5, h6⟩ := h
  exact ⟨h2.2.2.2.2.1.1, h2.2.2.2.2.1.2, h6.2.2.2.1, h6.2.2.2.2.1⟩
theorem ALLx_PM (h : ALLx T M A P n o S sv pd len st stp) : PM M pd len := by
  obtain ⟨⟨h1, h2⟩, ⟨h3, h4⟩, h5, h6⟩ := h
  exact ⟨h4.2.2.2.2.1.1, h4.2.2.2.2.1.2, h6.2.2.2.1, h6.2.2.2.2.1⟩
theorem step_fault (h : ALLx T M A P n o S sv pd len st stp) {w : Int} (hw : -2147483648 ≤ w ∧ w < 2147483648) : ∃ r1, f_109 M w = some r1 ∧ ∃ r2, f_188 M w = some r2 ∧ r1 = r2 := by
  have hC := ALLx_PC h
  have hM := ALLx_PM h
  have q1 : wr (f_138 w 0 1) = 0 ↔ ¬ (0 ≤ w ∧ w ≤ 1) := by
    rw [m_138w, wri w hw.1 hw.2, wr0, w_small.1]
  unfold f_109 f_188
  rw [wri w hw.1 hw.2]
  by_cases a : w = 0
  · subst a
    rw [if_pos rfl, c_51o hC, if_neg (fun x => q1.mp x (by decide)), m_187o hM]
    exact ⟨_, rfl, _, rfl, rfl⟩
  · by_cases b : w = 1
    · subst b
      rw [if_neg (by decide), if_pos rfl, c_51t hC, if_neg (fun x => q1.mp x (by decide)), m_187t hM]
      exact ⟨_, rfl, _, rfl, rfl⟩
    · rw [if_neg a, if_neg b, if_pos (q1.mpr (by omega))]
      exact ⟨_, rfl, _, rfl, rfl⟩
end TU
