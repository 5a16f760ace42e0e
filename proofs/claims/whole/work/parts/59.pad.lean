/-! MEANING, 30: the pad is read -/
section PA
variable {M : xM} {pd : Nat → Int} {len : Nat}
def PC (M : xM) (pd : Nat → Int) (len : Nat) : Prop := M 172 1 = (len : Int) ∧ (∀ j, j < len → M 173 j = pd j) ∧ len ≤ 60 ∧ ∀ j, j < len → 33 ≤ pd j ∧ pd j ≤ 126
def PM (M : xM) (pd : Nat → Int) (len : Nat) : Prop := M 182 6 = (len : Int) ∧ (∀ j, j < len → M 186 j = pd j) ∧ len ≤ 60 ∧ ∀ j, j < len → 33 ≤ pd j ∧ pd j ≤ 126
def dg (pd : Nat → Int) (len j : Nat) : Int := if j < len ∧ 48 ≤ pd j ∧ pd j ≤ 57 then pd j - 48 else -1
theorem dg_b {j : Nat} : -1 ≤ dg pd len j ∧ dg pd len j ≤ 9 := by unfold dg; split <;> omega
theorem c_47 (h : PC M pd len) {j : Nat} (hj : j < 1000) : f_47 M (j : Int) = some (if j < len then pd j else 0) := by
  obtain ⟨h1, h2, h3, h4⟩ := h
  unfold f_47
  rw [h1, wri (j : Int) (by omega) (by omega), wri (len : Int) (by omega) (by omega), if_neg (by omega)]
  by_cases q : j < len
  · have b := h4 j q
    rw [if_neg (by omega), if_neg (by omega), if_pos q, Int.toNat_natCast, h2 j q, wri (pd j) (by omega) (by omega), gd_pos (by omega)]
  · rw [if_pos (by omega), if_neg q]
theorem m_181 (h : PM M pd len) {j : Nat} (hj : j < 1000) : f_181 M (j : Int) = some (if j < len then pd j else -1) := by
  obtain ⟨h1, h2, h3, h4⟩ := h
  unfold f_181
  rw [h1, wri (j : Int) (by omega) (by omega), wri (len : Int) (by omega) (by omega)]
  by_cases q : j < len
  · rw [if_neg (by omega), if_pos q, gd_pos (by omega), Int.toNat_natCast, h2 j q]
  · rw [if_pos (by omega), if_neg q]
theorem m_182 (h : PM M pd len) {j : Nat} (hj : j < 1000) : f_182 M (j : Int) = some (dg pd len j) := by
  have h4 := h.2.2.2
  have e := m_181 h hj
  unfold f_182 dg
  simp only [m_138w]
  rw [e, Option.bind_some, wri 48 (by decide) (by decide), wri 57 (by decide) (by decide)]
  by_cases q : j < len
  · have b := h4 j q
    rw [if_pos q, wri (pd j) (by omega) (by omega)]
    by_cases q2 : 48 ≤ pd j ∧ pd j ≤ 57
    · rw [if_neg (fun w => w q2), if_pos ⟨q, q2⟩, Option.bind_some]
    · rw [if_pos q2, if_neg (fun w => q2 w.2)]
  · rw [if_neg q, wri (-1) (by decide) (by decide), if_pos (by decide), if_neg (fun w => q w.1)]
theorem lpI {σ ρ : Type} {b : σ → Option (σ ⊕ ρ)} {s s' : σ} {F : Nat} (h : b s = some (.inl s')) : loop (F + 1) b s = loop F b s' := by
  show (b s).bind _ = _
  rw [h]; rfl
theorem lpO {σ ρ : Type} {b : σ → Option (σ ⊕ ρ)} {s : σ} {r : ρ} {F : Nat} (h : b s = some (.inr r)) : loop (F + 1) b s = some r := by
  show (b s).bind _ = _
  rw [h]; rfl
/-- the end of a number from l to m -/
def nE (pd : Nat → Int) (len p : Nat) (l m : Int) : Int :=
  if dg pd len p < l then -1 - p
  else if 0 < dg pd len p ∧ 0 ≤ dg pd len (p + 1) ∧ 10 * dg pd len p + dg pd len (p + 1) ≤ m then
    (if 0 ≤ dg pd len (p + 2) ∧ 10 * (10 * dg pd len p + dg pd len (p + 1)) + dg pd len (p + 2) ≤ m then (p : Int) + 3 else (p : Int) + 2)
  else (p : Int) + 1
theorem nE_b {p : Nat} {l m : Int} : (nE pd len p l m = -1 - p) ∨ ((p : Int) + 1 ≤ nE pd len p l m ∧ nE pd len p l m ≤ p + 3) := by
  unfold nE
  split
  · exact Or.inl rfl
  · split
    · split <;> exact Or.inr (by omega)
    · exact Or.inr (by omega)
theorem m_183 (h : PM M pd len) {p : Nat} (hp : p < 900) {l m : Int} (hl : l = 0 ∨ l = 1) (hm : 9 ≤ m ∧ m ≤ 999) : f_183 M (p : Int) l m = some (nE pd len p l m) := by
  have d0 := dg_b (pd := pd) (len := len) (j := p)
  have d1 := dg_b (pd := pd) (len := len) (j := p + 1)
  have d2 := dg_b (pd := pd) (len := len) (j := p + 2)
  have d3 := dg_b (pd := pd) (len := len) (j := p + 3)
  have body : ∀ (v : Int) (q : Nat), q < 950 → 0 ≤ v → v ≤ 999 → f_183_L28b M m v (q : Int) = if v ≤ 0 then some (Sum.inr (q : Int)) else if dg pd len q < 0 then some (Sum.inr (q : Int)) else if m < 10 * v + dg pd len q then some (Sum.inr (q : Int)) else some (Sum.inl (10 * v + dg pd len q, (q : Int) + 1)) := by
    intro v q hq h1 h2
    have dq := dg_b (pd := pd) (len := len) (j := q)
    unfold f_183_L28b
    rw [m_182 h (show q < 1000 by omega), wri v (by omega) (by omega), Option.bind_some, Option.bind_some, Option.bind_some, wri (dg pd len q) (by omega) (by omega), wri m (by omega) (by omega), wri (10 * v + dg pd len q) (by omega) (by omega)]
  unfold f_183
  rw [wri (p : Int) (by omega) (by omega), if_pos (by omega), m_182 h (show p < 1000 by omega), Option.bind_some, wri l (by omega) (by omega), wri (dg pd len p) (by omega) (by omega)]
  unfold nE
  by_cases q0 : dg pd len p < l
  · rw [if_neg (by omega), if_pos q0]
  · rw [if_pos (by omega), if_neg q0]
    unfold f_183_L28
    rw [show NF = 999996 + 1 + 1 + 1 + 1 by decide +kernel]
    have s1 := body (dg pd len p) (p + 1) (by omega) (by omega) (by omega)
    by_cases q1 : 0 < dg pd len p ∧ 0 ≤ dg pd len (p + 1) ∧ 10 * dg pd len p + dg pd len (p + 1) ≤ m
    · rw [if_pos q1]
      rw [if_neg (by omega), if_neg (by omega), if_neg (by omega)] at s1
      have s2 := body (10 * dg pd len p + dg pd len (p + 1)) (p + 2) (by omega) (by omega) (by omega)
      rw [if_neg (by omega)] at s2
      by_cases q2 : 0 ≤ dg pd len (p + 2) ∧ 10 * (10 * dg pd len p + dg pd len (p + 1)) + dg pd len (p + 2) ≤ m
      · rw [if_pos q2]
        rw [if_neg (by omega), if_neg (by omega)] at s2
        have s3 := body (10 * (10 * dg pd len p + dg pd len (p + 1)) + dg pd len (p + 2)) (p + 3) (by omega) (by omega) (by omega)
        rw [if_neg (by omega)] at s3
        have e3 : f_183_L28b M m (10 * (10 * dg pd len p + dg pd len (p + 1)) + dg pd len (p + 2)) ((p + 3 : Nat) : Int) = some (Sum.inr ((p + 3 : Nat) : Int)) := by
          rw [s3]
          by_cases w : dg pd len (p + 3) < 0
          · rw [if_pos w]
          · rw [if_neg w, if_pos (by omega)]
        rw [show (p : Int) + 1 = ((p + 1 : Nat) : Int) by omega, lpI s1]
        rw [show ((p + 1 : Nat) : Int) + 1 = ((p + 2 : Nat) : Int) by omega, lpI s2]
        rw [show ((p + 2 : Nat) : Int) + 1 = ((p + 3 : Nat) : Int) by omega, lpO e3]
        rfl
      · rw [if_neg q2]
        have e2 : f_183_L28b M m (10 * dg pd len p + dg pd len (p + 1)) ((p + 2 : Nat) : Int) = some (Sum.inr ((p + 2 : Nat) : Int)) := by
          rw [s2]
          by_cases w : dg pd len (p + 2) < 0
          · rw [if_pos w]
          · rw [if_neg w, if_pos (by omega)]
        rw [show (p : Int) + 1 = ((p + 1 : Nat) : Int) by omega, lpI s1]
        rw [show ((p + 1 : Nat) : Int) + 1 = ((p + 2 : Nat) : Int) by omega, lpO e2]
        rfl
    · rw [if_neg q1]
      have e1 : f_183_L28b M m (dg pd len p) ((p + 1 : Nat) : Int) = some (Sum.inr ((p + 1 : Nat) : Int)) := by
        rw [s1]
        by_cases w0 : dg pd len p ≤ 0
        · rw [if_pos w0]
        · rw [if_neg w0]
          by_cases w : dg pd len (p + 1) < 0
          · rw [if_pos w]
          · rw [if_neg w, if_pos (by omega)]
      rw [show (p : Int) + 1 = ((p + 1 : Nat) : Int) by omega, lpO e1]
/-! the class's reading of orders -/
theorem d53 (c : Int) : (wr (f_53 c) = 0) = ¬ (48 ≤ wr c ∧ wr c ≤ 57) := by
  unfold f_53
  by_cases q : wr c < 48
  · rw [if_pos q]; exact propext ⟨fun _ => by omega, fun _ => wr0⟩
  · rw [if_neg q]
    by_cases q2 : 57 < wr c
    · rw [if_pos q2]; exact propext ⟨fun _ => by omega, fun _ => wr0⟩
    · rw [if_neg q2]; exact propext ⟨fun w => absurd w (by decide +kernel), fun w => absurd ⟨by omega, by omega⟩ w⟩
theorem w_small : wr 1 = 1 ∧ wr 2 = 2 ∧ wr 3 = 3 ∧ wr 4 = 4 ∧ wr 5 = 5 ∧ wr 6 = 6 ∧ wr 7 = 7 ∧ wr 8 = 8 ∧ wr (-1) = -1 := by decide +kernel
theorem f40_2 (c : Int) : f_40 2 c = if ¬ (48 ≤ wr c ∧ wr c ≤ 57) then -1 else if wr c = 48 then 4 else 3 := by
  unfold f_40; simp only [d53]; rw [w_small.2.1, if_pos rfl]
theorem f40_3 (c : Int) : f_40 3 c = if ¬ (48 ≤ wr c ∧ wr c ≤ 57) then (if wr c = 46 then 5 else -1) else 4 := by
  unfold f_40; simp only [d53]; rw [w_small.2.2.1, if_neg (by decide), if_pos rfl]
theorem f40_4 (c : Int) : f_40 4 c = if wr c = 46 then 5 else -1 := by
  unfold f_40; rw [w_small.2.2.2.1, if_neg (by decide), if_neg (by decide), if_pos rfl]
theorem f40_5 (c : Int) : f_40 5 c = if ¬ (48 ≤ wr c ∧ wr c ≤ 57) then -1 else if wr c = 48 then 1 else 6 := by
  unfold f_40; simp only [d53]; rw [w_small.2.2.2.2.1, if_neg (by decide), if_neg (by decide), if_neg (by decide), if_pos rfl]
theorem f40_6 (c : Int) : f_40 6 c = if ¬ (48 ≤ wr c ∧ wr c ≤ 57) then f_41 c else 7 := by
  unfold f_40; simp only [d53]; rw [w_small.2.2.2.2.2.1, if_neg (by decide), if_neg (by decide), if_neg (by decide), if_neg (by decide), if_pos rfl]
theorem f40_7 (c : Int) : f_40 7 c = if ¬ (48 ≤ wr c ∧ wr c ≤ 57) then f_41 c else 1 := by
  unfold f_40; simp only [d53]; rw [w_small.2.2.2.2.2.2.1, if_neg (by decide), if_neg (by decide), if_neg (by decide), if_neg (by decide), if_neg (by decide), if_pos rfl]
theorem f40_8 (c : Int) : f_40 8 c = if ¬ (48 ≤ wr c ∧ wr c ≤ 57) then -1 else if wr c = 48 then -1 else 7 := by
  unfold f_40; simp only [d53]; rw [w_small.2.2.2.2.2.2.2.1, if_neg (by decide), if_neg (by decide), if_neg (by decide), if_neg (by decide), if_neg (by decide), if_neg (by decide), if_pos rfl]
theorem f40_1 (c : Int) : f_40 1 c = f_41 c := by
  unfold f_40; rw [w_small.1, if_neg (by decide), if_neg (by decide), if_neg (by decide), if_neg (by decide), if_neg (by decide), if_neg (by decide), if_neg (by decide)]
theorem f40_0 (c : Int) : f_40 0 c = f_41 c := by
  unfold f_40; rw [wr0, if_neg (by decide), if_neg (by decide), if_neg (by decide), if_neg (by decide), if_neg (by decide), if_neg (by decide), if_neg (by decide)]
theorem f41_is (c : Int) : f_41 c = if wr c = 104 then 2 else if wr c = 116 then 8 else if wr c = 112 ∨ wr c = 115 ∨ wr c = 118 ∨ wr c = 120 ∨ wr c = 121 then 1 else -1 := by
  unfold f_41
  generalize wr c = z
  repeat' split
  all_goals first
    | rfl
    | omega
theorem f41_b (c : Int) : f_41 c = -1 ∨ f_41 c = 1 ∨ f_41 c = 2 ∨ f_41 c = 8 := by
  rw [f41_is]
  repeat' split
  all_goals omega
def okS (s : Int) : Prop := 0 ≤ s ∧ s ≤ 8
theorem f40_b {s c : Int} (hs : okS s) : -1 ≤ f_40 s c ∧ f_40 s c ≤ 8 := by
  have hb := f41_b c
  have : s = 0 ∨ s = 1 ∨ s = 2 ∨ s = 3 ∨ s = 4 ∨ s = 5 ∨ s = 6 ∨ s = 7 ∨ s = 8 := by unfold okS at hs; omega
  rcases this with h | h | h | h | h | h | h | h | h <;> subst h
  · rw [f40_0]; omega
  · rw [f40_1]; omega
  · rw [f40_2]; repeat' split
    all_goals omega
  · rw [f40_3]; repeat' split
    all_goals omega
  · rw [f40_4]; repeat' split
    all_goals omega
  · rw [f40_5]; repeat' split
    all_goals omega
  · rw [f40_6]; repeat' split
    all_goals omega
  · rw [f40_7]; repeat' split
    all_goals omega
  · rw [f40_8]; repeat' split
    all_goals omega
/-- the run from a step on, k characters before the end -/
def runO (pd : Nat → Int) (len : Nat) : Nat → Int → Int
  | 0, s => if wr (f_42 s) = 0 then (len : Int) else -4
  | k + 1, s => if f_40 s (pd (len - (k + 1))) = -1 then ((len - (k + 1) : Nat) : Int) else runO pd len k (f_40 s (pd (len - (k + 1))))
def RO (pd : Nat → Int) (len : Nat) (s : Int) (p : Nat) : Int := runO pd len (len - p) s
theorem RO_end {s : Int} : RO pd len s len = if wr (f_42 s) = 0 then (len : Int) else -4 := by unfold RO; rw [Nat.sub_self]; rfl
theorem RO_step {s : Int} {p : Nat} (hp : p < len) : RO pd len s p = if f_40 s (pd p) = -1 then (p : Int) else RO pd len (f_40 s (pd p)) (p + 1) := by
  unfold RO
  obtain ⟨k, hk⟩ : ∃ k, len - p = k + 1 := ⟨len - p - 1, by omega⟩
  rw [hk, show len - (p + 1) = k by omega]
  show (if f_40 s (pd (len - (k + 1))) = -1 then ((len - (k + 1) : Nat) : Int) else runO pd len k (f_40 s (pd (len - (k + 1))))) = _
  rw [show len - (k + 1) = p by omega]
theorem c_51o (h : PC M pd len) : f_51_174 M = some (RO pd len 0 0) := by
  have key : ∀ (k : Nat), k ≤ len → ∀ (s : Int), okS s → ∀ f, k < f → loop f (fun s => f_51_174_L4b M s.1 s.2) (s, ((len - k : Nat) : Int)) = some (runO pd len k s) := by
    obtain ⟨h1, h2, h3, h4⟩ := h
    intro k
    induction k with
    | zero =>
      intro _ s hs f hf
      cases f with
      | zero => omega
      | succ f =>
        show (f_51_174_L4b M s ((len - 0 : Nat) : Int)).bind _ = _
        unfold f_51_174_L4b
        rw [h1, wri (len : Int) (by omega) (by omega), wri _ (by omega) (by omega), if_pos (by omega)]
        show _ = some (if wr (f_42 s) = 0 then (len : Int) else -4)
        by_cases q : wr (f_42 s) = 0
        · rw [if_pos q, if_pos q]; rfl
        · rw [if_neg q, if_neg q]; rfl
    | succ k ih =>
      intro hk s hs f hf
      cases f with
      | zero => omega
      | succ f =>
        have hb := f40_b (c := pd (len - (k + 1))) hs
        have hpd := h4 (len - (k + 1)) (by omega)
        have body : f_51_174_L4b M s ((len - (k + 1) : Nat) : Int) = if f_40 s (pd (len - (k + 1))) = -1 then some (Sum.inr ((len - (k + 1) : Nat) : Int)) else some (Sum.inl (f_40 s (pd (len - (k + 1))), ((len - (k + 1) : Nat) : Int) + 1)) := by
          unfold f_51_174_L4b
          rw [h1, wri (len : Int) (by omega) (by omega), wri _ (by omega) (by omega), if_neg (by omega), c_47 ⟨h1, h2, h3, h4⟩ (show len - (k + 1) < 1000 by omega), if_pos (by omega), Option.bind_some, wri (f_40 s (pd (len - (k + 1)))) (by omega) (by omega)]
        show _ = some (if f_40 s (pd (len - (k + 1))) = -1 then ((len - (k + 1) : Nat) : Int) else runO pd len k (f_40 s (pd (len - (k + 1)))))
        by_cases q : f_40 s (pd (len - (k + 1))) = -1
        · rw [if_pos q] at body
          rw [if_pos q]
          exact lpO body
        · rw [if_neg q] at body
          rw [if_neg q]
          have := ih (by omega) (f_40 s (pd (len - (k + 1)))) ⟨by omega, hb.2⟩ f (by omega)
          rw [show ((len - k : Nat) : Int) = ((len - (k + 1) : Nat) : Int) + 1 by omega] at this
          exact (lpI body).trans this
  have := key len (Nat.le_refl _) 0 ⟨by decide, by decide⟩ NF (by have := h.2.2.1; show len < 1000000; omega)
  rw [Nat.sub_self] at this
  unfold f_51_174 f_51_174_L4 RO
  rw [Nat.sub_zero]
  exact this
/-- where an order ends, or its fault -/
def oE (pd : Nat → Int) (len p : Nat) : Int :=
  if len ≤ p then -1 - p
  else if pd p = 104 then
    (if nE pd len (p + 1) 0 99 < 0 then nE pd len (p + 1) 0 99
     else if (nE pd len (p + 1) 0 99).toNat < len ∧ pd (nE pd len (p + 1) 0 99).toNat = 46 then nE pd len ((nE pd len (p + 1) 0 99).toNat + 1) 0 999
     else -1 - nE pd len (p + 1) 0 99)
  else if pd p = 116 then nE pd len (p + 1) 1 99
  else if pd p = 112 ∨ pd p = 115 ∨ pd p = 118 ∨ pd p = 120 ∨ pd p = 121 then (p : Int) + 1
  else -1 - p
theorem m_185 (h : PM M pd len) {p : Nat} (hp : p < 900) {c : Int} (hc : 33 ≤ c ∧ c ≤ 126) : f_185 M (p : Int) c = some (if p < len ∧ pd p = c then (p : Int) + 1 else -1 - p) := by
  have h4 := h.2.2.2
  unfold f_185
  rw [wri (p : Int) (by omega) (by omega), if_pos (by omega), m_181 h (show p < 1000 by omega), Option.bind_some, wri c (by omega) (by omega)]
  by_cases q : p < len
  · have b := h4 p q
    rw [if_pos q, wri (pd p) (by omega) (by omega)]
    by_cases q2 : pd p = c
    · rw [if_pos q2, if_pos ⟨q, q2⟩]
    · rw [if_neg q2, if_neg (fun w => q2 w.2)]
  · rw [if_neg q, wri (-1) (by decide) (by decide), if_neg (by omega), if_neg (fun w => q w.1)]
theorem m_186 (h : PM M pd len) {p : Nat} (hp : p < 100) : f_186 M (p : Int) = some (oE pd len p) := by
  have h4 := h.2.2.2
  have h3 := h.2.2.1
  have e116 := m_183 h (p := p + 1) (by omega) (l := 1) (m := 99) (Or.inr rfl) (by decide)
  rw [show ((p + 1 : Nat) : Int) = (p : Int) + 1 by omega] at e116
  have e104 : ((f_183 M ((p : Int) + 1) 0 99).bind (fun k3 => (f_185 M k3 46).bind (fun k4 => (f_183 M k4 0 999).bind (fun k5 => some k5)))) = some (if nE pd len (p + 1) 0 99 < 0 then nE pd len (p + 1) 0 99 else if (nE pd len (p + 1) 0 99).toNat < len ∧ pd (nE pd len (p + 1) 0 99).toNat = 46 then nE pd len ((nE pd len (p + 1) 0 99).toNat + 1) 0 999 else -1 - nE pd len (p + 1) 0 99) := by
    have e1 := m_183 h (p := p + 1) (by omega) (l := 0) (m := 99) (Or.inl rfl) (by decide)
    rw [show ((p + 1 : Nat) : Int) = (p : Int) + 1 by omega] at e1
    have hb := nE_b (pd := pd) (len := len) (p := p + 1) (l := 0) (m := 99)
    have neg : ∀ (z c l m : Int), -2000 ≤ z → z < 0 → f_185 M z c = some z ∧ f_183 M z l m = some z := fun z c l m h1 h2 => by
      constructor
      · unfold f_185; rw [wri z (by omega) (by omega), if_neg (by omega)]
      · unfold f_183; rw [wri z (by omega) (by omega), if_neg (by omega)]
    rw [e1, Option.bind_some]
    generalize hz : nE pd len (p + 1) 0 99 = z at hb
    by_cases q : z < 0
    · obtain ⟨a1, -⟩ := neg z 46 0 999 (by omega) q
      obtain ⟨-, a2⟩ := neg z 46 0 999 (by omega) q
      rw [if_pos q, a1, Option.bind_some, a2]; rfl
    · rw [if_neg q]
      have e2 := m_185 h (p := z.toNat) (by omega) (c := 46) (by decide)
      rw [show ((z.toNat : Nat) : Int) = z by omega] at e2
      rw [e2, Option.bind_some]
      by_cases q2 : z.toNat < len ∧ pd z.toNat = 46
      · have e3 := m_183 h (p := z.toNat + 1) (by omega) (l := 0) (m := 999) (Or.inl rfl) (by decide)
        rw [show ((z.toNat + 1 : Nat) : Int) = z + 1 by omega] at e3
        rw [if_pos q2, if_pos q2, e3]; rfl
      · obtain ⟨-, a2⟩ := neg (-1 - z) 46 0 999 (by omega) (by omega)
        rw [if_neg q2, if_neg q2, a2]; rfl
  unfold f_186 oE
  rw [m_181 h (show p < 1000 by omega), Option.bind_some, e104, e116, Option.bind_some]
  by_cases q : p < len
  · have b := h4 p q
    rw [if_pos q, if_neg (show ¬ len ≤ p by omega), wri (pd p) (by omega) (by omega)]
    clear e104 e116
    generalize pd p = z
    by_cases a1 : z = 104
    · rw [if_pos a1, if_pos a1]
    · rw [if_neg a1, if_neg a1]
      by_cases a2 : z = 116
      · subst a2; rfl
      · rw [if_neg a2]
        by_cases a3 : z = 112 ∨ z = 115 ∨ z = 118 ∨ z = 120 ∨ z = 121
        · rw [if_pos a3]
          rcases a3 with w | w | w | w | w <;> subst w <;> rfl
        · rw [if_neg a3]
          have n1 : ¬ z = 112 := fun w => a3 (by omega)
          have n2 : ¬ z = 115 := fun w => a3 (by omega)
          have n3 : ¬ z = 118 := fun w => a3 (by omega)
          have n4 : ¬ z = 120 := fun w => a3 (by omega)
          have n5 : ¬ z = 121 := fun w => a3 (by omega)
          simp only [if_neg n1, if_neg n2, if_neg n3, if_neg n4, if_neg n5, ite_self, a2, if_false]
  · rw [if_neg q, if_pos (show len ≤ p by omega), wri (-1) (by decide) (by decide)]
    clear e104 e116
    repeat' split
    all_goals first
      | rfl
      | omega
end PA
