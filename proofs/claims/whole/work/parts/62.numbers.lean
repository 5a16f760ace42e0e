/-! MEANING, 33: numbers on the pad -/
section NU
variable {M : xM} {pd : Nat → Int} {len : Nat}
def nVk (pd : Nat → Int) (len : Nat) : Nat → Int → Int
  | 0, v => v
  | k + 1, v => if 0 ≤ dg pd len (len - (k + 1)) then nVk pd len k (10 * v + dg pd len (len - (k + 1))) else v
def eDk (pd : Nat → Int) (len : Nat) : Nat → Nat
  | 0 => len
  | k + 1 => if 0 ≤ dg pd len (len - (k + 1)) then eDk pd len k else len - (k + 1)
/-- the value of the digits from p on, and where they end -/
def NV (pd : Nat → Int) (len : Nat) (v : Int) (p : Nat) : Int := nVk pd len (len - p) v
def ED (pd : Nat → Int) (len : Nat) (p : Nat) : Nat := eDk pd len (len - p)
theorem NV_dig {v : Int} {p : Nat} (h : 0 ≤ dg pd len p) : NV pd len v p = NV pd len (10 * v + dg pd len p) (p + 1) := by
  have hp : p < len := by
    by_cases z : p < len
    · exact z
    · have := dg_out (pd := pd) (len := len) (p := p) (by omega); omega
  unfold NV
  obtain ⟨k, hk⟩ : ∃ k, len - p = k + 1 := ⟨len - p - 1, by omega⟩
  have ep : len - (k + 1) = p := by omega
  rw [hk, show len - (p + 1) = k by omega]
  show (if 0 ≤ dg pd len (len - (k + 1)) then nVk pd len k (10 * v + dg pd len (len - (k + 1))) else v) = _
  rw [ep, if_pos h]
theorem NV_non {v : Int} {p : Nat} (h : dg pd len p < 0) : NV pd len v p = v := by
  unfold NV
  by_cases hp : p < len
  · obtain ⟨k, hk⟩ : ∃ k, len - p = k + 1 := ⟨len - p - 1, by omega⟩
    have ep : len - (k + 1) = p := by omega
    rw [hk]
    show (if 0 ≤ dg pd len (len - (k + 1)) then nVk pd len k (10 * v + dg pd len (len - (k + 1))) else v) = _
    rw [ep, if_neg (by omega)]
  · rw [show len - p = 0 by omega]; rfl
theorem ED_dig {p : Nat} (h : 0 ≤ dg pd len p) : ED pd len p = ED pd len (p + 1) := by
  have hp : p < len := by
    by_cases z : p < len
    · exact z
    · have := dg_out (pd := pd) (len := len) (p := p) (by omega); omega
  unfold ED
  obtain ⟨k, hk⟩ : ∃ k, len - p = k + 1 := ⟨len - p - 1, by omega⟩
  have ep : len - (k + 1) = p := by omega
  rw [hk, show len - (p + 1) = k by omega]
  show (if 0 ≤ dg pd len (len - (k + 1)) then eDk pd len k else len - (k + 1)) = _
  rw [ep, if_pos h]
theorem ED_non {p : Nat} (hp : p ≤ len) (h : dg pd len p < 0) : ED pd len p = p := by
  unfold ED
  by_cases hp' : p < len
  · obtain ⟨k, hk⟩ : ∃ k, len - p = k + 1 := ⟨len - p - 1, by omega⟩
    have ep : len - (k + 1) = p := by omega
    rw [hk]
    show (if 0 ≤ dg pd len (len - (k + 1)) then eDk pd len k else len - (k + 1)) = _
    rw [ep, if_neg (by omega)]
  · rw [show len - p = 0 by omega]; show len = p; omega
theorem ED_ge : ∀ (k p : Nat), len - p = k → p ≤ len → p ≤ ED pd len p ∧ ED pd len p ≤ len := by
  intro k
  induction k with
  | zero => intro p hk hp; rw [ED_non hp (by rw [dg_out (by omega)]; decide)]; omega
  | succ k ih =>
    intro p hk hp
    by_cases q : 0 ≤ dg pd len p
    · rw [ED_dig q]; have := ih (p + 1) (by omega) (by omega); omega
    · rw [ED_non hp (by omega)]; omega
theorem m_184 (h : PM M pd len) {p : Nat} (hp : p < 800) : f_184 M (p : Int) = some (NV pd len 0 p) := by
  have h3 := h.2.2.1
  have key : ∀ (k p : Nat) (v : Int), len - p = k → p < 800 → ∀ f, k < f → loop f (fun s => f_184_L4b M s.1 s.2) (v, (p : Int)) = some (NV pd len v p) := by
    intro k
    induction k with
    | zero =>
      intro p v hk hp f hf
      cases f with
      | zero => omega
      | succ f =>
        have e : dg pd len p = -1 := dg_out (by omega)
        have bd : f_184_L4b M v (p : Int) = some (Sum.inr v) := by
          unfold f_184_L4b
          rw [m_182 h (show p < 1000 by omega), Option.bind_some, e, wri (-1) (by decide) (by decide), if_pos (by decide)]
        rw [NV_non (by omega)]
        exact lpO bd
    | succ k ih =>
      intro p v hk hp f hf
      cases f with
      | zero => omega
      | succ f =>
        have b := dg_b (pd := pd) (len := len) (j := p)
        by_cases q : 0 ≤ dg pd len p
        · have bd : f_184_L4b M v (p : Int) = some (Sum.inl (10 * v + dg pd len p, (p : Int) + 1)) := by
            unfold f_184_L4b
            rw [m_182 h (show p < 1000 by omega), Option.bind_some, wri (dg pd len p) (by omega) (by omega), if_neg (by omega), Option.bind_some]
          have := ih (p + 1) (10 * v + dg pd len p) (by omega) (by omega) f (by omega)
          rw [show ((p + 1 : Nat) : Int) = (p : Int) + 1 by omega] at this
          rw [NV_dig q]
          exact (lpI bd).trans this
        · have bd : f_184_L4b M v (p : Int) = some (Sum.inr v) := by
            unfold f_184_L4b
            rw [m_182 h (show p < 1000 by omega), Option.bind_some, wri (dg pd len p) (by omega) (by omega), if_pos (by omega)]
          rw [NV_non (by omega)]
          exact lpO bd
  unfold f_184 f_184_L4
  exact key (len - p) p 0 rfl hp NF (by show len - p < 1000000; omega)
theorem c_49 (h : PC M pd len) {p : Nat} (hp : p ≤ len) : f_49 M (p : Int) = some (ED pd len p : Int) := by
  have h3 := h.2.2.1
  have h4 := h.2.2.2
  have key : ∀ (k p : Nat), len - p = k → p ≤ len → ∀ f, k < f → loop f (fun s => f_49_L2b M s) (p : Int) = some (ED pd len p : Int) := by
    intro k
    induction k with
    | zero =>
      intro p hk hp f hf
      cases f with
      | zero => omega
      | succ f =>
        have e : dg pd len p = -1 := dg_out (by omega)
        have bd : f_49_L2b M (p : Int) = some (Sum.inr (p : Int)) := by
          unfold f_49_L2b
          rw [h.1, wri (len : Int) (by omega) (by omega), wri (p : Int) (by omega) (by omega), if_pos (by omega)]
        rw [ED_non hp (by omega)]
        exact lpO bd
    | succ k ih =>
      intro p hk hp f hf
      cases f with
      | zero => omega
      | succ f =>
        have l : p < len := by omega
        have two : f_49_L2b M (p : Int) = if wr (f_53 (pd p)) = 0 then some (Sum.inr (p : Int)) else some (Sum.inl ((p : Int) + 1)) := by
          unfold f_49_L2b
          rw [h.1, wri (len : Int) (by omega) (by omega), wri (p : Int) (by omega) (by omega), if_neg (by omega), c_47 h (show p < 1000 by omega), if_pos l, Option.bind_some]
        rcases dg_two h4 hp with ⟨a, b⟩ | ⟨a, b, c, d⟩ | ⟨a, b, c, d⟩
        · omega
        · rw [if_neg (by rw [d53, b]; exact fun z => z c)] at two
          have := ih (p + 1) (by omega) (by omega) f (by omega)
          rw [show ((p + 1 : Nat) : Int) = (p : Int) + 1 by omega] at this
          rw [ED_dig (by omega)]
          exact (lpI two).trans this
        · rw [if_pos (by rw [d53, b]; exact c)] at two
          rw [ED_non hp (by omega)]
          exact lpO two
  unfold f_49 f_49_L2
  exact key (len - p) p rfl hp NF (by show len - p < 1000000; omega)
theorem c_50 (h : PC M pd len) {p : Nat} (hp : p ≤ len) : f_50 M (p : Int) = some (NV pd len 0 p) := by
  have h3 := h.2.2.1
  have h4 := h.2.2.2
  have hE := ED_ge (pd := pd) (len := len) (len - p) p rfl hp
  have key : ∀ (k q : Nat) (v : Int), len - q = k → q ≤ len → ED pd len q = ED pd len p → ∀ f, k < f → loop f (fun s => f_50_L11b M (ED pd len p : Int) s.1 s.2) (v, (q : Int)) = some (NV pd len v q) := by
    intro k
    induction k with
    | zero =>
      intro q v hk hq he f hf
      cases f with
      | zero => omega
      | succ f =>
        have e : dg pd len q = -1 := dg_out (by omega)
        have bd : f_50_L11b M (ED pd len p : Int) v (q : Int) = some (Sum.inr v) := by
          unfold f_50_L11b
          rw [wri (ED pd len p : Int) (by omega) (by omega), wri (q : Int) (by omega) (by omega), if_pos (by omega)]
        rw [NV_non (by omega)]
        exact lpO bd
    | succ k ih =>
      intro q v hk hq he f hf
      cases f with
      | zero => omega
      | succ f =>
        have l : q < len := by omega
        rcases dg_two h4 hq with ⟨a, b⟩ | ⟨a, b, c, d⟩ | ⟨a, b, c, d⟩
        · omega
        · have e1 := ED_dig (pd := pd) (len := len) (p := q) (by omega)
          have e2 := ED_ge (pd := pd) (len := len) (len - (q + 1)) (q + 1) rfl (by omega)
          have bd : f_50_L11b M (ED pd len p : Int) v (q : Int) = some (Sum.inl (10 * v + dg pd len q, (q : Int) + 1)) := by
            unfold f_50_L11b
            rw [wri (ED pd len p : Int) (by omega) (by omega), wri (q : Int) (by omega) (by omega), if_neg (by omega), c_47 h (show q < 1000 by omega), if_pos l, Option.bind_some, d, show 10 * v + pd q - 48 = 10 * v + (pd q - 48) by omega]
          have := ih (q + 1) (10 * v + dg pd len q) (by omega) (by omega) (by omega) f (by omega)
          rw [show ((q + 1 : Nat) : Int) = (q : Int) + 1 by omega] at this
          rw [NV_dig (by omega)]
          exact (lpI bd).trans this
        · have e1 := ED_non (pd := pd) hq (by omega)
          have bd : f_50_L11b M (ED pd len p : Int) v (q : Int) = some (Sum.inr v) := by
            unfold f_50_L11b
            rw [wri (ED pd len p : Int) (by omega) (by omega), wri (q : Int) (by omega) (by omega), if_pos (by omega)]
          rw [NV_non (by omega)]
          exact lpO bd
  unfold f_50 f_50_L11
  rw [c_49 h hp, Option.bind_some]
  exact key (len - p) p 0 rfl hp rfl NF (by show len - p < 1000000; omega)
/-- a number that is followed by no digit -/
theorem NV_nE {p : Nat} {l m : Int} (hl : l = 0 ∨ l = 1) (hm : 9 ≤ m ∧ m ≤ 999) (h0 : 0 ≤ nE pd len p l m) (hd : dg pd len (nE pd len p l m).toNat = -1) : l ≤ NV pd len 0 p ∧ NV pd len 0 p ≤ m ∧ (p ≤ len → ED pd len p = (nE pd len p l m).toNat) := by
  have d0 := dg_b (pd := pd) (len := len) (j := p)
  have d1 := dg_b (pd := pd) (len := len) (j := p + 1)
  have d2 := dg_b (pd := pd) (len := len) (j := p + 2)
  have lt : ∀ {j : Nat}, 0 ≤ dg pd len j → j < len := fun {j} w => by
    by_cases z : j < len
    · exact z
    · have := dg_out (pd := pd) (len := len) (p := j) (by omega); omega
  by_cases q0 : dg pd len p < l
  · rw [nE_0 q0] at h0; omega
  · by_cases q1 : 0 < dg pd len p ∧ 0 ≤ dg pd len (p + 1) ∧ 10 * dg pd len p + dg pd len (p + 1) ≤ m
    · by_cases q2 : 0 ≤ dg pd len (p + 2) ∧ 10 * (10 * dg pd len p + dg pd len (p + 1)) + dg pd len (p + 2) ≤ m
      · have e11 : dg pd len (p + 1 + 1) = dg pd len (p + 2) := rfl
        rw [nE_3 q0 q1 q2, show ((p : Int) + 3).toNat = p + 1 + 1 + 1 by omega] at hd ⊢
        have l2 := lt q2.1
        rw [NV_dig (by omega), NV_dig (by omega), NV_dig (by omega), NV_non (by omega)]
        refine ⟨by omega, ?_, fun _ => ?_⟩
        · omega
        · rw [ED_dig (by omega), ED_dig (by omega), ED_dig (by omega), ED_non (by omega) (by omega)]
      · rw [nE_2 q0 q1 q2, show ((p : Int) + 2).toNat = p + 1 + 1 by omega] at hd ⊢
        have l1 := lt q1.2.1
        rw [NV_dig (by omega), NV_dig (by omega), NV_non (by omega)]
        refine ⟨by omega, by omega, fun _ => ?_⟩
        rw [ED_dig (by omega), ED_dig (by omega), ED_non (by omega) (by omega)]
    · rw [nE_1 q0 q1, show ((p : Int) + 1).toNat = p + 1 by omega] at hd ⊢
      have l0 := lt (j := p) (by omega)
      rw [NV_dig (by omega), NV_non (by omega)]
      refine ⟨by omega, by omega, fun _ => ?_⟩
      rw [ED_dig (by omega), ED_non (by omega) (by omega)]
end NU
