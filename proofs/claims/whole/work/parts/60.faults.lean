/-! MEANING, 31: faults -/
section FA
variable {M : xM} {pd : Nat → Int} {len : Nat}
theorem f42s : wr (f_42 0) = 0 ∧ wr (f_42 1) = 1 ∧ wr (f_42 2) = 0 ∧ wr (f_42 3) = 0 ∧ wr (f_42 4) = 0 ∧ wr (f_42 5) = 0 ∧ wr (f_42 6) = 1 ∧ wr (f_42 7) = 1 ∧ wr (f_42 8) = 0 := by decide +kernel
theorem dg_out {p : Nat} (hp : len ≤ p) : dg pd len p = -1 := by unfold dg; rw [if_neg (by omega)]
theorem dg_in {p : Nat} (hp : p < len) : dg pd len p = if 48 ≤ pd p ∧ pd p ≤ 57 then pd p - 48 else -1 := by
  unfold dg
  by_cases w : 48 ≤ pd p ∧ pd p ≤ 57
  · rw [if_pos w, if_pos ⟨hp, w⟩]
  · rw [if_neg w, if_neg (fun z => w z.2)]
theorem f40_7d {c : Int} (w : 48 ≤ wr c ∧ wr c ≤ 57) : f_40 7 c = 1 := by rw [f40_7, if_neg (fun z => z w)]
theorem f40_6d {c : Int} (w : 48 ≤ wr c ∧ wr c ≤ 57) : f_40 6 c = 7 := by rw [f40_6, if_neg (fun z => z w)]
theorem f40_8d {c : Int} (w : 48 ≤ wr c ∧ wr c ≤ 57) : f_40 8 c = if wr c = 48 then -1 else 7 := by rw [f40_8, if_neg (fun z => z w)]
theorem f40_5d {c : Int} (w : 48 ≤ wr c ∧ wr c ≤ 57) : f_40 5 c = if wr c = 48 then 1 else 6 := by rw [f40_5, if_neg (fun z => z w)]
theorem f40_3d {c : Int} (w : 48 ≤ wr c ∧ wr c ≤ 57) : f_40 3 c = 4 := by rw [f40_3, if_neg (fun z => z w)]
theorem f40_2d {c : Int} (w : 48 ≤ wr c ∧ wr c ≤ 57) : f_40 2 c = if wr c = 48 then 4 else 3 := by rw [f40_2, if_neg (fun z => z w)]
theorem f40_7n {c : Int} (w : ¬ (48 ≤ wr c ∧ wr c ≤ 57)) : f_40 7 c = f_41 c := by rw [f40_7, if_pos w]
theorem f40_6n {c : Int} (w : ¬ (48 ≤ wr c ∧ wr c ≤ 57)) : f_40 6 c = f_41 c := by rw [f40_6, if_pos w]
theorem f40_8n {c : Int} (w : ¬ (48 ≤ wr c ∧ wr c ≤ 57)) : f_40 8 c = -1 := by rw [f40_8, if_pos w]
theorem f40_5n {c : Int} (w : ¬ (48 ≤ wr c ∧ wr c ≤ 57)) : f_40 5 c = -1 := by rw [f40_5, if_pos w]
theorem f40_3n {c : Int} (w : ¬ (48 ≤ wr c ∧ wr c ≤ 57)) : f_40 3 c = if wr c = 46 then 5 else -1 := by rw [f40_3, if_pos w]
theorem f40_2n {c : Int} (w : ¬ (48 ≤ wr c ∧ wr c ≤ 57)) : f_40 2 c = -1 := by rw [f40_2, if_pos w]
/-- digits and others -/
theorem dg_two (h4 : ∀ j, j < len → 33 ≤ pd j ∧ pd j ≤ 126) {p : Nat} (hp : p ≤ len) : (p = len ∧ dg pd len p = -1) ∨ (p < len ∧ wr (pd p) = pd p ∧ (48 ≤ pd p ∧ pd p ≤ 57) ∧ dg pd len p = pd p - 48) ∨ (p < len ∧ wr (pd p) = pd p ∧ ¬ (48 ≤ pd p ∧ pd p ≤ 57) ∧ dg pd len p = -1) := by
  by_cases q : p < len
  · have b := h4 p q
    have e := dg_in (pd := pd) q
    have w := wri (pd p) (by omega) (by omega)
    by_cases z : 48 ≤ pd p ∧ pd p ≤ 57
    · rw [if_pos z] at e
      exact Or.inr (Or.inl ⟨q, w, z, e⟩)
    · rw [if_neg z] at e
      exact Or.inr (Or.inr ⟨q, w, z, e⟩)
  · exact Or.inl ⟨by omega, dg_out (by omega)⟩
theorem RO_7 (h4 : ∀ j, j < len → 33 ≤ pd j ∧ pd j ≤ 126) {p : Nat} (hp : p ≤ len) : RO pd len 7 p = if 0 ≤ dg pd len p then RO pd len 1 (p + 1) else RO pd len 1 p := by
  rcases dg_two h4 hp with ⟨a, b⟩ | ⟨a, b, c, d⟩ | ⟨a, b, c, d⟩
  · subst a; rw [b, if_neg (by decide), RO_end, RO_end, f42s.2.1, f42s.2.2.2.2.2.2.2.1]
  · rw [RO_step (s := 7) a, f40_7d (by rw [b]; exact c), if_neg (by decide), if_pos (by omega)]
  · rw [if_neg (show ¬ 0 ≤ dg pd len p by omega), RO_step (s := 7) a, RO_step (s := 1) a, f40_7n (by rw [b]; exact c), f40_1]
theorem RO_6 (h4 : ∀ j, j < len → 33 ≤ pd j ∧ pd j ≤ 126) {p : Nat} (hp : p ≤ len) : RO pd len 6 p = if 0 ≤ dg pd len p then RO pd len 7 (p + 1) else RO pd len 1 p := by
  rcases dg_two h4 hp with ⟨a, b⟩ | ⟨a, b, c, d⟩ | ⟨a, b, c, d⟩
  · subst a; rw [b, if_neg (by decide), RO_end, RO_end, f42s.2.1, f42s.2.2.2.2.2.2.1]
  · rw [RO_step (s := 6) a, f40_6d (by rw [b]; exact c), if_neg (by decide), if_pos (by omega)]
  · rw [if_neg (show ¬ 0 ≤ dg pd len p by omega), RO_step (s := 6) a, RO_step (s := 1) a, f40_6n (by rw [b]; exact c), f40_1]
theorem nE_0 {p : Nat} {l m : Int} (h : dg pd len p < l) : nE pd len p l m = -1 - p := by unfold nE; rw [if_pos h]
theorem nE_1 {p : Nat} {l m : Int} (h : ¬ dg pd len p < l) (h2 : ¬ (0 < dg pd len p ∧ 0 ≤ dg pd len (p + 1) ∧ 10 * dg pd len p + dg pd len (p + 1) ≤ m)) : nE pd len p l m = p + 1 := by unfold nE; rw [if_neg h, if_neg h2]
theorem nE_2 {p : Nat} {l m : Int} (h : ¬ dg pd len p < l) (h2 : 0 < dg pd len p ∧ 0 ≤ dg pd len (p + 1) ∧ 10 * dg pd len p + dg pd len (p + 1) ≤ m) (h3 : ¬ (0 ≤ dg pd len (p + 2) ∧ 10 * (10 * dg pd len p + dg pd len (p + 1)) + dg pd len (p + 2) ≤ m)) : nE pd len p l m = p + 2 := by unfold nE; rw [if_neg h, if_pos h2, if_neg h3]
theorem nE_3 {p : Nat} {l m : Int} (h : ¬ dg pd len p < l) (h2 : 0 < dg pd len p ∧ 0 ≤ dg pd len (p + 1) ∧ 10 * dg pd len p + dg pd len (p + 1) ≤ m) (h3 : 0 ≤ dg pd len (p + 2) ∧ 10 * (10 * dg pd len p + dg pd len (p + 1)) + dg pd len (p + 2) ≤ m) : nE pd len p l m = p + 3 := by unfold nE; rw [if_neg h, if_pos h2, if_pos h3]
theorem RO_8 (h4 : ∀ j, j < len → 33 ≤ pd j ∧ pd j ≤ 126) {p : Nat} (hp : p ≤ len) : RO pd len 8 p = if nE pd len p 1 99 < 0 then (p : Int) else RO pd len 1 (nE pd len p 1 99).toNat := by
  rcases dg_two h4 hp with ⟨a, b⟩ | ⟨a, b, c, d⟩ | ⟨a, b, c, d⟩
  · rw [nE_0 (by omega), if_pos (by omega)]
    subst a; rw [RO_end, f42s.2.2.2.2.2.2.2.2, if_pos rfl]
  · rw [RO_step (s := 8) a, f40_8d (by rw [b]; exact c), b]
    by_cases q : pd p = 48
    · rw [if_pos q, if_pos rfl, nE_0 (by omega), if_pos (by omega)]
    · rw [if_neg q, if_neg (by decide), RO_7 h4 (by omega)]
      have d1 := dg_b (pd := pd) (len := len) (j := p + 1)
      by_cases q2 : 0 ≤ dg pd len (p + 1)
      · rw [if_pos q2, nE_2 (by omega) (by omega) (by omega), if_neg (by omega), show ((p : Int) + 2).toNat = p + 1 + 1 by omega]
      · rw [if_neg q2, nE_1 (by omega) (by omega), if_neg (by omega), show ((p : Int) + 1).toNat = p + 1 by omega]
  · rw [RO_step (s := 8) a, f40_8n (by rw [b]; exact c), if_pos rfl, nE_0 (by omega), if_pos (by omega)]
theorem RO_5 (h4 : ∀ j, j < len → 33 ≤ pd j ∧ pd j ≤ 126) {p : Nat} (hp : p ≤ len) : RO pd len 5 p = if nE pd len p 0 999 < 0 then (p : Int) else RO pd len 1 (nE pd len p 0 999).toNat := by
  rcases dg_two h4 hp with ⟨a, b⟩ | ⟨a, b, c, d⟩ | ⟨a, b, c, d⟩
  · rw [nE_0 (by omega), if_pos (by omega)]
    subst a; rw [RO_end, f42s.2.2.2.2.2.1, if_pos rfl]
  · rw [RO_step (s := 5) a, f40_5d (by rw [b]; exact c), b]
    have d1 := dg_b (pd := pd) (len := len) (j := p + 1)
    have d2 := dg_b (pd := pd) (len := len) (j := p + 2)
    by_cases q : pd p = 48
    · rw [if_pos q, if_neg (by decide), nE_1 (by omega) (by omega), if_neg (by omega), show ((p : Int) + 1).toNat = p + 1 by omega]
    · rw [if_neg q, if_neg (by decide), RO_6 h4 (by omega)]
      by_cases q2 : 0 ≤ dg pd len (p + 1)
      · have l1 : p + 1 < len := by
          by_cases z : p + 1 < len
          · exact z
          · rw [dg_out (by omega)] at q2; omega
        rw [if_pos q2, RO_7 h4 (by omega)]
        by_cases q3 : 0 ≤ dg pd len (p + 2)
        · rw [if_pos q3, nE_3 (by omega) (by omega) (by omega), if_neg (by omega), show ((p : Int) + 3).toNat = p + 1 + 1 + 1 by omega]
        · rw [if_neg q3, nE_2 (by omega) (by omega) (by omega), if_neg (by omega), show ((p : Int) + 2).toNat = p + 1 + 1 by omega]
      · rw [if_neg q2, nE_1 (by omega) (by omega), if_neg (by omega), show ((p : Int) + 1).toNat = p + 1 by omega]
  · rw [RO_step (s := 5) a, f40_5n (by rw [b]; exact c), if_pos rfl, nE_0 (by omega), if_pos (by omega)]
theorem RO_4 (h4 : ∀ j, j < len → 33 ≤ pd j ∧ pd j ≤ 126) {p : Nat} (hp : p ≤ len) : RO pd len 4 p = if p < len ∧ pd p = 46 then RO pd len 5 (p + 1) else (p : Int) := by
  by_cases a : p < len
  · have b := h4 p a
    rw [RO_step (s := 4) a, f40_4, wri (pd p) (by omega) (by omega)]
    by_cases q : pd p = 46
    · rw [if_pos q, if_neg (by decide), if_pos ⟨a, q⟩]
    · rw [if_neg q, if_pos rfl, if_neg (fun z => q z.2)]
  · have : p = len := by omega
    subst this
    rw [RO_end, f42s.2.2.2.2.1, if_pos rfl, if_neg (fun z => a z.1)]
theorem RO_3 (h4 : ∀ j, j < len → 33 ≤ pd j ∧ pd j ≤ 126) {p : Nat} (hp : p ≤ len) : RO pd len 3 p = if 0 ≤ dg pd len p then RO pd len 4 (p + 1) else RO pd len 4 p := by
  rcases dg_two h4 hp with ⟨a, b⟩ | ⟨a, b, c, d⟩ | ⟨a, b, c, d⟩
  · subst a; rw [b, if_neg (by decide), RO_end, RO_end, f42s.2.2.2.1, f42s.2.2.2.2.1]
  · rw [RO_step (s := 3) a, f40_3d (by rw [b]; exact c), if_neg (by decide), if_pos (by omega)]
  · rw [if_neg (show ¬ 0 ≤ dg pd len p by omega), RO_step (s := 3) a, RO_step (s := 4) a, f40_3n (by rw [b]; exact c), f40_4]
theorem RO_2 (h4 : ∀ j, j < len → 33 ≤ pd j ∧ pd j ≤ 126) {p : Nat} (hp : p ≤ len) : RO pd len 2 p = if nE pd len p 0 99 < 0 then (p : Int) else RO pd len 4 (nE pd len p 0 99).toNat := by
  rcases dg_two h4 hp with ⟨a, b⟩ | ⟨a, b, c, d⟩ | ⟨a, b, c, d⟩
  · rw [nE_0 (by omega), if_pos (by omega)]
    subst a; rw [RO_end, f42s.2.2.1, if_pos rfl]
  · rw [RO_step (s := 2) a, f40_2d (by rw [b]; exact c), b]
    have d1 := dg_b (pd := pd) (len := len) (j := p + 1)
    by_cases q : pd p = 48
    · rw [if_pos q, if_neg (by decide), nE_1 (by omega) (by omega), if_neg (by omega), show ((p : Int) + 1).toNat = p + 1 by omega]
    · rw [if_neg q, if_neg (by decide), RO_3 h4 (by omega)]
      by_cases q2 : 0 ≤ dg pd len (p + 1)
      · rw [if_pos q2, nE_2 (by omega) (by omega) (by omega), if_neg (by omega), show ((p : Int) + 2).toNat = p + 1 + 1 by omega]
      · rw [if_neg q2, nE_1 (by omega) (by omega), if_neg (by omega), show ((p : Int) + 1).toNat = p + 1 by omega]
  · rw [RO_step (s := 2) a, f40_2n (by rw [b]; exact c), if_pos rfl, nE_0 (by omega), if_pos (by omega)]
theorem nE_le {p : Nat} {l m : Int} (hp : p ≤ len) (hl : 0 ≤ l) : nE pd len p l m ≤ len := by
  unfold nE
  split
  · omega
  · have l0 : p < len := by
      by_cases z : p < len
      · exact z
      · have := dg_out (pd := pd) (len := len) (p := p) (by omega); omega
    split
    · rename_i w
      have l1 : p + 1 < len := by
        by_cases z : p + 1 < len
        · exact z
        · have := dg_out (pd := pd) (len := len) (p := p + 1) (by omega); omega
      split
      · rename_i v
        have l2 : p + 2 < len := by
          by_cases z : p + 2 < len
          · exact z
          · have := dg_out (pd := pd) (len := len) (p := p + 2) (by omega); omega
        omega
      · omega
    · omega
/-- a step over a whole order -/
theorem RO_1 (h4 : ∀ j, j < len → 33 ≤ pd j ∧ pd j ≤ 126) {p : Nat} (hp : p < len) : RO pd len 1 p = if oE pd len p < 0 then -1 - oE pd len p else RO pd len 1 (oE pd len p).toNat := by
  have b := h4 p hp
  have np : ¬ len ≤ p := by omega
  rw [RO_step (s := 1) hp, f40_1, f41_is, wri (pd p) (by omega) (by omega)]
  by_cases a1 : pd p = 104
  · rw [if_pos a1, if_neg (by decide), RO_2 h4 (by omega)]
    have hb := nE_b (pd := pd) (len := len) (p := p + 1) (l := 0) (m := 99)
    have hle := nE_le (pd := pd) (len := len) (p := p + 1) (l := 0) (m := 99) (by omega) (by decide)
    have ho : oE pd len p = (if nE pd len (p + 1) 0 99 < 0 then nE pd len (p + 1) 0 99 else if (nE pd len (p + 1) 0 99).toNat < len ∧ pd (nE pd len (p + 1) 0 99).toNat = 46 then nE pd len ((nE pd len (p + 1) 0 99).toNat + 1) 0 999 else -1 - nE pd len (p + 1) 0 99) := by
      unfold oE; rw [if_neg np, if_pos a1]
    rw [ho]
    generalize nE pd len (p + 1) 0 99 = z at hb hle
    by_cases q : z < 0
    · simp only [if_pos q]; omega
    · simp only [if_neg q]
      rw [RO_4 h4 (by omega)]
      by_cases q2 : z.toNat < len ∧ pd z.toNat = 46
      · simp only [if_pos q2]
        rw [RO_5 h4 (by omega)]
        have hb2 := nE_b (pd := pd) (len := len) (p := z.toNat + 1) (l := 0) (m := 999)
        generalize nE pd len (z.toNat + 1) 0 999 = y at hb2
        by_cases q3 : y < 0
        · rw [if_pos q3, if_pos q3]; omega
        · rw [if_neg q3, if_neg q3]
      · simp only [if_neg q2]
        rw [if_pos (by omega)]; omega
  · by_cases a2 : pd p = 116
    · have ho : oE pd len p = nE pd len (p + 1) 1 99 := by unfold oE; rw [if_neg np, if_neg a1, if_pos a2]
      rw [ho, if_neg a1, if_pos a2, if_neg (by decide), RO_8 h4 (by omega)]
      have hb := nE_b (pd := pd) (len := len) (p := p + 1) (l := 1) (m := 99)
      generalize nE pd len (p + 1) 1 99 = z at hb
      by_cases q : z < 0
      · rw [if_pos q, if_pos q]; omega
      · rw [if_neg q, if_neg q]
    · by_cases a3 : pd p = 112 ∨ pd p = 115 ∨ pd p = 118 ∨ pd p = 120 ∨ pd p = 121
      · have ho : oE pd len p = p + 1 := by unfold oE; rw [if_neg np, if_neg a1, if_neg a2, if_pos a3]
        rw [ho, if_neg a1, if_neg a2, if_pos a3, if_neg (by decide), if_neg (by omega), show ((p : Int) + 1).toNat = p + 1 by omega]
      · have ho : oE pd len p = -1 - p := by unfold oE; rw [if_neg np, if_neg a1, if_neg a2, if_neg a3]
        rw [ho, if_neg a1, if_neg a2, if_neg a3, if_pos rfl, if_pos (by omega)]; omega
theorem oE_b (h4 : ∀ j, j < len → 33 ≤ pd j ∧ pd j ≤ 126) {p : Nat} (hp : p ≤ len) : (-1 - (len : Int) ≤ oE pd len p ∧ oE pd len p < 0) ∨ ((p : Int) < oE pd len p ∧ oE pd len p ≤ len) := by
  unfold oE
  split
  · omega
  · have e1 := nE_b (pd := pd) (len := len) (p := p + 1) (l := 0) (m := 99)
    have e2 := nE_le (pd := pd) (len := len) (p := p + 1) (l := 0) (m := 99) (by omega) (by decide)
    have e3 := nE_b (pd := pd) (len := len) (p := p + 1) (l := 1) (m := 99)
    have e4 := nE_le (pd := pd) (len := len) (p := p + 1) (l := 1) (m := 99) (by omega) (by decide)
    generalize nE pd len (p + 1) 0 99 = z at *
    generalize nE pd len (p + 1) 1 99 = y at *
    split
    · split
      · omega
      · split
        · have e5 := nE_b (pd := pd) (len := len) (p := z.toNat + 1) (l := 0) (m := 999)
          have e6 := nE_le (pd := pd) (len := len) (p := z.toNat + 1) (l := 0) (m := 999) (by omega) (by decide)
          generalize nE pd len (z.toNat + 1) 0 999 = x at *
          omega
        · omega
    · split
      · omega
      · split
        · omega
        · omega
theorem m_187o (h : PM M pd len) : f_187 M 0 = some (RO pd len 0 0) := by
  have h4 := h.2.2.2
  have h3 := h.2.2.1
  have body : ∀ (p n : Nat), n ≤ p → p ≤ len → f_187_L4b M 0 (p : Int) (n : Int) = if oE pd len p < 0 then some (Sum.inr (-1 - oE pd len p)) else if oE pd len p = len then some (Sum.inr (-4)) else some (Sum.inl (oE pd len p, (n : Int) + 1)) := by
    intro p n h1 h2
    have hb := oE_b h4 h2
    unfold f_187_L4b
    rw [wri (n : Int) (by omega) (by omega), if_neg (by omega), if_pos wr0, m_186 h (show p < 100 by omega), Option.bind_some]
    unfold f_187_L30
    rw [wri (oE pd len p) (by omega) (by omega), if_pos wr0, h.1, wri (len : Int) (by omega) (by omega)]
    by_cases q : oE pd len p < 0
    · rw [if_pos q, if_neg (show ¬ 0 ≤ oE pd len p by omega)]
    · have q' : 0 ≤ oE pd len p := by omega
      simp only [if_neg q, if_pos q']
  have key : ∀ (k p n : Nat), len - p = k → n ≤ p → p < len → ∀ f, k < f → loop f (fun s => f_187_L4b M 0 s.1 s.2) ((p : Int), (n : Int)) = some (RO pd len 1 p) := by
    intro k
    induction k using Nat.strongRecOn with
    | _ k ih =>
      intro p n hk h1 h2 f hf
      cases f with
      | zero => omega
      | succ f =>
        have hb := oE_b h4 (p := p) (by omega)
        have bd := body p n h1 (by omega)
        rw [RO_1 h4 h2]
        by_cases q : oE pd len p < 0
        · rw [if_pos q] at bd
          rw [if_pos q]
          exact lpO bd
        · rw [if_neg q] at bd
          rw [if_neg q]
          by_cases q2 : oE pd len p = len
          · rw [if_pos q2] at bd
            rw [q2, Int.toNat_natCast, RO_end, f42s.2.1, if_neg (by decide)]
            exact lpO bd
          · rw [if_neg q2] at bd
            have := ih (len - (oE pd len p).toNat) (by omega) (oE pd len p).toNat (n + 1) rfl (by omega) (by omega) f (by omega)
            rw [show (((oE pd len p).toNat : Nat) : Int) = oE pd len p by omega, show ((n + 1 : Nat) : Int) = (n : Int) + 1 by omega] at this
            exact (lpI bd).trans this
  unfold f_187 f_187_L4
  by_cases q : 0 < len
  · have := key (len - 0) 0 0 rfl (Nat.le_refl _) q NF (by show len - 0 < 1000000; omega)
    rw [show RO pd len 0 0 = RO pd len 1 0 by rw [RO_step (s := 0) q, RO_step (s := 1) q, f40_0, f40_1]]
    exact this
  · have e : len = 0 := by omega
    have bd := body 0 0 (Nat.le_refl _) (by omega)
    have o : oE pd len 0 = -1 := by unfold oE; rw [if_pos (by omega)]; rfl
    rw [o, if_pos (by decide)] at bd
    have r : RO pd len 0 0 = 0 := by
      have := RO_end (pd := pd) (len := len) (s := 0)
      rw [f42s.1, if_pos rfl] at this
      rw [e] at this ⊢; exact this
    rw [r, show NF = 999999 + 1 by decide +kernel]
    exact lpO bd
end FA
