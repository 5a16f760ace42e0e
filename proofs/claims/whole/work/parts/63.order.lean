/-! MEANING, 34: one order of the pad -/
section OR
variable {M A : xM} {T : Int} {pd : Nat → Int} {len : Nat}
theorem ord_next (h4 : ∀ j, j < len → 33 ≤ pd j ∧ pd j ≤ 126) {p : Nat} (hp : p < len) (hf : RO pd len 1 p = -4) : ∃ e : Nat, oE pd len p = (e : Int) ∧ p < e ∧ e ≤ len ∧ RO pd len 1 e = -4 := by
  have hb := oE_b h4 (p := p) (by omega)
  rw [RO_1 h4 hp] at hf
  by_cases q : oE pd len p < 0
  · rw [if_pos q] at hf; omega
  · rw [if_neg q] at hf
    exact ⟨(oE pd len p).toNat, by omega, by omega, by omega, hf⟩
theorem ord_letter (h4 : ∀ j, j < len → 33 ≤ pd j ∧ pd j ≤ 126) {p : Nat} (hp : p < len) (hf : RO pd len 1 p = -4) : pd p = 104 ∨ pd p = 116 ∨ pd p = 112 ∨ pd p = 115 ∨ pd p = 118 ∨ pd p = 120 ∨ pd p = 121 := by
  by_cases a1 : pd p = 104
  · exact Or.inl a1
  · by_cases a2 : pd p = 116
    · exact Or.inr (Or.inl a2)
    · by_cases a3 : pd p = 112 ∨ pd p = 115 ∨ pd p = 118 ∨ pd p = 120 ∨ pd p = 121
      · exact Or.inr (Or.inr a3)
      · obtain ⟨e, h1, h2, h3, -⟩ := ord_next h4 hp hf
        have np : ¬ len ≤ p := by omega
        unfold oE at h1
        rw [if_neg np, if_neg a1, if_neg a2, if_neg a3] at h1
        omega
theorem ord_dg (h4 : ∀ j, j < len → 33 ≤ pd j ∧ pd j ≤ 126) {p : Nat} (hp : p ≤ len) (hf : RO pd len 1 p = -4) : dg pd len p = -1 := by
  rcases dg_two h4 hp with ⟨a, b⟩ | ⟨a, b, c, d⟩ | ⟨a, b, c, d⟩
  · exact b
  · have := ord_letter h4 a hf; omega
  · exact d
theorem nE_dig {p : Nat} {l m : Int} (hl : 0 ≤ l) (h0 : 0 ≤ nE pd len p l m) {j : Nat} (h1 : p ≤ j) (h2 : (j : Int) < nE pd len p l m) : 0 ≤ dg pd len j := by
  by_cases q0 : dg pd len p < l
  · rw [nE_0 q0] at h0; omega
  · by_cases q1 : 0 < dg pd len p ∧ 0 ≤ dg pd len (p + 1) ∧ 10 * dg pd len p + dg pd len (p + 1) ≤ m
    · by_cases q2 : 0 ≤ dg pd len (p + 2) ∧ 10 * (10 * dg pd len p + dg pd len (p + 1)) + dg pd len (p + 2) ≤ m
      · rw [nE_3 q0 q1 q2] at h2
        have : j = p ∨ j = p + 1 ∨ j = p + 2 := by omega
        rcases this with w | w | w <;> subst w
        · omega
        · omega
        · omega
      · rw [nE_2 q0 q1 q2] at h2
        have : j = p ∨ j = p + 1 := by omega
        rcases this with w | w <;> subst w
        · omega
        · omega
    · rw [nE_1 q0 q1] at h2
      have : j = p := by omega
      subst this
      omega
theorem dg_small {j : Nat} (h : 0 ≤ dg pd len j) : pd j ≤ 57 := by
  unfold dg at h
  by_cases q : j < len ∧ 48 ≤ pd j ∧ pd j ≤ 57
  · omega
  · rw [if_neg q] at h; omega
theorem ord_104 (h4 : ∀ j, j < len → 33 ≤ pd j ∧ pd j ≤ 126) {p : Nat} (hp : p < len) (hf : RO pd len 1 p = -4) (hc : pd p = 104) : ∃ e1 : Nat, nE pd len (p + 1) 0 99 = (e1 : Int) ∧ e1 < len ∧ pd e1 = 46 ∧ ED pd len (p + 1) = e1 ∧ (0 ≤ NV pd len 0 (p + 1) ∧ NV pd len 0 (p + 1) ≤ 99) ∧ (0 ≤ NV pd len 0 (e1 + 1) ∧ NV pd len 0 (e1 + 1) ≤ 999) ∧ oE pd len p = nE pd len (e1 + 1) 0 999 := by
  obtain ⟨e, h1, h2, h3, h5⟩ := ord_next h4 hp hf
  have np : ¬ len ≤ p := by omega
  have hb := nE_b (pd := pd) (len := len) (p := p + 1) (l := 0) (m := 99)
  have ho : oE pd len p = (if nE pd len (p + 1) 0 99 < 0 then nE pd len (p + 1) 0 99 else if (nE pd len (p + 1) 0 99).toNat < len ∧ pd (nE pd len (p + 1) 0 99).toNat = 46 then nE pd len ((nE pd len (p + 1) 0 99).toNat + 1) 0 999 else -1 - nE pd len (p + 1) 0 99) := by
    unfold oE; rw [if_neg np, if_pos hc]
  have n1 := NV_nE (pd := pd) (len := len) (p := p + 1) (l := 0) (m := 99) (Or.inl rfl) (by decide)
  obtain ⟨z, hz⟩ : ∃ z, z = nE pd len (p + 1) 0 99 := ⟨_, rfl⟩
  rw [← hz] at ho hb n1
  by_cases q : z < 0
  · rw [if_pos q] at ho; omega
  · rw [if_neg q] at ho
    by_cases q2 : z.toNat < len ∧ pd z.toNat = 46
    · rw [if_pos q2] at ho
      have d1 : dg pd len z.toNat = -1 := by rw [dg_in q2.1, if_neg (by omega)]
      have n2 := NV_nE (pd := pd) (len := len) (p := z.toNat + 1) (l := 0) (m := 999) (Or.inl rfl) (by decide) (by omega) (by rw [← ho, h1, Int.toNat_natCast]; exact ord_dg h4 h3 h5)
      have n1' := n1 (by omega) d1
      exact ⟨z.toNat, by omega, q2.1, q2.2, n1'.2.2 (by omega), ⟨n1'.1, n1'.2.1⟩, ⟨n2.1, n2.2.1⟩, ho⟩
    · rw [if_neg q2] at ho; omega
theorem ord_116 (h4 : ∀ j, j < len → 33 ≤ pd j ∧ pd j ≤ 126) {p : Nat} (hp : p < len) (hf : RO pd len 1 p = -4) (hc : pd p = 116) : (1 ≤ NV pd len 0 (p + 1) ∧ NV pd len 0 (p + 1) ≤ 99) ∧ oE pd len p = nE pd len (p + 1) 1 99 ∧ (p : Int) + 2 ≤ oE pd len p := by
  obtain ⟨e, h1, h2, h3, h5⟩ := ord_next h4 hp hf
  have np : ¬ len ≤ p := by omega
  have hb := nE_b (pd := pd) (len := len) (p := p + 1) (l := 1) (m := 99)
  have ho : oE pd len p = nE pd len (p + 1) 1 99 := by
    unfold oE; rw [if_neg np, if_neg (by omega), if_pos hc]
  have n1 := NV_nE (pd := pd) (len := len) (p := p + 1) (l := 1) (m := 99) (Or.inr rfl) (by decide) (by omega) (by rw [← ho, h1, Int.toNat_natCast]; exact ord_dg h4 h3 h5)
  exact ⟨⟨n1.1, n1.2.1⟩, ho, by omega⟩
/-- between an order's letter and its end there is no letter -/
theorem ord_mid (h4 : ∀ j, j < len → 33 ≤ pd j ∧ pd j ≤ 126) {p : Nat} (hp : p < len) (hf : RO pd len 1 p = -4) {j : Nat} (h1 : p < j) (h2 : (j : Int) < oE pd len p) : pd j ≤ 57 := by
  have hl := ord_letter h4 hp hf
  by_cases a1 : pd p = 104
  · obtain ⟨e1, g1, g2, g3, g4, g5, g6, g7⟩ := ord_104 h4 hp hf a1
    by_cases w1 : j < e1
    · exact dg_small (nE_dig (pd := pd) (len := len) (p := p + 1) (l := 0) (m := 99) (by decide) (by omega) (by omega) (by omega))
    · by_cases w2 : j = e1
      · subst w2; omega
      · exact dg_small (nE_dig (pd := pd) (len := len) (p := e1 + 1) (l := 0) (m := 999) (by decide) (by omega) (by omega) (by omega))
  · by_cases a2 : pd p = 116
    · obtain ⟨g1, g2, g3⟩ := ord_116 h4 hp hf a2
      exact dg_small (nE_dig (pd := pd) (len := len) (p := p + 1) (l := 1) (m := 99) (by decide) (by omega) (by omega) (by omega))
    · have np : ¬ len ≤ p := by omega
      have ho : oE pd len p = p + 1 := by
        unfold oE; rw [if_neg np, if_neg a1, if_neg a2, if_pos (by omega)]
      omega
/-- what an order asks -/
def ordWhy (A : xM) (c k f : Int) : Int := if c = 104 then whyHit A k f else if c = 112 then whyPress A else if c = 115 then whyStop A else if c = 120 then whyPeel A else if c = 121 then whyBack A else 0
def ordDo (A : xM) (c k f : Int) : xM := if c = 104 then aHit A k f else if c = 112 then aPress A else if c = 115 then aStop A else if c = 120 then aPeel A else if c = 121 then aBack A else if c = 116 then (aPass k.toNat A).2 else aSpeed A
def kA (pd : Nat → Int) (len p : Nat) : Int := NV pd len 0 (p + 1)
def fA (pd : Nat → Int) (len p : Nat) : Int := NV pd len 0 ((nE pd len (p + 1) 0 99).toNat + 1)
theorem ord_W (hX : WX T A) (h4 : ∀ j, j < len → 33 ≤ pd j ∧ pd j ≤ 126) {p : Nat} (hp : p < len) (hf : RO pd len 1 p = -4) (hw : ordWhy A (pd p) (kA pd len p) (fA pd len p) = 0) : WX (T + 150 * (oE pd len p - p)) (ordDo A (pd p) (kA pd len p) (fA pd len p)) := by
  obtain ⟨e, h1, h2, h3, h5⟩ := ord_next h4 hp hf
  have hl := ord_letter h4 hp hf
  have hb : T ≤ T + 150 * (oE pd len p - p) := by omega
  have hb1 : T + 1 ≤ T + 150 * (oE pd len p - p) := by omega
  unfold ordWhy at hw
  unfold ordDo
  by_cases a1 : pd p = 104
  · rw [if_pos a1] at hw ⊢
    obtain ⟨q, t⟩ := whyHit_0 hw
    exact WX_mono (W_hit hX t (by omega) (by omega)) hb
  · rw [if_neg a1] at hw ⊢
    by_cases a2 : pd p = 112
    · rw [if_pos a2] at hw ⊢
      exact WX_mono (W_press hX hw) hb1
    · rw [if_neg a2] at hw ⊢
      by_cases a3 : pd p = 115
      · rw [if_pos a3] at hw ⊢
        exact WX_mono (W_stop hX (by unfold whyStop at hw; by_cases q : A 0 0 = 0 ∨ A 0 0 = 4; rw [if_pos q] at hw; omega; omega)) hb
      · rw [if_neg a3] at hw ⊢
        by_cases a4 : pd p = 120
        · rw [if_pos a4] at hw ⊢
          exact WX_mono (W_peel hX (whyPeel_0 hw)) hb
        · rw [if_neg a4] at hw ⊢
          by_cases a5 : pd p = 121
          · rw [if_pos a5] at hw ⊢
            exact WX_mono (W_back hX (whyBack_0 hw)) hb
          · rw [if_neg a5] at hw ⊢
            by_cases a6 : pd p = 116
            · rw [if_pos a6]
              obtain ⟨g1, g2, g3⟩ := ord_116 h4 hp hf a6
              have : kA pd len p = NV pd len 0 (p + 1) := rfl
              exact WX_mono (W_pass hX (kA pd len p).toNat) (by omega)
            · rw [if_neg a6]
              exact WX_mono (W_speed hX) hb
end OR
