/-! MEANING, 38: the tune's numbers -/
section TN
variable {M A : xM} {T : Int} {pd : Nat → Int} {len : Nat}
/-- the numbers of a tune from p on -/
def TL (pd : Nat → Int) (len : Nat) : List Int → Nat → Prop
  | [], _ => False
  | x :: l, p => x = NV pd len 0 p ∧ (0 ≤ x ∧ x ≤ 35) ∧ ∃ e : Nat, nE pd len p 0 35 = e ∧ p < e ∧ e ≤ len ∧ (∀ j, p ≤ j → j < e → 0 ≤ dg pd len j) ∧ ((e = len ∧ l = []) ∨ (e + 1 < len ∧ pd e = 44 ∧ TL pd len l (e + 1)))
theorem TL_len : ∀ (l : List Int) (p : Nat), TL pd len l p → l.length + p ≤ len ∧ p < len := by
  intro l
  induction l with
  | nil => intro p h; exact h.elim
  | cons x l ih =>
    intro p h
    obtain ⟨h1, h2, e, h3, h4, h5, h6, h7⟩ := h
    rw [List.length_cons]
    rcases h7 with ⟨a, b⟩ | ⟨a, b, c⟩
    · rw [b, List.length_nil]; omega
    · have := ih (e + 1) c; omega
theorem TL_is (h4 : ∀ j, j < len → 33 ≤ pd j ∧ pd j ≤ 126) : ∀ (k p : Nat), len - p = k → p ≤ len → RT pd len 0 p = -4 → ∃ l, TL pd len l p := by
  intro k
  induction k using Nat.strongRecOn with
  | _ k ih =>
    intro p hk hp hf
    have hb := nE_b (pd := pd) (len := len) (p := p) (l := 0) (m := 35)
    have hle := nE_le (pd := pd) (len := len) (p := p) (l := 0) (m := 35) hp (by decide)
    have hdg : ∀ j : Nat, 0 ≤ nE pd len p 0 35 → p ≤ j → (j : Int) < nE pd len p 0 35 → 0 ≤ dg pd len j := fun j h0 a b => nE_dig (pd := pd) (len := len) (p := p) (l := 0) (m := 35) (by decide) h0 a b
    have hval := NV_nE (pd := pd) (len := len) (p := p) (l := 0) (m := 35) (Or.inl rfl) (by decide)
    rw [RT_0 h4 hp] at hf
    obtain ⟨z, hz⟩ : ∃ z, z = nE pd len p 0 35 := ⟨_, rfl⟩
    rw [← hz] at hf hb hle hval hdg
    by_cases q : z < 0
    · rw [if_pos q] at hf; omega
    · rw [if_neg q] at hf
      obtain ⟨e, he⟩ : ∃ e : Nat, z = (e : Int) := ⟨z.toNat, by omega⟩
      rw [he, Int.toNat_natCast] at hval
      rw [he, Int.toNat_natCast, RT_1 h4 (by omega)] at hf
      by_cases q2 : e = len
      · have hv := hval (by omega) (by rw [dg_out (by omega)])
        exact ⟨[NV pd len 0 p], rfl, ⟨hv.1, hv.2.1⟩, e, by omega, by omega, by omega, fun j a b => hdg j (by omega) a (by omega), Or.inl ⟨q2, rfl⟩⟩
      · rw [if_neg q2] at hf
        by_cases q3 : pd e = 44
        · rw [if_pos q3] at hf
          have hv := hval (by omega) (by rw [dg_in (by omega), if_neg (by omega)])
          have ne : e + 1 ≠ len := fun w => by
            rw [w, RT_end, f95s.1, if_pos rfl] at hf; omega
          obtain ⟨l, hl⟩ := ih (len - (e + 1)) (by omega) (e + 1) rfl (by omega) hf
          exact ⟨NV pd len 0 p :: l, rfl, ⟨hv.1, hv.2.1⟩, e, by omega, by omega, by omega, fun j a b => hdg j (by omega) a (by omega), Or.inr ⟨by omega, q3, hl⟩⟩
        · rw [if_neg q3] at hf; omega
abbrev tB : Int × Int × xM → Option ((Int × Int × xM) ⊕ (Int × xM)) := fun s => f_52_L4b s.1 s.2.1 s.2.2
theorem tb_end (h : PC M pd len) {v : Int} {p : Nat} (hp : len ≤ p ∧ p ≤ 61) : f_52_L4b v (p : Int) M = some (Sum.inr (v, M)) := by
  have h3 := h.2.2.1
  unfold f_52_L4b
  rw [h.1, wri (len : Int) (by omega) (by omega), wri (p : Int) (by omega) (by omega), if_pos (by omega)]
theorem tb_skip (h : PC M pd len) {v : Int} {p : Nat} (hp : p < len) (h0 : 1 ≤ p) (hs : pd (p - 1) ≠ 44) : f_52_L4b v (p : Int) M = some (Sum.inl (v, (p : Int) + 1, M)) := by
  have h3 := h.2.2.1
  have b := h.2.2.2 (p - 1) (by omega)
  have e := c_47 h (show p - 1 < 1000 by omega)
  rw [if_pos (by omega), show ((p - 1 : Nat) : Int) = (p : Int) - 1 by omega] at e
  unfold f_52_L4b f_52_L33
  rw [h.1, wri (len : Int) (by omega) (by omega), wri (p : Int) (by omega) (by omega), if_neg (by omega), if_neg (by omega), e, Option.bind_some, wri (pd (p - 1)) (by omega) (by omega), if_neg hs, if_pos wr0]
theorem tb_num (h : PC M pd len) {v p : Nat} (hp : p < len) (hv : v ≤ p) (hs : p = 0 ∨ pd (p - 1) = 44) : f_52_L4b (v : Int) (p : Int) M = some (Sum.inl ((v : Int) + 1, (p : Int) + 1, xset M 181 v (NV pd len 0 p))) := by
  have h3 := h.2.2.1
  have e50 := c_50 h (show p ≤ len by omega)
  have L : f_52_L28 M (v : Int) (p : Int) = some (Sum.inl ((v : Int) + 1, (p : Int) + 1, xset M 181 v (NV pd len 0 p))) := by
    unfold f_52_L28 f_52_L33
    rw [w_small.1, if_neg (by decide), wri (v : Int) (by omega) (by omega), if_neg (by omega), e50, Option.bind_some, gd_pos (by omega), bnd_def, Int.toNat_natCast]
  unfold f_52_L4b
  rw [h.1, wri (len : Int) (by omega) (by omega), wri (p : Int) (by omega) (by omega), if_neg (by omega)]
  by_cases q : p = 0
  · rw [if_pos (by omega)]; exact L
  · have b := h.2.2.2 (p - 1) (by omega)
    have hs' : pd (p - 1) = 44 := by omega
    have e := c_47 h (show p - 1 < 1000 by omega)
    rw [if_pos (by omega), show ((p - 1 : Nat) : Int) = (p : Int) - 1 by omega] at e
    rw [if_neg (by omega), e, Option.bind_some, wri (pd (p - 1)) (by omega) (by omega), if_pos hs']
    exact L
theorem t_skips (h : PC M pd len) {v : Int} : ∀ (d j f : Nat), 1 ≤ j → j + d ≤ len → (∀ i, j ≤ i → i < j + d → pd (i - 1) ≠ 44) → loop (f + d) tB (v, (j : Int), M) = loop f tB (v, ((j + d : Nat) : Int), M) := by
  intro d
  induction d with
  | zero => intro j f h1 h2 _; rfl
  | succ d ih =>
    intro j f h1 h2 hm
    have b := tb_skip h (v := v) (p := j) (by omega) h1 (hm j (by omega) (by omega))
    have := ih (j + 1) f (by omega) (by omega) (fun i a b => hm i (by omega) (by omega))
    rw [show ((j + 1 : Nat) : Int) = (j : Int) + 1 by omega, show ((j + 1 + d : Nat) : Int) = ((j + (d + 1) : Nat) : Int) by omega] at this
    exact (lpI (b := tB) (s := (v, (j : Int), M)) (s' := (v, (j : Int) + 1, M)) (F := f + d) b).trans this
theorem PC_181 (h : PC M pd len) {v : Nat} {x : Int} : PC (xset M 181 v x) pd len :=
  ⟨by rw [xset_r (by decide)]; exact h.1, fun j hj => by rw [xset_r (by decide)]; exact h.2.1 j hj, h.2.2⟩
theorem dg_n44 {j : Nat} (hd : 0 ≤ dg pd len j) : pd j ≠ 44 := by
  unfold dg at hd
  by_cases q : j < len ∧ 48 ≤ pd j ∧ pd j ≤ 57
  · omega
  · rw [if_neg q] at hd; omega
theorem c_52L : ∀ (l : List Int) (p : Nat), TL pd len l p → ∀ (v : Nat) (M : xM), PC M pd len → v ≤ p → (p = 0 ∨ pd (p - 1) = 44) → ∀ f, len - p < f → ∃ M', loop f tB ((v : Int), (p : Int), M) = some (((v + l.length : Nat) : Int), M') ∧ (∀ r, r ≠ 181 → M' r = M r) ∧ (∀ i, i < v → M' 181 i = M 181 i) ∧ ∀ i, i < l.length → M' 181 (v + i) = l.getD i 0 := by
  intro l
  induction l with
  | nil => intro p h; exact h.elim
  | cons x l ih =>
    intro p ht v M h hvp hs f hf
    obtain ⟨hx, hv, e, hn, h1, h2, hd, h7⟩ := ht
    obtain ⟨f, rfl⟩ : ∃ f', f = f' + 1 := ⟨f - 1, by omega⟩
    have b := tb_num h (show p < len by omega) hvp hs
    rw [← hx] at b
    have h' := PC_181 h (v := v) (x := x)
    rcases h7 with ⟨he, hl⟩ | ⟨he, hc, ht⟩
    · have sk := t_skips h' (v := (v : Int) + 1) (len - (p + 1)) (p + 1) (f - (len - (p + 1))) (by omega) (by omega) (fun i a c => dg_n44 (hd (i - 1) (by omega) (by omega)))
      rw [show f - (len - (p + 1)) + (len - (p + 1)) = f by omega, show ((p + 1 : Nat) : Int) = (p : Int) + 1 by omega, show p + 1 + (len - (p + 1)) = len by omega] at sk
      have en := tb_end h' (v := (v : Int) + 1) (p := len) (by have := h.2.2.1; omega)
      obtain ⟨g, hg⟩ : ∃ g, f - (len - (p + 1)) = g + 1 := ⟨f - (len - (p + 1)) - 1, by omega⟩
      rw [hg] at sk
      have L1 : loop (f + 1) tB ((v : Int), (p : Int), M) = some ((v : Int) + 1, xset M 181 v x) := (lpI (b := tB) (s := ((v : Int), (p : Int), M)) (s' := ((v : Int) + 1, (p : Int) + 1, xset M 181 v x)) (F := f) b).trans (sk.trans (lpO (b := tB) (s := ((v : Int) + 1, (len : Int), xset M 181 v x)) (F := g) en))
      subst hl
      refine ⟨_, L1, fun r hr => xset_ne hr, fun i hi => xset_j (by omega), fun i hi => ?_⟩
      have : i = 0 := by rw [List.length_singleton] at hi; omega
      subst this
      exact xset_eq
    · have sk := t_skips h' (v := (v : Int) + 1) (e - p) (p + 1) (f - (e - p)) (by omega) (by omega) (fun i a c => dg_n44 (hd (i - 1) (by omega) (by omega)))
      rw [show f - (e - p) + (e - p) = f by omega, show ((p + 1 : Nat) : Int) = (p : Int) + 1 by omega, show p + 1 + (e - p) = e + 1 by omega] at sk
      obtain ⟨M', k1, k2, k3, k4⟩ := ih (e + 1) ht (v + 1) (xset M 181 v x) h' (by omega) (Or.inr hc) (f - (e - p)) (by omega)
      rw [show ((v + 1 : Nat) : Int) = (v : Int) + 1 by omega] at k1
      have L1 : loop (f + 1) tB ((v : Int), (p : Int), M) = some (((v + 1 + l.length : Nat) : Int), M') := (lpI (b := tB) (s := ((v : Int), (p : Int), M)) (s' := ((v : Int) + 1, (p : Int) + 1, xset M 181 v x)) (F := f) b).trans (sk.trans k1)
      refine ⟨M', by rw [L1, List.length_cons, show v + 1 + l.length = v + (l.length + 1) by omega], fun r hr => (k2 r hr).trans (xset_ne hr), fun i hi => (k3 i (by omega)).trans (xset_j (by omega)), fun i hi => ?_⟩
      cases i with
      | zero => rw [Nat.add_zero, k3 v (by omega)]; exact xset_eq
      | succ i =>
        rw [List.length_cons] at hi
        have := k4 i (by omega)
        rw [show v + (i + 1) = v + 1 + i by omega, this]; rfl
end TN
