/-! MEANING, 1: numbers, loops, sums -/
theorem wri (z : Int) (h1 : -2147483648 ≤ z) (h2 : z < 2147483648) : wr z = z := wr_id h1 h2
theorem wli (z : Int) (h1 : -9223372036854775808 ≤ z) (h2 : z < 9223372036854775808) : wl z = z := wl_id h1 h2
theorem loop_st {σ ρ : Type} {b : σ → Option (σ ⊕ ρ)} (st : Nat → σ) {r : ρ} : ∀ (n k : Nat), (∀ i, i < n → b (st (k + i)) = some (.inl (st (k + i + 1)))) → b (st (k + n)) = some (.inr r) → ∀ f, n < f → loop f b (st k) = some r
  | 0, k, _, he, f, hf => by
    cases f with
    | zero => omega
    | succ f =>
      show (b (st k)).bind _ = _
      rw [show st k = st (k + 0) from rfl, he]; rfl
  | n + 1, k, hs, he, f, hf => by
    cases f with
    | zero => omega
    | succ f =>
      show (b (st k)).bind _ = _
      have h0 := hs 0 (by omega)
      rw [show st (k + 0) = st k from rfl] at h0
      rw [h0]
      show loop f b (st (k + 0 + 1)) = some r
      refine loop_st st n (k + 1) (fun i hi => ?_) ?_ f (by omega)
      · have := hs (i + 1) (by omega)
        rw [show k + (i + 1) = k + 1 + i by omega] at this
        exact this
      · rw [show k + 1 + n = k + (n + 1) by omega]; exact he
/-- a loop whose states are known -/
theorem loop_to {σ ρ : Type} {b : σ → Option (σ ⊕ ρ)} (st : Nat → σ) (n : Nat) {r : ρ} (hs : ∀ i, i < n → b (st i) = some (.inl (st (i + 1)))) (he : b (st n) = some (.inr r)) (hn : n < NF) : loop NF b (st 0) = some r :=
  loop_st st n 0 (fun i hi => by rw [Nat.zero_add]; exact hs i hi) (by rw [Nat.zero_add]; exact he) NF hn
theorem loop_iv {σ ρ : Type} {b : σ → Option (σ ⊕ ρ)} (I : Nat → σ → Prop) {Q : ρ → Prop} (n : Nat) (hs : ∀ i s, i < n → I i s → ∃ s', b s = some (.inl s') ∧ I (i + 1) s') (he : ∀ s, I n s → ∃ r, b s = some (.inr r) ∧ Q r) : ∀ (j i f : Nat) (s : σ), i + j = n → j < f → I i s → ∃ r, loop f b s = some r ∧ Q r
  | 0, i, f, s, hi, hf, h => by
    cases f with
    | zero => omega
    | succ f =>
      obtain ⟨r, h1, h2⟩ := he s (by rw [← hi]; exact h)
      exact ⟨r, by show (b s).bind _ = _; rw [h1]; rfl, h2⟩
  | j + 1, i, f, s, hi, hf, h => by
    cases f with
    | zero => omega
    | succ f =>
      obtain ⟨s', h1, h2⟩ := hs i s (by omega) h
      obtain ⟨r, h3, h4⟩ := loop_iv I n hs he j (i + 1) f s' (by omega) (by omega) h2
      exact ⟨r, by show (b s).bind _ = _; rw [h1]; exact h3, h4⟩
/-- a loop with an invariant -/
theorem loop_inv {σ ρ : Type} {b : σ → Option (σ ⊕ ρ)} {s : σ} (I : Nat → σ → Prop) {Q : ρ → Prop} (n : Nat) (h0 : I 0 s) (hs : ∀ i s, i < n → I i s → ∃ s', b s = some (.inl s') ∧ I (i + 1) s') (he : ∀ s, I n s → ∃ r, b s = some (.inr r) ∧ Q r) (hn : n < NF) : ∃ r, loop NF b s = some r ∧ Q r :=
  loop_iv I n hs he n 0 NF s (by omega) hn h0
/-- sums -/
def sumN : Nat → (Nat → Int) → Int
  | 0, _ => 0
  | n + 1, f => sumN n f + f n
theorem sumN_b {f : Nat → Int} {lo hi : Int} : ∀ (n : Nat), (∀ i, i < n → lo ≤ f i ∧ f i ≤ hi) → lo * n ≤ sumN n f ∧ sumN n f ≤ hi * n
  | 0, _ => by simp [sumN]
  | n + 1, h => by
    have h1 := sumN_b n (fun i hi => h i (by omega))
    have h2 := h n (by omega)
    unfold sumN
    have e1 : lo * ((n + 1 : Nat) : Int) = lo * n + lo := by rw [Int.natCast_succ, Int.mul_add, Int.mul_one]
    have e2 : hi * ((n + 1 : Nat) : Int) = hi * n + hi := by rw [Int.natCast_succ, Int.mul_add, Int.mul_one]
    omega
theorem sumN_c {f g : Nat → Int} : ∀ (n : Nat), (∀ i, i < n → f i = g i) → sumN n f = sumN n g
  | 0, _ => rfl
  | n + 1, h => by unfold sumN; rw [sumN_c n (fun i hi => h i (by omega)), h n (by omega)]
theorem sumN_0 {f : Nat → Int} : ∀ (n : Nat), (∀ i, i < n → f i = 0) → sumN n f = 0
  | 0, _ => rfl
  | n + 1, h => by unfold sumN; rw [sumN_0 n (fun i hi => h i (by omega)), h n (by omega)]; rfl
theorem sumN_nn {f : Nat → Int} (n : Nat) (h : ∀ i, i < n → 0 ≤ f i) : 0 ≤ sumN n f := by
  induction n with
  | zero => exact Int.le_refl _
  | succ n ih => unfold sumN; have := ih (fun i hi => h i (by omega)); have := h n (by omega); omega
theorem sumN_pos {f : Nat → Int} (n : Nat) (h : ∀ i, i < n → 0 ≤ f i) (h0 : sumN n f = 0) : ∀ i, i < n → f i = 0 := by
  induction n with
  | zero => intro i hi; omega
  | succ n ih =>
    intro i hi
    unfold sumN at h0
    have h1 := sumN_nn n (fun i hi => h i (by omega))
    have h2 := h n (by omega)
    rcases Nat.lt_or_ge i n with q | q
    · exact ih (fun i hi => h i (by omega)) (by omega) i q
    · rw [show i = n by omega]; omega
/-- the greatest of some, from 0 on -/
def maxN : Nat → (Nat → Int) → Int
  | 0, _ => 0
  | n + 1, f => if maxN n f < f n then f n else maxN n f
theorem maxN_c {f g : Nat → Int} : ∀ (n : Nat), (∀ i, i < n → f i = g i) → maxN n f = maxN n g
  | 0, _ => rfl
  | n + 1, h => by unfold maxN; rw [maxN_c n (fun i hi => h i (by omega)), h n (by omega)]
theorem maxN_b {f : Nat → Int} {hi : Int} (h0 : 0 ≤ hi) : ∀ (n : Nat), (∀ i, i < n → f i ≤ hi) → 0 ≤ maxN n f ∧ maxN n f ≤ hi
  | 0, _ => by unfold maxN; omega
  | n + 1, h => by
    have h1 := maxN_b h0 n (fun i hi => h i (by omega))
    have h2 := h n (by omega)
    unfold maxN
    split <;> omega
theorem maxN_ge {f : Nat → Int} : ∀ (n : Nat) (i : Nat), i < n → f i ≤ maxN n f
  | 0, i, h => by omega
  | n + 1, i, h => by
    unfold maxN
    rcases Nat.lt_or_ge i n with q | q
    · have := maxN_ge (f := f) n i q
      split <;> omega
    · rw [show i = n by omega]
      split <;> omega
theorem maxN_is {f : Nat → Int} : ∀ (n : Nat), maxN n f = 0 ∨ ∃ i, i < n ∧ maxN n f = f i
  | 0 => Or.inl rfl
  | n + 1 => by
    unfold maxN
    split
    · exact Or.inr ⟨n, by omega, rfl⟩
    · rcases maxN_is (f := f) n with h | ⟨i, h1, h2⟩
      · exact Or.inl h
      · exact Or.inr ⟨i, by omega, h2⟩
/-- cells of the memory -/
theorem xset_eq {α : Type} {M : Nat → Nat → α} {r j : Nat} {v : α} : xset M r j v r j = v := by simp [xset]
theorem xset_r {α : Type} {M : Nat → Nat → α} {r j a b : Nat} {v : α} (h : a ≠ r) : xset M r j v a b = M a b := by simp [xset, h]
theorem xset_j {α : Type} {M : Nat → Nat → α} {r j a b : Nat} {v : α} (h : b ≠ j) : xset M r j v a b = M a b := by simp [xset, h]
theorem bnd_def {α β : Type} (x : α) (f : α → β) : bnd x f = f x := rfl
theorem gd_pos {α : Type} {c : Prop} [Decidable c] {k : Option α} (h : c) : gd c k = k := if_pos h
