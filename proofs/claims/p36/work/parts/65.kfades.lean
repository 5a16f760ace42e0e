/-! P36, 6: the loop played until it is silent -/
section KF
variable {M A : xM} {T : Int} {P : Nat → xM} {n o : Nat} {S : xM} {sv : Int}
theorem loop_wf {σ ρ : Type} {b : σ → Option (σ ⊕ ρ)} (I : σ → Prop) (m : σ → Nat) (Q : ρ → Prop) (hs : ∀ s, I s → (∃ s', b s = some (.inl s') ∧ I s' ∧ m s' < m s) ∨ ∃ r, b s = some (.inr r) ∧ Q r) : ∀ (f : Nat) (s : σ), I s → m s < f → ∃ r, loop f b s = some r ∧ Q r
  | 0, s, _, h => by omega
  | f + 1, s, hI, h => by
    rcases hs s hI with ⟨s', e, i, l⟩ | ⟨r, e, q⟩
    · obtain ⟨r, e2, q⟩ := loop_wf I m Q hs f s' i (by omega)
      exact ⟨r, by show (b s).bind _ = _; rw [e]; exact e2, q⟩
    · exact ⟨r, by show (b s).bind _ = _; rw [e]; rfl, q⟩
theorem maxN_map {g : Int → Int} (g0 : g 0 = 0) (hm : ∀ a b, 0 ≤ a → a ≤ b → g a ≤ g b) {f : Nat → Int} : ∀ k : Nat, (∀ i, i < k → 0 ≤ f i) → maxN k (fun i => g (f i)) = g (maxN k f)
  | 0, _ => g0.symm
  | k + 1, h => by
    have ih := maxN_map g0 hm (f := f) k (fun i hi => h i (by omega))
    have h0 := maxN_0 (f := f) k
    have hk := h k (by omega)
    show (if maxN k (fun i => g (f i)) < g (f k) then g (f k) else maxN k (fun i => g (f i))) = g (if maxN k f < f k then f k else maxN k f)
    rw [ih]
    by_cases q : maxN k f < f k
    · rw [if_pos q]
      have := hm _ _ h0 (Int.le_of_lt q)
      by_cases q2 : g (maxN k f) < g (f k)
      · rw [if_pos q2]
      · rw [if_neg q2]; omega
    · rw [if_neg q]
      have := hm _ _ hk (Int.not_lt.mp q)
      rw [if_neg (by omega)]
theorem gAll_map {B D : xM} {g : Int → Int} (g0 : g 0 = 0) (hm : ∀ a b, 0 ≤ a → a ≤ b → g a ≤ g b) (hX : WX T B) (s7 : D 0 7 = B 0 7) (s2 : D 0 2 = B 0 2) (s14 : ∀ i : Nat, i < 6 → D 0 (14 + i) = B 0 (14 + i) ∧ D 0 (20 + i) = B 0 (20 + i)) (hr : ∀ i x : Nat, (i : Int) < B 0 7 → x < 36 * (B 0 (14 + i)).toNat → D (i + 1) x = g (B (i + 1) x)) : gAll D = g (gAll B) := by
  have hW := hX.1
  have h7 := hW.1.2.2.2.2.2.1
  unfold gAll
  rw [s7, maxN_c (g := fun i => g (gHe B i)) _ (fun i hi => ?_)]
  · exact maxN_map g0 hm _ (fun i hi => (gHe_b hX (by omega)).1)
  · obtain ⟨e1, e2⟩ := s14 i (by omega)
    have hlen := WF_len hW (i := i) (by omega) (by omega) (by omega)
    show gHe D i = g (gHe B i)
    unfold gHe
    rw [e1, maxN_c (g := fun x => g (aAdd B i (x / 36) (x % 36))) _ (fun x hx => ?_)]
    · exact maxN_map g0 hm _ (fun x _ => (aAdd_b hW (by omega)).1)
    · show aAdd D i (x / 36) (x % 36) = g (aAdd B i (x / 36) (x % 36))
      unfold aAdd kup
      rw [s2, e1, e2, Nat.mod_eq_of_lt (show x / 36 < (B 0 (14 + i)).toNat by omega)]
      by_cases q : B 0 (20 + i) = 0 ∧ x % 36 + 12 * (B 0 2).toNat < 36
      · rw [if_pos q, if_pos q, hr i _ (by omega) (by omega)]
      · rw [if_neg q, if_neg q, g0]
theorem fdd_z {fd g : Int} {p : Nat} (h : fdd fd p g = 0) : ∀ j : Nat, fdd fd (p + j) g = 0
  | 0 => h
  | j + 1 => by
    show fdd fd (p + j) g * (100 - fd) / 100 = 0
    rw [fdd_z h j, Int.zero_mul]; rfl
/-- one tick of a loop that plays -/
theorem loop2 {B : xM} (hX : WX T B) (h2 : B 0 0 = 2) : ((aLoop B).1 = 0 ∨ (aLoop B).1 = 1) ∧ (∀ k, k < 26 → k ≠ 1 → k ≠ 9 → k ≠ 10 → (aLoop B).2 0 k = B 0 k) ∧ (aLoop B).2 0 1 = B 0 1 + aBy B - (aLoop B).1 * (2 * aLen B (B 0 7).toNat) ∧ gAll (aLoop B).2 = fdd (B 0 5) (aLoop B).1.toNat (gAll B) := by
  have hW := hX.1
  have h7 := hW.1.2.2.2.2.2.1
  have h5 := hW.1.2.2.2.2.1
  have hA : ∀ k, k ≠ 1 → k ≠ 10 → aMove B 0 k = B 0 k := fun k h1 h10 => by unfold aMove; rw [xset_j h10, xset_j h1]
  have hr : ∀ l x, aMove B (l + 1) x = B (l + 1) x := fun l x => by unfold aMove; rw [xset_r (by omega), xset_r (by omega)]
  have e1 : aMove B 0 1 = B 0 1 + aBy B := by unfold aMove; rw [xset_j (by decide), xset_eq]
  have hlen : aLen (aMove B) ((aMove B) 0 7).toNat = aLen B (B 0 7).toNat := by
    rw [hA 7 (by decide) (by decide)]
    exact aLen_c (fun i hi => hA _ (by omega) (by omega))
  unfold aLoop
  by_cases q : 2 * aLen (aMove B) ((aMove B) 0 7).toNat ≤ (aMove B) 0 1
  · rw [if_pos q]
    dsimp only
    have hs : ∀ k, k < 26 → k ≠ 1 → k ≠ 9 → k ≠ 10 → aTurn (aMove B) 0 k = B 0 k := fun k hk h1 h9 h10 => by
      unfold aTurn
      rw [aFade_sc hk, xset_j h9, xset_j h1, hA k h1 h10]
    refine ⟨Or.inr rfl, hs, ?_, ?_⟩
    · unfold aTurn
      rw [aFade_sc (by decide), xset_j (by decide), xset_eq, hlen, e1, Int.one_mul]
    · show gAll (aTurn (aMove B)) = gAll B * (100 - B 0 5) / 100
      refine gAll_map (g := fun z => z * (100 - B 0 5) / 100) (by show 0 * (100 - B 0 5) / 100 = 0; rw [Int.zero_mul]; rfl) (fun a b ha hab => ?_) hX (hs 7 (by decide) (by decide) (by decide) (by decide)) (hs 2 (by decide) (by decide) (by decide) (by decide)) (fun i hi => ⟨hs _ (by omega) (by omega) (by omega) (by omega), hs _ (by omega) (by omega) (by omega) (by omega)⟩) (fun i x hi hx => ?_)
      · have : a * (100 - B 0 5) ≤ b * (100 - B 0 5) := Int.mul_le_mul_of_nonneg_right hab (by omega)
        show a * (100 - B 0 5) / 100 ≤ b * (100 - B 0 5) / 100
        omega
      · obtain ⟨C, hC⟩ : ∃ C, C = xset (xset (aMove B) 0 1 ((aMove B) 0 1 - 2 * aLen (aMove B) ((aMove B) 0 7).toNat)) 0 9 ((aMove B) 0 9 + 1) := ⟨_, rfl⟩
        have c0 : ∀ k, k ≠ 1 → k ≠ 9 → k ≠ 10 → C 0 k = B 0 k := fun k x1 x9 x10 => by rw [hC, xset_j x9, xset_j x1, hA k x1 x10]
        have cr : ∀ l y, C (l + 1) y = B (l + 1) y := fun l y => by rw [hC, xset_r (by omega), xset_r (by omega), hr]
        unfold aTurn
        rw [← hC, aFade_row (by omega), c0 7 (by decide) (by decide) (by decide), c0 (14 + i) (by omega) (by omega) (by omega), c0 5 (by decide) (by decide) (by decide), cr, if_pos ⟨by omega, hx⟩]
  · rw [if_neg q]
    dsimp only
    refine ⟨Or.inl rfl, fun k _ x1 _ x10 => hA k x1 x10, ?_, ?_⟩
    · rw [e1, Int.zero_mul, Int.sub_zero]
    · show gAll (aMove B) = gAll B
      exact gAll_map (g := fun z => z) rfl (fun a b _ h => h) hX (hA 7 (by decide) (by decide)) (hA 2 (by decide) (by decide)) (fun i hi => ⟨hA _ (by omega) (by omega), hA _ (by omega) (by omega)⟩) (fun i x _ _ => hr i x)
theorem k_silent0 (hR : RC M 2 A) (h0 : A 0 7 = 0) : f_125 M = some (-2) := by
  have e5 : M 2 5 = A 0 7 := hR.1.2.2.1
  unfold f_125
  rw [e5, h0, if_pos wr0]
/-- along the ticks -/
def FI (T : Int) (A : xM) (s : Int × Int × xM) : Prop := ∃ (q j : Nat) (B : xM) (P : Nat → xM) (n o : Nat), s.1 = (q : Int) ∧ s.2.1 = (j : Int) ∧ q ≤ 3 ∧ j ≤ 396 ∧ KX (T + 6100 * (j : Int)) s.2.2 B P n o A 1 ∧ (∀ k, k < 26 → k ≠ 1 → k ≠ 9 → k ≠ 10 → B 0 k = A 0 k) ∧ gAll B = fdd (A 0 5) q (gAll A) ∧ B 0 1 + (q : Int) * (2 * aLen A (A 0 7).toNat) = A 0 1 + (j : Int) * aBy A
theorem p_fadeE (h : KX T M A P n o S sv) {r : Int} (hr : isSil A r) (hm : A 0 0 = 2) {s : Int × Int × xM} (hs : FI T A s) (h3 : s.1 = 3) : ∃ M', f_308_L106 s.2.2 r (aLen A (A 0 7).toNat) 2 s.1 = some (1, M') ∧ KXe (T + 6100 * 396) M' := by
  obtain ⟨q, j, B, P', n', o', e1, e2, q3, hj, hK, -⟩ := hs
  have hX := h.2.2.1
  have hmode := (hX.1.2.1.2.1 (by omega)).1
  obtain ⟨x, k1, k2⟩ := k_restore hK
  obtain ⟨_, k3, k4⟩ : (0 : Int) = 0 ∧ x.1 = A 0 0 ∧ KX (T + 6100 * (j : Int)) x.2 A (pushP P' n' B) (pushN n') (pushO o' n') A 1 := by
    rcases k2 with ⟨w, _⟩ | w
    · omega
    · exact w
  obtain ⟨r', a1, a2⟩ := k_silent k4.1 hX (by omega)
  have er := isSil_one a2 hr
  refine ⟨x.2, ?_, KXe_mono ⟨_, _, _, _, _, _, k4⟩ (by omega)⟩
  unfold f_308_L106
  rw [if_pos (by decide +kernel), h3, if_pos (by decide +kernel), k1, Option.bind_some, k3, hm, if_pos (by decide +kernel), a1, Option.bind_some, er, if_pos rfl, k_c1 k4.1 hX, Option.bind_some, if_pos rfl]
theorem p_fades (h : KX T M A P n o S sv) : ∃ M', f_308 M = some (1, M') ∧ KXe (T + 6100 * 396) M' := by
  have hR := h.1
  have hX := h.2.2.1
  have hW := hX.1
  have h7 := hW.1.2.2.2.2.2.1
  have hm := hW.1.1
  have same : ∃ M', some ((1 : Int), M) = some (1, M') ∧ KXe (T + 6100 * 396) M' := ⟨M, rfl, KXe_mono ⟨_, _, _, _, _, _, h⟩ (by omega)⟩
  unfold f_308
  by_cases z : A 0 7 = 0
  · have hm2 : A 0 0 ≠ 2 := fun w => by have := (hW.2.1.2.1 (by omega)).1; omega
    rw [k_silent0 hR z, Option.bind_some, k_c1 hR hX, Option.bind_some, k_c0 hR, Option.bind_some, wri (A 0 0) (by omega) (by omega), if_neg hm2]
    exact same
  obtain ⟨r, hr1, hr⟩ := k_silent hR hX z
  have hrb : -4 ≤ r ∧ r ≤ 99 := by
    rcases hr with ⟨e, _⟩ | ⟨p, e, h1, _⟩ <;> omega
  rw [hr1, Option.bind_some, k_c1 hR hX, Option.bind_some, k_c0 hR, Option.bind_some, wri (A 0 0) (by omega) (by omega)]
  by_cases hm2' : ¬ A 0 0 = 2
  · rw [if_neg hm2']; exact same
  have hm2 : A 0 0 = 2 := Decidable.not_not.mp hm2'
  rw [if_pos hm2, wri r (by omega) (by omega)]
  by_cases r0 : r = 0
  · rw [if_pos r0]; exact same
  rw [if_neg r0]
  by_cases r3' : ¬ r ≤ 3
  · rw [if_neg r3']; exact same
  have r3 : r ≤ 3 := Decidable.not_not.mp r3'
  rw [if_pos r3]
  obtain ⟨X, s1, s2⟩ := k_save h
  rw [s1, Option.bind_some, hm2]
  have hl := len_pos hX z
  obtain ⟨L, hL⟩ : ∃ L, L = aLen A (A 0 7).toNat := ⟨_, rfl⟩
  have hpl := (hW.2.1.2.1 (by omega)).2
  have hpl0 := hW.1.2.2.2.2.2.2.2.2.2.2.2
  have hby : aBy A = 1 ∨ aBy A = 2 := by
    have := hW.1.2.1
    unfold aBy; omega
  unfold f_308_L42
  have key := loop_wf (b := fun s => f_308_L42b r (aLen A (A 0 7).toNat) 2 s.1 s.2.1 s.2.2) (FI T A) (fun s => 400 - s.2.1.toNat) (fun x => x.1 = 1 ∧ KXe (T + 6100 * 396) x.2) (fun s hs => ?_) NF ((0 : Int), (0 : Int), X) ?_ (by show 400 - (0 : Int).toNat < 1000000; omega)
  · obtain ⟨x, e1, e2, e3⟩ := key
    obtain ⟨u, M'⟩ := x
    dsimp only at e2 e3
    subst e2
    exact ⟨M', e1, e3⟩
  · -- one tick
    have hs0 := hs
    obtain ⟨q, j, B, P', n', o', e1, e2, q3, hj, hK, sc, hg, hp⟩ := hs
    obtain ⟨v4, v5, Y⟩ := s
    dsimp only at e1 e2 hK
    subst e1 e2
    by_cases qq : q = 3
    · right
      obtain ⟨M', f1, f2⟩ := p_fadeE h hr hm2 hs0 (by show (q : Int) = 3; omega)
      refine ⟨(1, M'), ?_, rfl, f2⟩
      show f_308_L42b r (aLen A (A 0 7).toNat) 2 (q : Int) (j : Int) Y = _
      unfold f_308_L42b
      have f1 : f_308_L106 Y r (aLen A (A 0 7).toNat) 2 (q : Int) = some (1, M') := f1
      rw [f1, Option.bind_some, wri (j : Int) (by omega) (by omega), wri (q : Int) (by omega) (by omega)]
      by_cases w : 396 ≤ (j : Int)
      · rw [if_pos w]
      · rw [if_neg w, if_pos (by omega)]
    · left
      have hXB := hK.2.2.1
      have b0 := sc 0 (by decide) (by decide) (by decide) (by decide)
      have b2 := sc 2 (by decide) (by decide) (by decide) (by decide)
      have b5 := sc 5 (by decide) (by decide) (by decide) (by decide)
      have b7 := sc 7 (by decide) (by decide) (by decide) (by decide)
      have bL : aLen B (B 0 7).toNat = L := by
        rw [b7, hL]
        exact aLen_c (fun i hi => sc _ (by omega) (by omega) (by omega) (by omega))
      have hplB := (hXB.1.2.1.2.1 (by omega)).2
      have hplB0 := hXB.1.1.2.2.2.2.2.2.2.2.2.2.2
      rw [bL] at hplB
      rw [← hL] at hp hl
      have hjb : (j : Int) < 300 := by
        have hq : q = 0 ∨ q = 1 ∨ q = 2 := by omega
        rcases hby with y | y <;> rw [y] at hp <;> rcases hq with y2 | y2 | y2 <;> subst y2 <;> omega
      obtain ⟨x, k1, k2⟩ := k_pass hK (t := 1) (by decide)
      obtain ⟨l1, l2, l3, l4⟩ := loop2 hXB (by omega)
      have ep : aPass (Int.toNat 1) B = (0 + (aLoop B).1, (aLoop B).2) := by
        show (0 + (aTick B).1, (aTick B).2) = _
        rw [aTick_2 (by omega)]
      rw [ep] at k2
      have hby2 : aBy B = aBy A := by unfold aBy; rw [b2]
      obtain ⟨_, k3, k4⟩ : whyPass 1 = 0 ∧ x.1 = 0 + (aLoop B).1 ∧ KX (T + 6100 * (j : Int) + 6100) x.2 (aLoop B).2 (pushP P' n' B) (pushN n') (pushO o' n') A 1 := by
        rcases k2 with ⟨w, _⟩ | w
        · exact absurd w (by decide)
        · exact w
      obtain ⟨D, hD⟩ : ∃ D, D = (aLoop B).2 := ⟨_, rfl⟩
      obtain ⟨t, ht⟩ : ∃ t : Nat, (aLoop B).1 = (t : Int) := ⟨(aLoop B).1.toNat, by omega⟩
      rw [← hD] at k4 l2 l3 l4
      rw [ht] at k3 l1 l3 l4
      rw [bL, hby2] at l3
      rw [Int.toNat_natCast, b5, hg] at l4
      have hXD := k4.2.2.1
      have d7 : D 0 7 = A 0 7 := (l2 7 (by decide) (by decide) (by decide) (by decide)).trans b7
      obtain ⟨Z, m1, m2⟩ := k_loud k4.1 hXD (by rw [d7]; exact z)
      have h4 : fnd 4 (aSum D (D 0 7).toNat) (aLen D (D 0 7).toNat).toNat = -4 ↔ gAll D = 0 := by
        rw [fnd4_q]
        exact quiet hXD (by have := hXD.1.1.2.2.2.2.2.1; omega)
      have hfb := fnd_b (R := aSum D (D 0 7).toNat) (w := 4) (aLen D (D 0 7).toNat).toNat
      have hDl := aLen_b hXD.1 (n := (D 0 7).toNat) (by have := hXD.1.1.2.2.2.2.2.1; omega)
      have hqt : fdd (A 0 5) t (fdd (A 0 5) q (gAll A)) = fdd (A 0 5) (q + t) (gAll A) := by
        rcases l1 with y | y
        · have y : t = 0 := by omega
          subst y; rfl
        · have y : t = 1 := by omega
          subst y; rfl
      rw [hqt] at l4
      have hfI : FI T A (((q + t : Nat) : Int), ((j + 1 : Nat) : Int), Z) := by
        refine ⟨q + t, j + 1, D, pushP P' n' B, pushN n', pushO o' n', rfl, rfl, by omega, by omega, ?_, fun k a b c d => (l2 k a b c d).trans (sc k a b c d), l4, ?_⟩
        · have := KX_EF m2 k4
          exact KX_mono this (by omega)
        · rw [← hL]
          have hq : q = 0 ∨ q = 1 ∨ q = 2 := by omega
          have htt : t = 0 ∨ t = 1 := by omega
          rcases hby with y | y <;> rw [y] at hp l3 ⊢ <;> rcases hq with y2 | y2 | y2 <;> subst y2 <;> rcases htt with y3 | y3 <;> subst y3 <;> omega
      refine ⟨(((q + t : Nat) : Int), ((j + 1 : Nat) : Int), Z), ?_, hfI, by show 400 - ((j + 1 : Nat) : Int).toNat < 400 - (j : Int).toNat; omega⟩
      show f_308_L42b r (aLen A (A 0 7).toNat) 2 (q : Int) (j : Int) Y = _
      unfold f_308_L42b
      rw [wri (j : Int) (by omega) (by omega), if_neg (by omega), wri (q : Int) (by omega) (by omega), if_neg (by omega), k1, Option.bind_some, m1, Option.bind_some, k3, wri _ (by omega) (by omega), show (q : Int) + (0 + (t : Int)) = ((q + t : Nat) : Int) by omega]
      have done1 : some (Sum.inl (((q + t : Nat) : Int), (j : Int) + 1, Z)) = (some (Sum.inl (((q + t : Nat) : Int), ((j + 1 : Nat) : Int), Z)) : Option ((Int × Int × xM) ⊕ (Int × xM))) := rfl
      have fz : fdd (A 0 5) (q + t) (gAll A) = 0 ↔ (0 < r ∧ r ≤ ((q + t : Nat) : Int)) := by
        rcases hr with ⟨e, hn⟩ | ⟨p, e, p1, p2, p3⟩
        · constructor
          · intro w; exact absurd w (hn (q + t) (by omega))
          · intro w; omega
        · constructor
          · intro w
            refine ⟨by omega, ?_⟩
            rcases Nat.lt_or_ge (q + t) p with y | y
            · exact absurd w (p3 _ y)
            · omega
          · intro w
            have := fdd_z p2 (q + t - p)
            rw [show p + (q + t - p) = q + t by omega] at this
            exact this
      rw [l4, fz] at h4
      unfold f_308_L80
      rw [wri r (by omega) (by omega), wri ((q + t : Nat) : Int) (by omega) (by omega)]
      by_cases c4 : fnd 4 (aSum D (D 0 7).toNat) (aLen D (D 0 7).toNat).toNat = -4
      · have w := h4.mp c4
        rw [if_pos c4, if_neg (show ¬ r ≤ 0 by omega), if_neg (show ¬ ((q + t : Nat) : Int) < r by omega), if_pos (by decide +kernel)]; rfl
      · have w : ¬ (0 < r ∧ r ≤ ((q + t : Nat) : Int)) := fun y => c4 (h4.mpr y)
        rw [if_neg c4]
        by_cases y : r ≤ 0
        · rw [if_pos y, if_pos wr0]; rfl
        · rw [if_neg y, if_pos (show ((q + t : Nat) : Int) < r by omega), if_pos wr0]; rfl
  · refine ⟨0, 0, A, P, n, o, rfl, rfl, by decide, by decide, ?_, fun k _ _ _ _ => rfl, rfl, ?_⟩
    · exact KX_mono s2 (by omega)
    · show A 0 1 + ((0 : Nat) : Int) * _ = A 0 1 + ((0 : Nat) : Int) * _
      rw [show ((0 : Nat) : Int) = 0 from rfl, Int.zero_mul, Int.zero_mul]
end KF
