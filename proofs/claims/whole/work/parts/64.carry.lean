/-! MEANING, 35: one order is carried out -/
section CA
variable {M A : xM} {T : Int} {pd : Nat → Int} {len : Nat}
theorem c_131 (h : PC M pd len) (hR : RC M 2 A) (hX : WX T A) {p : Nat} (hp : p < len) (hf : RO pd len 1 p = -4) : ∃ r good, f_131 M (p : Int) = some r ∧ (ordWhy A (pd p) (kA pd len p) (fA pd len p) = 0 → 0 ≤ good ∧ good < 2147483648) ∧ AN M 2 (ordWhy A (pd p) (kA pd len p) (fA pd len p)) good (ordDo A (pd p) (kA pd len p) (fA pd len p)) r := by
  have h4 := h.2.2.2
  have h3 := h.2.2.1
  have hl := ord_letter h4 hp hf
  have e47 := c_47 h (show p < 1000 by omega)
  rw [if_pos hp] at e47
  have w104 : wr 104 = 104 ∧ wr 112 = 112 ∧ wr 115 = 115 ∧ wr 116 = 116 ∧ wr 118 = 118 ∧ wr 120 = 120 ∧ wr 121 = 121 := by decide +kernel
  have h7 := hX.1.1.2.2.2.2.2.1
  have h2 := hX.1.1.2.1
  have ek : kA pd len p = NV pd len 0 (p + 1) := rfl
  rcases hl with c | c | c | c | c | c | c
  · obtain ⟨e1, g1, g2, g3, g4, g5, g6, g7⟩ := ord_104 h4 hp hf c
    have ef : fA pd len p = NV pd len 0 (e1 + 1) := by unfold fA; rw [g1, Int.toNat_natCast]
    have b1 := c_50 h (show p + 1 ≤ len by omega)
    have b2 := c_49 h (show p + 1 ≤ len by omega)
    have b3 := c_50 h (show e1 + 1 ≤ len by omega)
    rw [show ((p + 1 : Nat) : Int) = (p : Int) + 1 by omega] at b1 b2
    rw [show ((e1 + 1 : Nat) : Int) = (e1 : Int) + 1 by omega] at b3
    rw [g4] at b2
    obtain ⟨r, j1, j2⟩ := c_77 (b := 2) (by decide +kernel) hR hX (k := kA pd len p) (f := fA pd len p) (by omega) (by omega)
    refine ⟨r, aHitV A (kA pd len p) (fA pd len p), ?_, ?_, ?_⟩
    · unfold f_131
      rw [e47, Option.bind_some, c, w104.1, if_pos rfl, b1, Option.bind_some, b2, Option.bind_some, b3, Option.bind_some, ← ek, ← ef, j1, Option.bind_some]
    · unfold ordWhy; rw [if_pos c]; intro w; have := aHitV_b hX w; omega
    · unfold ordWhy ordDo; rw [if_pos c, if_pos c]; exact j2
  · obtain ⟨g1, g2, g3⟩ := ord_116 h4 hp hf c
    have b1 := c_50 h (show p + 1 ≤ len by omega)
    rw [show ((p + 1 : Nat) : Int) = (p : Int) + 1 by omega] at b1
    obtain ⟨r, j1, j2⟩ := c_79 (b := 2) (by decide +kernel) hR hX (t := kA pd len p) (by omega)
    have hw : whyPass (kA pd len p) = 0 := by unfold whyPass; rw [if_pos (by omega)]
    rw [hw] at j2
    refine ⟨r, (aPass (kA pd len p).toNat A).1, ?_, fun _ => (by have := pass_b (A := A) (kA pd len p).toNat; omega), ?_⟩
    · unfold f_131
      rw [e47, Option.bind_some, c, w104.2.2.2.1]
      iterate 12 rw [if_neg (by decide)]
      rw [if_pos rfl, b1, Option.bind_some, ← ek, j1, Option.bind_some]
    · have w1 : ordWhy A (pd p) (kA pd len p) (fA pd len p) = 0 := by
        unfold ordWhy; rw [c, if_neg (by decide), if_neg (by decide), if_neg (by decide), if_neg (by decide), if_neg (by decide)]
      have w2 : ordDo A (pd p) (kA pd len p) (fA pd len p) = (aPass (kA pd len p).toNat A).2 := by
        unfold ordDo; rw [c, if_neg (by decide), if_neg (by decide), if_neg (by decide), if_neg (by decide), if_neg (by decide), if_pos rfl]
      rw [w1, w2]; exact j2
  · obtain ⟨r, j1, j2⟩ := c_69 (b := 2) (by decide +kernel) hR hX
    refine ⟨r, aPress A 0 0, ?_, ?_, ?_⟩
    · unfold f_131
      rw [e47, Option.bind_some, c, w104.2.1]
      iterate 8 rw [if_neg (by decide)]
      rw [if_pos rfl, j1, Option.bind_some]
    · unfold ordWhy; rw [c, if_neg (by decide), if_pos rfl]; intro w
      have := (W_press hX w).1.1.1; omega
    · unfold ordWhy ordDo; rw [c, if_neg (by decide), if_pos rfl, if_neg (by decide), if_pos rfl]; exact j2
  · have j2 := c_75 (b := 2) hR hX
    refine ⟨f_75 M 2, aStop A 0 0, ?_, ?_, ?_⟩
    · unfold f_131
      rw [e47, Option.bind_some, c, w104.2.2.1]
      iterate 11 rw [if_neg (by decide)]
      rw [if_pos rfl, bnd_def]
    · unfold ordWhy; rw [c, if_neg (by decide), if_neg (by decide), if_pos rfl]; intro w
      have hg := W_stop hX (by unfold whyStop at w; by_cases q : A 0 0 = 0 ∨ A 0 0 = 4; rw [if_pos q] at w; omega; omega)
      have := hg.1.1.1; omega
    · unfold ordWhy ordDo; rw [c, if_neg (by decide), if_neg (by decide), if_pos rfl, if_neg (by decide), if_neg (by decide), if_pos rfl]; exact j2
  · have j2 := c_86 (b := 2) hR hX
    refine ⟨f_86 M 2, 1 - A 0 2, ?_, fun _ => by omega, ?_⟩
    · unfold f_131
      rw [e47, Option.bind_some, c, w104.2.2.2.2.1]
      iterate 14 rw [if_neg (by decide)]
      rw [if_pos rfl, bnd_def]
    · have w1 : ordWhy A (pd p) (kA pd len p) (fA pd len p) = 0 := by
        unfold ordWhy; rw [c, if_neg (by decide), if_neg (by decide), if_neg (by decide), if_neg (by decide), if_neg (by decide)]
      have w2 : ordDo A (pd p) (kA pd len p) (fA pd len p) = aSpeed A := by
        unfold ordDo; rw [c, if_neg (by decide), if_neg (by decide), if_neg (by decide), if_neg (by decide), if_neg (by decide), if_neg (by decide)]
      rw [w1, w2]; exact j2
  · obtain ⟨r, j1, j2⟩ := c_83 (b := 2) (by decide +kernel) hR hX
    refine ⟨r, A 0 7 - 1, ?_, ?_, ?_⟩
    · unfold f_131
      rw [e47, Option.bind_some, c, w104.2.2.2.2.2.1]
      iterate 16 rw [if_neg (by decide)]
      rw [if_pos rfl, j1, Option.bind_some]
    · unfold ordWhy; rw [c, if_neg (by decide), if_neg (by decide), if_neg (by decide), if_pos rfl]; intro w
      have := whyPeel_0 w; omega
    · unfold ordWhy ordDo; rw [c, if_neg (by decide), if_neg (by decide), if_neg (by decide), if_pos rfl, if_neg (by decide), if_neg (by decide), if_neg (by decide), if_pos rfl]; exact j2
  · have j2 := c_84 (b := 2) hR hX
    refine ⟨f_84 M 2, A 0 7 + 1, ?_, fun _ => by omega, ?_⟩
    · unfold f_131
      rw [e47, Option.bind_some, c, w104.2.2.2.2.2.2]
      iterate 17 rw [if_neg (by decide)]
      rw [if_pos rfl, bnd_def]
    · unfold ordWhy ordDo; rw [c, if_neg (by decide), if_neg (by decide), if_neg (by decide), if_neg (by decide), if_pos rfl, if_neg (by decide), if_neg (by decide), if_neg (by decide), if_neg (by decide), if_pos rfl]; exact j2
theorem m_189 (h : PM M pd len) (hA : inS M A 183 0) (hX : WX T A) {p : Nat} (hp : p < len) (hf : RO pd len 1 p = -4) : f_189 M (p : Int) = some (ordWhy A (pd p) (kA pd len p) (fA pd len p), if ordWhy A (pd p) (kA pd len p) (fA pd len p) = 0 then mS M (ordDo A (pd p) (kA pd len p) (fA pd len p)) else M) := by
  have h4 := h.2.2.2
  have h3 := h.2.2.1
  have hl := ord_letter h4 hp hf
  have e181 := m_181 h (show p < 1000 by omega)
  rw [if_pos hp] at e181
  have w104 : wr 104 = 104 ∧ wr 112 = 112 ∧ wr 115 = 115 ∧ wr 116 = 116 ∧ wr 118 = 118 ∧ wr 120 = 120 ∧ wr 121 = 121 := by decide +kernel
  have ek : kA pd len p = NV pd len 0 (p + 1) := rfl
  have hM : mS M A = M := inS_mS hA
  have b1 := m_184 h (show p + 1 < 800 by omega)
  rw [show ((p + 1 : Nat) : Int) = (p : Int) + 1 by omega, ← ek] at b1
  obtain ⟨W, hW⟩ : ∃ W, W = ordWhy A (pd p) (kA pd len p) (fA pd len p) := ⟨_, rfl⟩
  rw [← hW]
  have hWb : -3 ≤ W ∧ W ≤ 0 := by
    rw [hW]; unfold ordWhy whyHit whyPress whyStop whyPeel whyBack
    repeat' split
    all_goals omega
  have L127 : (W = 0 → ∃ x, f_190 M (p : Int) (kA pd len p) = some (x, mS M (ordDo A (pd p) (kA pd len p) (fA pd len p)))) → f_189_L127 M (p : Int) (kA pd len p) W = some (W, if W = 0 then mS M (ordDo A (pd p) (kA pd len p) (fA pd len p)) else M) := by
    intro k
    unfold f_189_L127
    rw [wri W (by omega) (by omega)]
    by_cases q : W = 0
    · obtain ⟨x, hx⟩ := k q
      rw [if_pos q, if_pos q, hx, Option.bind_some]
    · rw [if_neg q, if_neg q]
  unfold f_189
  rw [b1, Option.bind_some, e181, Option.bind_some]
  rcases hl with c | c | c | c | c | c | c
  · obtain ⟨e1, g1, g2, g3, g4, g5, g6, g7⟩ := ord_104 h4 hp hf c
    have ef : fA pd len p = NV pd len 0 (e1 + 1) := by unfold fA; rw [g1, Int.toNat_natCast]
    have b2 := m_183 h (p := p + 1) (by omega) (l := 0) (m := 99) (Or.inl rfl) (by decide)
    have b3 := m_184 h (show e1 + 1 < 800 by omega)
    rw [show ((p + 1 : Nat) : Int) = (p : Int) + 1 by omega, g1] at b2
    rw [show ((e1 + 1 : Nat) : Int) = (e1 : Int) + 1 by omega, ← ef] at b3
    have m163 := m_163 (M := M) hX (k := kA pd len p) (f := fA pd len p) (by omega) (by omega)
    rw [hM] at m163
    have eW : W = whyHit A (kA pd len p) (fA pd len p) := by rw [hW]; unfold ordWhy; rw [if_pos c]
    rw [c, w104.1, if_pos rfl, b2, Option.bind_some, b3, Option.bind_some, m163, Option.bind_some, ← eW, ← c]
    refine L127 fun w => ?_
    obtain ⟨q, t⟩ := whyHit_0 (eW ▸ w)
    have m164 := m_164 (M := M) hX t (k := kA pd len p) (f := fA pd len p) (by omega) (by omega)
    rw [hM] at m164
    have eD : ordDo A (pd p) (kA pd len p) (fA pd len p) = aHit A (kA pd len p) (fA pd len p) := by unfold ordDo; rw [if_pos c]
    rw [eD]
    unfold f_190
    rw [e181, Option.bind_some, c, w104.1, if_pos rfl, b2, Option.bind_some, b3, Option.bind_some, m164, Option.bind_some]
    exact ⟨_, rfl⟩
  · obtain ⟨g1, g2, g3⟩ := ord_116 h4 hp hf c
    have eW : W = 0 := by rw [hW]; unfold ordWhy; rw [c, if_neg (by decide), if_neg (by decide), if_neg (by decide), if_neg (by decide), if_neg (by decide)]
    rw [c, w104.2.2.2.1]
    iterate 5 rw [if_neg (by decide)]
    rw [← c]
    have L := L127 fun w => ?_
    · rw [eW] at L ⊢; exact L
    have m162 := m_162 (M := M) hX (kA pd len p).toNat (by omega)
    rw [hM, show ((kA pd len p).toNat : Int) = kA pd len p by omega] at m162
    have eD : ordDo A (pd p) (kA pd len p) (fA pd len p) = (aPass (kA pd len p).toNat A).2 := by
      unfold ordDo; rw [c, if_neg (by decide), if_neg (by decide), if_neg (by decide), if_neg (by decide), if_neg (by decide), if_pos rfl]
    rw [eD]
    unfold f_190
    rw [e181, Option.bind_some, c, w104.2.2.2.1]
    iterate 12 rw [if_neg (by decide)]
    rw [if_pos rfl, m162, Option.bind_some]
    exact ⟨_, rfl⟩
  · have m156 := m_156 (M := M) hX
    rw [hM] at m156
    have eW : W = whyPress A := by rw [hW]; unfold ordWhy; rw [c, if_neg (by decide), if_pos rfl]
    rw [c, w104.2.1, if_neg (by decide), if_pos rfl, m156, Option.bind_some, ← eW, ← c]
    refine L127 fun w => ?_
    have m157 := m_157 (M := M) hX (eW ▸ w)
    rw [hM] at m157
    have eD : ordDo A (pd p) (kA pd len p) (fA pd len p) = aPress A := by unfold ordDo; rw [c, if_neg (by decide), if_pos rfl]
    rw [eD]
    unfold f_190
    rw [e181, Option.bind_some, c, w104.2.1]
    iterate 8 rw [if_neg (by decide)]
    rw [if_pos rfl, m157, Option.bind_some]
    exact ⟨_, rfl⟩
  · have m158 := m_158 (M := M) hX
    rw [hM] at m158
    have eW : W = whyStop A := by rw [hW]; unfold ordWhy; rw [c, if_neg (by decide), if_neg (by decide), if_pos rfl]
    rw [c, w104.2.2.1, if_neg (by decide), if_neg (by decide), if_pos rfl, m158, Option.bind_some, ← eW, ← c]
    refine L127 fun w => ?_
    have m159 := m_159 (M := M) hX
    rw [hM] at m159
    have eD : ordDo A (pd p) (kA pd len p) (fA pd len p) = aStop A := by unfold ordDo; rw [c, if_neg (by decide), if_neg (by decide), if_pos rfl]
    rw [eD]
    unfold f_190
    rw [e181, Option.bind_some, c, w104.2.2.1]
    iterate 11 rw [if_neg (by decide)]
    rw [if_pos rfl, m159, Option.bind_some]
    exact ⟨_, rfl⟩
  · have eW : W = 0 := by rw [hW]; unfold ordWhy; rw [c, if_neg (by decide), if_neg (by decide), if_neg (by decide), if_neg (by decide), if_neg (by decide)]
    rw [c, w104.2.2.2.2.1]
    iterate 5 rw [if_neg (by decide)]
    rw [← c]
    have L := L127 fun w => ?_
    · rw [eW] at L ⊢; exact L
    have eD : ordDo A (pd p) (kA pd len p) (fA pd len p) = aSpeed A := by
      unfold ordDo; rw [c, if_neg (by decide), if_neg (by decide), if_neg (by decide), if_neg (by decide), if_neg (by decide), if_neg (by decide)]
    rw [eD]
    have eS : f_190_L144 M = some (0, mS M (aSpeed A)) := by
      unfold f_190_L144
      rw [← hM, bnd_def, mS_sc (by decide), mS_set (by decide), hM]
      rfl
    unfold f_190
    rw [e181, Option.bind_some, c, w104.2.2.2.2.1]
    iterate 14 rw [if_neg (by decide)]
    rw [if_pos rfl, eS]
    exact ⟨_, rfl⟩
  · have m165 := m_165 (M := M) hX
    rw [hM] at m165
    have eW : W = whyPeel A := by rw [hW]; unfold ordWhy; rw [c, if_neg (by decide), if_neg (by decide), if_neg (by decide), if_pos rfl]
    rw [c, w104.2.2.2.2.2.1, if_neg (by decide), if_neg (by decide), if_neg (by decide), if_pos rfl, m165, Option.bind_some, ← eW, ← c]
    refine L127 fun w => ?_
    have m166 := m_166 (M := M) hX (whyPeel_0 (eW ▸ w))
    rw [hM] at m166
    have eD : ordDo A (pd p) (kA pd len p) (fA pd len p) = aPeel A := by unfold ordDo; rw [c, if_neg (by decide), if_neg (by decide), if_neg (by decide), if_pos rfl]
    rw [eD]
    unfold f_190
    rw [e181, Option.bind_some, c, w104.2.2.2.2.2.1]
    iterate 16 rw [if_neg (by decide)]
    rw [if_pos rfl, m166, Option.bind_some]
    exact ⟨_, rfl⟩
  · have m167 := m_167 (M := M) hX
    rw [hM] at m167
    have eW : W = whyBack A := by rw [hW]; unfold ordWhy; rw [c, if_neg (by decide), if_neg (by decide), if_neg (by decide), if_neg (by decide), if_pos rfl]
    rw [c, w104.2.2.2.2.2.2, if_neg (by decide), if_neg (by decide), if_neg (by decide), if_neg (by decide), if_pos rfl, m167, Option.bind_some, ← eW, ← c]
    refine L127 fun w => ?_
    have m168 := m_168 (M := M) (A := A)
    rw [hM] at m168
    have eD : ordDo A (pd p) (kA pd len p) (fA pd len p) = aBack A := by unfold ordDo; rw [c, if_neg (by decide), if_neg (by decide), if_neg (by decide), if_neg (by decide), if_pos rfl]
    rw [eD]
    unfold f_190
    rw [e181, Option.bind_some, c, w104.2.2.2.2.2.2]
    iterate 17 rw [if_neg (by decide)]
    rw [if_pos rfl, bnd_def, m168]
    exact ⟨_, rfl⟩
end CA
