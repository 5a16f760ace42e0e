/-! P36, 8: the law -/
section KZ
variable {M A : xM} {T : Int} {P : Nat → xM} {n o : Nat} {S : xM} {sv : Int} {rom : xRom}
def scriptOk (rom : xRom) : Prop := (rom 2).1 ≤ 260 ∧ ∀ j, -2147483648 ≤ (rom 2).2 j ∧ (rom 2).2 j < 2147483648
theorem l_cell (hs : scriptOk rom) {e : Nat} (he : e < 60) : ∃ v, f_301 rom M (e : Int) = some v := by
  have h1 := hs.1
  unfold f_301
  rw [wri ((rom 2).1 : Int) (by omega) (by omega), wri (e : Int) (by omega) (by omega)]
  by_cases q : ((rom 2).1 : Int) ≤ (e : Int)
  · rw [if_pos q]; exact ⟨_, rfl⟩
  · rw [if_neg q, gd_pos (by omega)]; exact ⟨_, rfl⟩
theorem l_198 (h : KXe T M) (c : Int) : ∃ M', f_310_L198 rom M c = some (Sum.inl (c + 1, M')) ∧ KXe (T + 6100 * 396) M' := by
  obtain ⟨A, P, n, o, S, sv, h⟩ := h
  unfold f_310_L198
  by_cases q : wr ((wr c).tmod 12) = 9
  · obtain ⟨M', k1, k2⟩ := p_fades h
    rw [if_pos q, k1, Option.bind_some, if_neg (show ¬ wr 1 = 0 by decide +kernel)]
    exact ⟨M', rfl, k2⟩
  · rw [if_neg q]
    exact ⟨M, rfl, KXe_mono ⟨_, _, _, _, _, _, h⟩ (by omega)⟩
theorem l_183 (h : KXe T M) (c : Int) : ∃ M', f_310_L183 rom M c = some (Sum.inl (c + 1, M')) ∧ KXe (T + 12200 + 6100 * 396) M' := by
  unfold f_310_L183
  by_cases q : wr ((wr c).tmod 6) = 4
  · obtain ⟨A, P, n, o, S, sv, h⟩ := h
    obtain ⟨M', k1, k2⟩ := p_back h
    obtain ⟨M2, j1, j2⟩ := l_198 (rom := rom) k2 c
    rw [if_pos q, k1, Option.bind_some, if_neg (show ¬ wr 1 = 0 by decide +kernel)]
    exact ⟨M2, j1, j2⟩
  · rw [if_neg q]
    obtain ⟨M2, j1, j2⟩ := l_198 (rom := rom) h c
    exact ⟨M2, j1, KXe_mono j2 (by omega)⟩
theorem l_149 (h : KXe T M) (c v : Int) : ∃ M', f_310_L149 rom M c v = some (Sum.inl (c + 1, M')) ∧ KXe (T + 12200 + 6100 * 396) M' := by
  obtain ⟨M2, j1, j2⟩ := l_183 (rom := rom) h c
  obtain ⟨A, P, n, o, S, sv, h⟩ := h
  obtain ⟨p, p1, p2⟩ := p_low (a := xishr v 3) (n := 100) (by decide)
  refine ⟨M2, ?_, j2⟩
  unfold f_310_L149 f_310_L154
  rw [if_neg (by decide +kernel)]
  by_cases q : wr ((wr c).tmod 5) = 2
  · rw [if_pos q, p1, Option.bind_some, p_bars h.1 h.2.2.1 (p := (p : Int)) (by omega), Option.bind_some, if_neg (by decide +kernel), j1]
  · rw [if_neg q, j1]
theorem l_body (hrom : romOk rom) (hs : scriptOk rom) (hT : T < 900000000) (h : KXe T M) {e : Nat} (he : e < 60) : ∃ M', f_310_L67b rom (e : Int) M = some (Sum.inl ((e : Int) + 1, M')) ∧ KXe (T + 2440000) M' := by
  obtain ⟨A, P, n, o, S, sv, h⟩ := h
  obtain ⟨v, v1⟩ := l_cell (M := M) hs he
  obtain ⟨M1, d1, A, P, n, o, S, sv, h1⟩ := p_does hrom (by omega) h v
  obtain ⟨M2, g1, g2⟩ := p_loop (T := T + 6100) (by omega) h1.1 h1.2.2.1
  have h2 := KX_EF g2 h1
  have hX := h2.2.2.1
  have h7 := hX.1.1.2.2.2.2.2.1
  unfold f_310_L67b
  rw [wri (e : Int) (by omega) (by omega), if_neg (by omega), v1, Option.bind_some, d1, Option.bind_some, if_neg (show ¬ wr 1 = 0 by decide +kernel), g1, Option.bind_some, if_neg (show ¬ wr 1 = 0 by decide +kernel), k_c3 h2.1, Option.bind_some, wri (A 0 7) (by omega) (by omega)]
  by_cases z : A 0 7 = 0
  · obtain ⟨M', j1, j2⟩ := l_149 (rom := rom) ⟨_, _, _, _, _, _, h2⟩ (e : Int) v
    rw [if_pos z]
    exact ⟨M', j1, KXe_mono j2 (by omega)⟩
  rw [if_neg z]
  by_cases q : wr ((e : Int).tmod 3) = 1
  · have hl := len_pos hX z
    obtain ⟨l, l1, l2⟩ := p_low (a := xishr v 4) (n := A 0 7) (by omega)
    obtain ⟨c, c1, c2⟩ := p_low (a := xishr v 6) (n := aLen A (A 0 7).toNat) (by omega)
    obtain ⟨M3, s1, s2⟩ := p_cell h2.1 hX c2
    have h3 := KX_EF s2 h2
    obtain ⟨M', j1, j2⟩ := l_149 (rom := rom) ⟨_, _, _, _, _, _, h3⟩ (e : Int) v
    rw [if_pos q, l1, Option.bind_some, p_layer (T := T + 6100) (by omega) h2.1 hX l2, Option.bind_some, if_neg (show ¬ wr 1 = 0 by decide +kernel), k_c1 h2.1 hX, Option.bind_some, c1, Option.bind_some, s1, Option.bind_some, if_neg (show ¬ wr 1 = 0 by decide +kernel)]
    exact ⟨M', j1, KXe_mono j2 (by omega)⟩
  · obtain ⟨M', j1, j2⟩ := l_149 (rom := rom) ⟨_, _, _, _, _, _, h2⟩ (e : Int) v
    rw [if_neg q]
    exact ⟨M', j1, KXe_mono j2 (by omega)⟩
theorem l_end (hrom : romOk rom) (h : KXe T M) : ∃ M', f_310_L67b rom 60 M = some (Sum.inr (1, M')) := by
  obtain ⟨A, P, n, o, S, sv, h⟩ := h
  have m1 : wr (-1) = -1 := by decide +kernel
  obtain ⟨r1, a1, b1⟩ := k_hit h (k := 24) (f := 1) (by decide) (by decide)
  have w1 : whyHit A 24 1 = -1 := by unfold whyHit; rw [if_neg (by decide)]
  obtain ⟨e1, h1⟩ := KA_no b1 (by rw [w1]; decide)
  obtain ⟨r2, a2, b2⟩ := k_hit h1 (k := 0) (f := 0) (by decide) (by decide)
  have w2 : whyHit A 0 0 = -1 := by unfold whyHit; rw [if_neg (by decide)]
  obtain ⟨e2, h2⟩ := KA_no b2 (by rw [w2]; decide)
  obtain ⟨r3, a3, b3⟩ := k_pass h2 (t := 0) (by decide)
  obtain ⟨e3, h3⟩ := KA_no b3 (by decide)
  obtain ⟨r4, a4, b4⟩ := k_pass h3 (t := 100) (by decide)
  obtain ⟨e4, h4⟩ := KA_no b4 (by decide)
  obtain ⟨r5, a5, b5⟩ := k_set hrom h4 (w := 3) (v := 1) (by decide) (by decide)
  obtain ⟨e5, h5⟩ := KA_no b5 (by decide)
  obtain ⟨r6, a6, b6⟩ := k_set hrom h5 (w := 0) (v := 1) (by decide) (by decide)
  obtain ⟨e6, h6⟩ := KA_no b6 (by decide)
  rw [w1] at e1
  rw [w2] at e2
  have e3 : r3.1 = -1 := e3
  have e4 : r4.1 = -1 := e4
  have e5 : r5.1 = -1 := e5
  have e6 : r6.1 = -1 := e6
  unfold f_310_L67b
  rw [if_pos (by decide +kernel), a1, Option.bind_some, e1, if_pos m1, a2, Option.bind_some, e2, if_pos m1, a3, Option.bind_some, e3, if_pos m1, a4, Option.bind_some, e4, if_pos m1, a5, Option.bind_some, e5, if_pos m1, a6, Option.bind_some, e6, if_pos m1, k_c16, Option.bind_some, if_pos m1, k_driftX, Option.bind_some, if_pos m1, k_rounded0, Option.bind_some, if_pos m1, k_rounded25, Option.bind_some, if_pos m1]
  exact ⟨_, rfl⟩
theorem l_loop (hrom : romOk rom) (hs : scriptOk rom) (h : KXe 0 M) : ∃ M', f_310_L67 rom (0, M) = some (1, M') := by
  unfold f_310_L67
  have key := loop_inv (b := fun s => f_310_L67b rom s.1 s.2) (s := ((0 : Int), M)) (fun e s => s.1 = (e : Int) ∧ KXe (2440000 * (e : Int)) s.2) (Q := fun r => r.1 = 1) 60 ⟨rfl, KXe_mono h (by omega)⟩ (fun e s he hs' => ?_) (fun s hs' => ?_) (by show 60 < 1000000; omega)
  · obtain ⟨r, e1, e2⟩ := key
    obtain ⟨z, M'⟩ := r
    dsimp only at e2
    subst e2
    exact ⟨M', e1⟩
  · obtain ⟨c, X⟩ := s
    obtain ⟨rfl, hX⟩ := hs'
    obtain ⟨M', j1, j2⟩ := l_body hrom hs (by omega) hX he
    exact ⟨_, j1, rfl, KXe_mono j2 (by omega)⟩
  · obtain ⟨c, X⟩ := s
    obtain ⟨rfl, hX⟩ := hs'
    obtain ⟨M', j1⟩ := l_end hrom hX
    exact ⟨_, j1, rfl⟩
theorem law_true (hrom : romOk rom) (hs : scriptOk rom) (h : KX 0 M A P 0 o S 0) (h3 : A 0 3 = 8) (h4 : A 0 4 = 1) (h5 : A 0 5 = 0) : ∃ M', f_310 rom M = some (1, M') := by
  have m2 : wr (-2) = -2 := by decide +kernel
  obtain ⟨M1, g1, g2⟩ := p_loop (T := 0) (by decide) h.1 h.2.2.1
  obtain ⟨M', j⟩ := l_loop hrom hs ⟨_, _, _, _, _, _, KX_EF g2 h⟩
  refine ⟨M', ?_⟩
  unfold f_310
  rw [k_c10 h.1, Option.bind_some, h3, if_pos (show wr 8 = 8 by decide +kernel), k_c11 h.1, Option.bind_some, h4, if_pos (show wr 1 = 1 by decide +kernel), k_c12 h.1, Option.bind_some, h5, if_pos wr0, k_undo0 h, Option.bind_some, if_pos m2, k_restore0 h, Option.bind_some, if_pos m2, g1, Option.bind_some, if_neg (show ¬ wr 1 = 0 by decide +kernel), j]
end KZ
