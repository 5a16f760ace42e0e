/-! P36, 7: one call by a number of the script -/
section KD
variable {M A : xM} {T : Int} {P : Nat → xM} {n o : Nat} {S : xM} {sv : Int} {rom : xRom}
theorem xand_nn (a : Int) : 0 ≤ wr (xand a 2147483647) := by
  obtain ⟨j, hj, e⟩ := pk_andE (Int32.ofInt a) (m := Int32.ofInt 2147483647) 31 (by decide +kernel)
  have e2 : xand a 2147483647 = wr (j : Int) := by
    unfold xand
    rw [e]
    show (Int32.ofNat j).toInt = wr (j : Int)
    rw [xi_nat]; rfl
  rw [e2, wr_wr, wri (j : Int) (by omega) (by omega)]
  omega
theorem p_low {a n : Int} (hn : 0 < n ∧ n < 2147483648) : ∃ l : Nat, f_302 a n = some (l : Int) ∧ (l : Int) < n := by
  have h := xand_nn a
  have h1 := Int.emod_nonneg (wr (xand a 2147483647)) (show n ≠ 0 by omega)
  have h2 := Int.emod_lt_of_pos (wr (xand a 2147483647)) hn.1
  refine ⟨(wr (xand a 2147483647) % n).toNat, ?_, by omega⟩
  unfold f_302
  rw [wri n (by omega) (by omega), gd_pos (by omega), Int.tmod_eq_emod_of_nonneg h]
  congr 1; omega
theorem KA_no {U why good : Int} {A' : xM} {r : Int × xM} (k : KA T U why good A A' P n o S sv r) (w : why < 0) : r.1 = why ∧ KX T r.2 A P n o S sv := by
  rcases k with ⟨_, a, b⟩ | ⟨a, _⟩
  · exact ⟨a, b⟩
  · omega
theorem KA_do {U why good : Int} {A' : xM} {r : Int × xM} (k : KA T U why good A A' P n o S sv r) (w : why = 0) : r.1 = good ∧ KX U r.2 A' (pushP P n A) (pushN n) (pushO o n) S sv := by
  rcases k with ⟨a, _⟩ | ⟨_, a, b⟩
  · omega
  · exact ⟨a, b⟩
theorem KA_e {U why good : Int} {A' : xM} {r : Int × xM} (k : KA T U why good A A' P n o S sv r) (ht : T ≤ U) : KXe U r.2 := by
  rcases k with ⟨_, _, b⟩ | ⟨_, _, b⟩
  · exact KXe_mono ⟨_, _, _, _, _, _, b⟩ ht
  · exact ⟨_, _, _, _, _, _, b⟩
/-- the answer and what holds then -/
def okD (T : Int) (x : Option (Int × xM)) : Prop := ∃ M', x = some (1, M') ∧ KXe (T + 6100) M'
theorem okD_same (h : KX T M A P n o S sv) : okD T (some (1, M)) := ⟨M, rfl, KXe_mono ⟨_, _, _, _, _, _, h⟩ (by omega)⟩
theorem okD_of {x : xM} (h : KXe (T + 6100) x) : okD T (some (1, x)) := ⟨x, rfl, h⟩
/-! press -/
theorem press_00 (h : WX T A) : aPress A 0 0 = if A 0 0 = 0 then 1 else if A 0 0 = 2 then 3 else 2 := by
  have hm := h.1.1.1
  unfold aPress
  by_cases q1 : A 0 0 = 1
  · rw [if_pos q1, if_neg (by omega), if_neg (by omega)]
    unfold aEndFirst aStarts
    rw [xset_j (by decide), xset_j (by decide), xset_j (by decide), xset_eq]
  rw [if_neg q1]
  by_cases q3 : A 0 0 = 3
  · rw [if_pos q3, if_neg (by omega), if_neg (by omega)]
    unfold aEndOver
    rw [xset_eq]
  rw [if_neg q3]
  by_cases q4 : A 0 0 = 4
  · rw [if_pos q4, if_neg (by omega), if_neg (by omega)]
    unfold aStarts
    rw [xset_j (by decide), xset_j (by decide), xset_j (by decide), xset_eq]
  rw [if_neg q4, aBegin_0]
  by_cases q0 : A 0 0 = 0
  · rw [if_pos q0, if_pos q0]
  · rw [if_neg q0, if_neg q0, if_pos (by omega)]
theorem d_169 (h : KX T M A P n o S sv) {d : Int} (hd : (whyPress A < 0 ∧ d = whyPress A) ∨ (whyPress A = 0 ∧ d = aPress A 0 0)) : okD T (f_309_L169 rom M d) := by
  obtain ⟨r, k1, k2⟩ := k_press h
  have e : r.1 = d := by
    rcases hd with ⟨w, e⟩ | ⟨w, e⟩
    · rw [e]; exact (KA_no k2 w).1
    · rw [e]; exact (KA_do k2 w).1
  unfold f_309_L169
  rw [k1, Option.bind_some, e, if_pos rfl]
  exact okD_of (KA_e k2 (by omega))
theorem d_104 (h : KX T M A P n o S sv) {ru : Int} (hru : (ru = 1 ∧ tkr A) ∨ (ru = 0 ∧ ¬ tkr A)) : okD T (f_309_L104 rom M (A 0 0) ru (A 0 7)) := by
  have hX := h.2.2.1
  have hm := hX.1.1.1
  have h7 := hX.1.1.2.2.2.2.2.1
  have h11 := hX.1.1.2.2.2.2.2.2.2.2.2.1
  have p0 := press_00 hX
  have v121 : (tkr A → A 0 11 ≠ 0) → okD T (f_309_L122 rom M (A 0 0) (A 0 7) 0) := fun hh => by
    unfold f_309_L122 f_309_L151
    rw [if_pos wr0, wri (A 0 0) (by omega) (by omega), wri (A 0 7) (by omega) (by omega)]
    have w1 : ¬ (tkr A ∧ A 0 11 = 0) := fun w => hh w.1 w.2
    by_cases q2 : A 0 0 = 2
    · rw [if_pos q2]
      by_cases q6 : A 0 7 = 6
      · rw [if_pos q6]
        exact d_169 h (Or.inl (by unfold whyPress; rw [if_neg w1, if_pos ⟨q2, q6⟩]; exact ⟨by decide, rfl⟩))
      · rw [if_neg q6, if_neg (show ¬ A 0 0 = 0 by omega), if_pos q2]
        exact d_169 h (Or.inr (by unfold whyPress; rw [if_neg w1, if_neg (fun w => q6 w.2), p0, if_neg (by omega), if_pos q2]; exact ⟨rfl, rfl⟩))
    · rw [if_neg q2]
      have w2 : whyPress A = 0 := by unfold whyPress; rw [if_neg w1, if_neg (fun w => q2 w.1)]
      by_cases q0 : A 0 0 = 0
      · rw [if_pos q0]
        exact d_169 h (Or.inr ⟨w2, by rw [p0, if_pos q0]⟩)
      · rw [if_neg q0, if_neg q2]
        exact d_169 h (Or.inr ⟨w2, by rw [p0, if_neg q0, if_neg q2]⟩)
  unfold f_309_L104 f_309_L121
  rcases hru with ⟨e, t⟩ | ⟨e, t⟩
  · rw [e, if_neg (by decide +kernel), k_c7 h.1 hX, Option.bind_some, wri (A 0 11) (by omega) (by omega)]
    by_cases q : A 0 11 = 0
    · rw [if_pos q]
      unfold f_309_L122
      rw [if_neg (by decide +kernel)]
      exact d_169 h (Or.inl (by unfold whyPress; rw [if_pos ⟨t, q⟩]; exact ⟨by decide, rfl⟩))
    · rw [if_neg q]; exact v121 (fun _ => q)
  · rw [e, if_pos wr0]; exact v121 (fun w => absurd w t)
/-! stop, empty -/
theorem d_stop (h : KX T M A P n o S sv) {r : Int × xM} (k : KA T (T + 6100) (whyStop A) (aStop A 0 0) A (aStop A) P n o S sv r) : okD T (if wr (A 0 0) = 0 then (if wr r.1 = (-2) then some (1, r.2) else some (0, r.2)) else if wr (A 0 0) = 4 then (if wr r.1 = (-2) then some (1, r.2) else some (0, r.2)) else if wr (A 0 0) = 1 then (if wr r.1 = 0 then some (1, r.2) else some (0, r.2)) else if wr r.1 = 4 then some (1, r.2) else some (0, r.2)) := by
  have hm := h.2.2.1.1.1.1
  have ok := KA_e k (by omega)
  rw [wri (A 0 0) (by omega) (by omega)]
  by_cases q0 : A 0 0 = 0
  · rw [if_pos q0, (KA_no k (by unfold whyStop; rw [if_pos (Or.inl q0)]; decide)).1]
    unfold whyStop
    rw [if_pos (Or.inl q0), if_pos (by decide +kernel)]
    exact okD_of ok
  rw [if_neg q0]
  by_cases q4 : A 0 0 = 4
  · rw [if_pos q4, (KA_no k (by unfold whyStop; rw [if_pos (Or.inr q4)]; decide)).1]
    unfold whyStop
    rw [if_pos (Or.inr q4), if_pos (by decide +kernel)]
    exact okD_of ok
  rw [if_neg q4, (KA_do k (by unfold whyStop; rw [if_neg (fun w => by rcases w with w | w; exact q0 w; exact q4 w)])).1, aStop_0]
  by_cases q1 : A 0 0 = 1
  · rw [if_pos q1, if_pos q1, if_pos wr0]
    exact okD_of ok
  · rw [if_neg q1, if_neg q1, if_pos (by decide +kernel)]
    exact okD_of ok
theorem d_empty (h : KX T M A P n o S sv) {r : Int × xM} (k : KA T (T + 6100) (whyEmpty A) (A 0 7) A (aEmpty A) P n o S sv r) : okD T (if wr (A 0 0) = 0 then f_309_L255 rom r.2 r.1 (-2) else f_309_L255 rom r.2 r.1 (A 0 7)) := by
  have hX := h.2.2.1
  have hm := hX.1.1.1
  have ok := KA_e k (by omega)
  have fin : ∀ (X : Int) (B : xM) (Q : Nat → xM) (a b : Nat) (u : Int), KX X r.2 B Q a b S sv → B 0 7 = 0 → B 0 8 = 0 → B 0 0 = 0 → r.1 = u → okD T (f_309_L255 rom r.2 r.1 u) := fun X B Q a b u g e7 e8 e0 e => by
    unfold f_309_L255
    rw [e, if_pos rfl, k_c3 g.1, Option.bind_some, k_c4 g.1, Option.bind_some, k_c0 g.1, Option.bind_some, e7, e8, e0, if_pos (by decide +kernel)]
    exact okD_of ok
  rw [wri (A 0 0) (by omega) (by omega)]
  by_cases q0 : A 0 0 = 0
  · rw [if_pos q0]
    have w : whyEmpty A = -2 := by unfold whyEmpty; rw [if_pos q0]
    obtain ⟨e1, e2⟩ := KA_no k (by rw [w]; decide)
    have z := hX.1.2.1.1 (by omega)
    exact fin _ _ _ _ _ _ e2 z.1 z.2.1 q0 (e1.trans w)
  · rw [if_neg q0]
    obtain ⟨e1, e2⟩ := KA_do k (by unfold whyEmpty; rw [if_neg q0])
    exact fin _ _ _ _ _ _ e2 (aEmpty_0 (by omega)) (aEmpty_0 (by omega)) (aEmpty_0 (by omega)) e1
/-! set -/
theorem d_set (hrom : romOk rom) (h : KX T M A P n o S sv) {w : Nat} {v : Int} (hw : w < 3) (hv : -2147483648 ≤ v ∧ v < 2147483648) (hs : whySet (w : Int) v = 0) : okD T (f_309_L428 rom M (w : Int) v) := by
  obtain ⟨r, k1, k2⟩ := k_set hrom h (w := (w : Int)) (v := v) (by omega) hv
  obtain ⟨e1, e2⟩ := KA_do k2 hs
  rw [Int.toNat_natCast] at e1 e2
  unfold f_309_L428
  rw [k_c1x h.1 hw, Option.bind_some, k1, Option.bind_some, e1, if_pos rfl, k_c1x e2.1 hw, Option.bind_some]
  have e : aSet A w v 0 (3 + w) = v := by unfold aSet; rw [xset_eq]
  rw [e, if_pos rfl]
  exact okD_of (KA_e k2 (by omega))
/-! hit -/
theorem sumN_one {f g : Nat → Int} {a : Nat} (h : ∀ i, i ≠ a → g i = f i) (ha : f a ≤ g a ∧ g a ≤ f a + 1) : ∀ k : Nat, sumN k f ≤ sumN k g ∧ sumN k g ≤ sumN k f + (if a < k then 1 else 0)
  | 0 => by show (0 : Int) ≤ 0 ∧ (0 : Int) ≤ 0 + _; rw [if_neg (by omega)]; decide
  | k + 1 => by
    have ih := sumN_one h ha k
    show sumN k f + f k ≤ sumN k g + g k ∧ sumN k g + g k ≤ sumN k f + f k + _
    by_cases q : k = a
    · subst q
      rw [if_neg (by omega)] at ih
      rw [if_pos (by omega)]; omega
    · have := h k q
      by_cases q2 : a < k
      · rw [if_pos q2] at ih
        rw [if_pos (by omega)]; omega
      · rw [if_neg q2] at ih
        rw [if_neg (by omega)]; omega
theorem d_hit (h : KX T M A P n o S sv) {v ru : Int} (hru : (ru = 1 ∧ tkr A) ∨ (ru = 0 ∧ ¬ tkr A)) : okD T (f_309_L548 rom M v ru) := by
  have hX := h.2.2.1
  obtain ⟨k, k1, k2⟩ := p_low (a := xishr v 5) (n := 24) (by decide)
  obtain ⟨f, f1, f2⟩ := p_low (a := xishr v 10) (n := 99) (by decide)
  obtain ⟨r, r1, r2⟩ := k_hit h (k := (k : Int)) (f := 1 + (f : Int)) (by omega) (by omega)
  have hp1 : ∀ (B : xM) (j : Nat), 0 ≤ pos1 (B 7) j ∧ pos1 (B 7) j ≤ 1 := fun B j => by unfold pos1; split <;> decide
  have hs : ∀ B : xM, 0 ≤ sumN 1728 (pos1 (B 7)) ∧ sumN 1728 (pos1 (B 7)) ≤ 1728 := fun B => by
    have := sumN_b (f := pos1 (B 7)) (lo := 0) (hi := 1) 1728 (fun i _ => hp1 B i)
    omega
  have wA := hs A
  unfold f_309_L548
  rw [k_c8 h.1 hX, Option.bind_some, k1, Option.bind_some, f1, Option.bind_some, r1, Option.bind_some]
  have ok := KA_e r2 (by omega)
  rcases hru with ⟨e, t⟩ | ⟨e, t⟩
  · have w0 : whyHit A (k : Int) (1 + (f : Int)) = 0 := by unfold whyHit; rw [if_pos (by omega), if_pos t]
    obtain ⟨g1, g2⟩ := KA_do r2 w0
    have hat := hitAt_b hX t (k := (k : Int)) (by omega)
    have hx := hX.1.2.2.2.1 6 (hitAt A (k : Int)) (by decide) hat.1
    have hx : 0 ≤ A 7 (hitAt A (k : Int)) ∧ A 7 (hitAt A (k : Int)) ≤ 99 := hx
    have hv : 1 + (f : Int) ≤ aHitV A (k : Int) (1 + (f : Int)) ∧ aHitV A (k : Int) (1 + (f : Int)) ≤ 99 := by
      unfold aHitV both; split <;> omega
    have e7 : aHit A (k : Int) (1 + (f : Int)) 7 = fun j => if j = hitAt A (k : Int) then aHitV A (k : Int) (1 + (f : Int)) else A 7 j := by
      funext j
      unfold aHit
      by_cases q : j = hitAt A (k : Int)
      · rw [if_pos q, q, xset_eq]
      · rw [if_neg q, xset_j q]
    have hone := sumN_one (f := pos1 (A 7)) (g := pos1 (aHit A (k : Int) (1 + (f : Int)) 7)) (a := hitAt A (k : Int)) (fun i hi => by
      unfold pos1
      rw [e7]
      show (if 0 < (if i = hitAt A (k : Int) then _ else A 7 i) then (1 : Int) else 0) = _
      rw [if_neg hi]) (by
      have a := hp1 A (hitAt A (k : Int))
      have b : pos1 (aHit A (k : Int) (1 + (f : Int)) 7) (hitAt A (k : Int)) = 1 := by
        unfold pos1
        rw [e7]
        show (if 0 < (if hitAt A (k : Int) = hitAt A (k : Int) then aHitV A (k : Int) (1 + (f : Int)) else A 7 (hitAt A (k : Int))) then (1 : Int) else 0) = 1
        rw [if_pos rfl, if_pos (by omega)]
      omega) 1728
    rw [if_pos hat.1] at hone
    have wB := hs (aHit A (k : Int) (1 + (f : Int)))
    rw [e, if_neg (by decide +kernel), g1, wri (aHitV A (k : Int) (1 + (f : Int))) (by omega) (by omega), if_neg (by omega), if_neg (by omega), Option.bind_some, wri (1 + (f : Int)) (by omega) (by omega), if_neg (by omega), k_c8 g2.1 g2.2.2.1, Option.bind_some, Option.bind_some, wri _ (by omega) (by omega), wri (sumN 1728 (pos1 (A 7))) (by omega) (by omega), if_neg (by omega), wri _ (by omega) (by omega), if_neg (by omega)]
    exact okD_of ok
  · have w0 : whyHit A (k : Int) (1 + (f : Int)) = -2 := by unfold whyHit; rw [if_pos (by omega), if_neg t]
    obtain ⟨g1, g2⟩ := KA_no r2 (by omega)
    rw [e, if_pos wr0, g1, w0, if_pos (by decide +kernel)]
    exact okD_of ok
/-! pass -/
theorem tick_is (hX : WX T A) : (A 0 0 = 2 → (aTick A).2 0 0 = 2 ∧ (aTick A).2 0 13 = A 0 13) ∧ (tkr A → (((aTick A).2 0 0 = A 0 0 ∧ (aTick A).2 0 13 = A 0 13) ∨ ((aTick A).2 0 0 = 2 ∧ (aTick A).2 0 13 = A 0 13 + 1))) := by
  have eF : ∀ B : xM, aEndFirst B 0 0 = 2 ∧ aEndFirst B 0 13 = B 0 13 + 1 := fun B => by
    unfold aEndFirst aStarts
    refine ⟨by rw [xset_j (by decide), xset_j (by decide), xset_j (by decide), xset_eq], ?_⟩
    rw [xset_j (by decide), xset_j (by decide), xset_j (by decide), xset_j (by decide), aClr_sc (by decide), xset_j (by decide), aLays_13]
  have eO : ∀ B : xM, aEndOver B 0 0 = 2 ∧ aEndOver B 0 13 = B 0 13 + 1 := fun B => by
    unfold aEndOver
    refine ⟨by rw [xset_eq], ?_⟩
    rw [xset_j (by decide), aClr_sc (by decide)]
    split
    · rw [xset_j (by decide), aLays_13]
    · rw [aLays_13]
  have eT : ∀ (B : xM) (k : Nat), k ≠ 11 → aTakeOn B 0 k = B 0 k := fun B k h => by unfold aTakeOn; rw [xset_j h]
  refine ⟨fun h => ?_, fun h => ?_⟩
  · rw [aTick_2 h]
    exact ⟨(aLoop_sc hX.1 (by omega) (by decide) (by decide) (by decide) (by decide)).trans h, aLoop_sc hX.1 (by omega) (by decide) (by decide) (by decide) (by decide)⟩
  · rcases h with h | h
    · rw [aTick_1 h]
      dsimp only
      by_cases q : 48 ≤ (aTakeOn A) 0 11
      · rw [if_pos q]
        right
        rw [(eF _).1, (eF _).2, eT A 13 (by decide)]
        exact ⟨rfl, rfl⟩
      · rw [if_neg q]
        left
        rw [eT A 13 (by decide), eT A 0 (by decide)]
        exact ⟨rfl, rfl⟩
    · have h7 := hX.1.1.2.2.2.2.2.1
      rw [aTick_3 h, (aLoop_take (by omega)).2]
      dsimp only
      have l0 : (aLoop A).2 0 0 = A 0 0 := aLoop_sc hX.1 (by omega) (by decide) (by decide) (by decide) (by decide)
      have l13 : (aLoop A).2 0 13 = A 0 13 := aLoop_sc hX.1 (by omega) (by decide) (by decide) (by decide) (by decide)
      unfold aOver
      by_cases q : 4 * aTakeOn (aLoop A).2 0 6 ≤ aTakeOn (aLoop A).2 0 11
      · rw [if_pos q]
        right
        rw [(eO _).1, (eO _).2, eT _ 13 (by decide), l13]
        exact ⟨rfl, rfl⟩
      · rw [if_neg q]
        left
        rw [eT _ 13 (by decide), eT _ 0 (by decide), l0, l13]
        exact ⟨rfl, rfl⟩
theorem pass_is (hX : WX T A) : ∀ t : Nat, (A 0 0 = 0 ∨ A 0 0 = 4 → aPass t A = (0, A)) ∧ (A 0 0 = 2 → (aPass t A).2 0 0 = 2 ∧ (aPass t A).2 0 13 = A 0 13) ∧ (tkr A → (((aPass t A).2 0 0 = A 0 0 ∧ (aPass t A).2 0 13 = A 0 13) ∨ ((aPass t A).2 0 0 = 2 ∧ (aPass t A).2 0 13 = A 0 13 + 1)))
  | 0 => ⟨fun _ => rfl, fun h => ⟨h, rfl⟩, fun _ => Or.inl ⟨rfl, rfl⟩⟩
  | t + 1 => by
    obtain ⟨i1, i2, i3⟩ := pass_is hX t
    have hY := W_pass hX t
    obtain ⟨j1, j2⟩ := tick_is hY
    refine ⟨fun h => ?_, fun h => ?_, fun h => ?_⟩
    · show ((aPass t A).1 + (aTick (aPass t A).2).1, (aTick (aPass t A).2).2) = (0, A)
      rw [i1 h, aTick_04 h]; rfl
    · obtain ⟨a, b⟩ := i2 h
      obtain ⟨c, d⟩ := j1 a
      exact ⟨c, d.trans b⟩
    · show ((aTick (aPass t A).2).2 0 0 = A 0 0 ∧ (aTick (aPass t A).2).2 0 13 = A 0 13) ∨ ((aTick (aPass t A).2).2 0 0 = 2 ∧ (aTick (aPass t A).2).2 0 13 = A 0 13 + 1)
      rcases i3 h with ⟨a, b⟩ | ⟨a, b⟩
      · have ht : tkr (aPass t A).2 := by unfold tkr; rw [a]; exact h
        rcases j2 ht with ⟨c, d⟩ | ⟨c, d⟩
        · exact Or.inl ⟨c.trans a, d.trans b⟩
        · exact Or.inr ⟨c, by rw [d, b]⟩
      · obtain ⟨c, d⟩ := j1 a
        exact Or.inr ⟨c, d.trans b⟩
theorem d_pass (hT : T < 1000000000) (h : KX T M A P n o S sv) {ru a m : Int} (hru : (ru = 1 ∧ tkr A) ∨ (ru = 0 ∧ ¬ tkr A)) (hm : 0 < m ∧ m < 99) : okD T (f_309_L687 rom M (A 0 0) ru (A 0 13) 1 a m) := by
  have hX := h.2.2.1
  have h0 := hX.1.1.1
  have h13 := hX.1.1.2.2.2.2.2.2.2.2.1
  obtain ⟨l, l1, l2⟩ := p_low (a := a) (n := m) (by omega)
  obtain ⟨r, r1, r2⟩ := k_pass h (t := 1 + (l : Int)) (by omega)
  obtain ⟨g1, g2⟩ := KA_do r2 (by unfold whyPass; rw [if_pos (by omega)])
  have ok := KA_e r2 (by omega)
  have hpb := pass_b (A := A) (1 + (l : Int)).toNat
  obtain ⟨i1, i2, i3⟩ := pass_is hX (1 + (l : Int)).toNat
  obtain ⟨B, hB⟩ : ∃ B, B = (aPass (1 + (l : Int)).toNat A).2 := ⟨_, rfl⟩
  obtain ⟨z, hz⟩ : ∃ z, z = (aPass (1 + (l : Int)).toNat A).1 := ⟨_, rfl⟩
  rw [← hB] at g2 i2 i3
  rw [← hz] at g1 hpb
  have hBA : ¬ tkr A → B 0 13 = A 0 13 := fun t => by
    by_cases q : A 0 0 = 2
    · exact (i2 q).2
    · have q : A 0 0 = 0 ∨ A 0 0 = 4 := by
        have : ¬ (A 0 0 = 1 ∨ A 0 0 = 3) := t
        omega
      rw [hB, i1 q]
  have hB1 : A 0 13 ≤ B 0 13 ∧ B 0 13 ≤ A 0 13 + 1 := by
    by_cases t : tkr A
    · rcases i3 t with ⟨_, e⟩ | ⟨_, e⟩ <;> omega
    · have := hBA t; omega
  have v730 : okD T (f_309_L730 rom r.2 (A 0 13)) := by
    unfold f_309_L730
    rw [k_c15 g2.1, Option.bind_some, wri (A 0 13 + 1) (by omega) (by omega), wri (B 0 13) (by omega) (by omega), if_neg (by omega)]
    exact okD_of ok
  have v715 : okD T (f_309_L715 rom r.2 ru (A 0 13)) := by
    unfold f_309_L715
    rcases hru with ⟨e, t⟩ | ⟨e, t⟩
    · rw [e, if_neg (by decide +kernel)]; exact v730
    · rw [e, if_pos wr0, k_c15 g2.1, Option.bind_some, hBA t, if_pos rfl]; exact v730
  have v710 : (A 0 0 = 0 ∨ A 0 0 = 4) → okD T (f_309_L710 rom r.2 ru (A 0 13) r.1) := fun q => by
    have e : z = 0 := by rw [hz, i1 q]
    unfold f_309_L710
    rw [g1, e, if_pos wr0]; exact v715
  unfold f_309_L687
  rw [l1, Option.bind_some, r1, Option.bind_some, g1, wri z (by omega) (by omega), if_neg (by omega), wri (A 0 0) (by omega) (by omega), ← g1]
  by_cases q : A 0 0 ≤ 0
  · rw [if_pos q]; exact v710 (by omega)
  · rw [if_neg q]
    by_cases q4 : A 0 0 < 4
    · rw [if_pos q4]; exact v715
    · rw [if_neg q4]; exact v710 (by omega)
/-! all -/
theorem d_21 (hrom : romOk rom) (hT : T < 1000000000) (h : KX T M A P n o S sv) {v ru : Int} (hru : (ru = 1 ∧ tkr A) ∨ (ru = 0 ∧ ¬ tkr A)) : okD T (f_309_L21 rom M v (A 0 0) ru) := by
  have hX := h.2.2.1
  have hm := hX.1.1.1
  have h7 := hX.1.1.2.2.2.2.2.1
  have h2 := hX.1.1.2.1
  obtain ⟨z, z1, z2⟩ := p_low (a := v) (n := 18) (by decide)
  unfold f_309_L21
  rw [k_c3 h.1, Option.bind_some, z1, Option.bind_some, wri (z : Int) (by omega) (by omega)]
  by_cases q0 : (z : Int) = 0
  · rw [if_pos q0]; exact d_104 h hru
  rw [if_neg q0]
  by_cases q1 : (z : Int) = 1
  · rw [if_pos q1]; exact d_104 h hru
  rw [if_neg q1]
  by_cases q2 : (z : Int) = 2
  · rw [if_pos q2]; exact d_104 h hru
  rw [if_neg q2]
  by_cases q3 : (z : Int) = 3
  · rw [if_pos q3]
    by_cases y : wr (xand (xishr v 5) 3) = 0
    · rw [if_pos y]
      obtain ⟨r, k1, k2⟩ := k_stop h
      rw [k1, Option.bind_some]
      exact d_stop h k2
    · rw [if_neg y]; exact okD_same h
  rw [if_neg q3]
  by_cases q4 : (z : Int) = 4
  · rw [if_pos q4]
    by_cases y : wr (xand (xishr v 5) 7) = 0
    · rw [if_pos y]
      obtain ⟨r, k1, k2⟩ := k_empty h
      rw [k1, Option.bind_some]
      exact d_empty h k2
    · rw [if_neg y]; exact okD_same h
  rw [if_neg q4]
  by_cases q5 : (z : Int) = 5
  · rw [if_pos q5]
    obtain ⟨l, l1, l2⟩ := p_low (a := xishr v 5) (n := 6) (by decide)
    obtain ⟨r, k1, k2⟩ := k_mute h (l := (l : Int)) (by omega)
    rw [Int.toNat_natCast] at k2
    have ok := KA_e k2 (by omega)
    rw [l1, Option.bind_some, k1, Option.bind_some, Option.bind_some, Option.bind_some, wri (l : Int) (by omega) (by omega), wri (A 0 7) (by omega) (by omega)]
    by_cases y : (l : Int) < A 0 7
    · obtain ⟨g1, g2⟩ := KA_do k2 (by unfold whyMute; rw [if_pos (by omega)])
      have e := k_l4 g2.1 g2.2.2.1 (i := l) (by unfold aMute; rw [xset_j (by omega)]; exact y)
      have e2 : aMute A l 0 (20 + l) = 1 - A 0 (20 + l) := by unfold aMute; rw [xset_eq]
      rw [if_pos y, e, Option.bind_some, g1, e2, if_pos rfl]
      exact okD_of ok
    · obtain ⟨g1, g2⟩ := KA_no k2 (by unfold whyMute; rw [if_neg (by omega)]; decide)
      have w : whyMute A (l : Int) = -1 := by unfold whyMute; rw [if_neg (by omega)]
      rw [if_neg y, g1, w, if_pos (by decide +kernel)]
      exact okD_of ok
  rw [if_neg q5]
  by_cases q6 : (z : Int) = 6
  · rw [if_pos q6]
    obtain ⟨r, k1, k2⟩ := k_speed h
    obtain ⟨g1, g2⟩ := KA_do k2 rfl
    have e2 : aSpeed A 0 2 = 1 - A 0 2 := by unfold aSpeed; rw [xset_eq]
    rw [k_c9 h.1 hX, Option.bind_some, k1, Option.bind_some, g1, if_pos rfl, k_c9 g2.1 g2.2.2.1, Option.bind_some, e2, if_pos rfl]
    exact okD_of (KA_e k2 (by omega))
  rw [if_neg q6]
  by_cases q7 : (z : Int) = 7
  · rw [if_pos q7]
    obtain ⟨w, w1, w2⟩ := p_low (a := xishr v 5) (n := 3) (by decide)
    obtain ⟨a, a1, a2⟩ := p_low (a := xishr v 7) (n := 15) (by decide)
    obtain ⟨b, b1, b2⟩ := p_low (a := xishr v 7) (n := 9) (by decide)
    obtain ⟨c, c1, c2⟩ := p_low (a := xishr v 7) (n := 101) (by decide)
    rw [w1, Option.bind_some, wri (w : Int) (by omega) (by omega)]
    by_cases y0 : (w : Int) = 0
    · rw [if_pos y0, a1, Option.bind_some]
      exact d_set hrom h (by omega) (by omega) (by unfold whySet; rw [if_pos (by omega)])
    · rw [if_neg y0]
      by_cases y1 : (w : Int) = 1
      · rw [if_pos y1, b1, Option.bind_some]
        exact d_set hrom h (by omega) (by omega) (by unfold whySet; rw [if_pos (by omega)])
      · rw [if_neg y1, c1, Option.bind_some]
        exact d_set hrom h (by omega) (by omega) (by unfold whySet; rw [if_pos (by omega)])
  rw [if_neg q7]
  by_cases q8 : (z : Int) = 8
  · rw [if_pos q8]
    obtain ⟨r, k1, k2⟩ := k_peel h
    have ok := KA_e k2 (by omega)
    rw [k1, Option.bind_some, wri (A 0 7) (by omega) (by omega)]
    rcases hru with ⟨e, t⟩ | ⟨e, t⟩
    · have w : whyPeel A = -2 := by unfold whyPeel; rw [if_pos (Or.inl t)]
      rw [e, if_neg (by decide +kernel), (KA_no k2 (by omega)).1, w, if_pos (by decide +kernel)]
      exact okD_of ok
    · rw [e, if_pos wr0]
      by_cases y : 2 ≤ A 0 7
      · have w : whyPeel A = 0 := by unfold whyPeel; rw [if_neg (fun x => by rcases x with x | x; exact t x; omega)]
        rw [if_pos y, (KA_do k2 w).1, if_pos rfl]
        exact okD_of ok
      · have w : whyPeel A = -2 := by unfold whyPeel; rw [if_pos (Or.inr (by omega))]
        rw [if_neg y, (KA_no k2 (by omega)).1, w, if_pos (by decide +kernel)]
        exact okD_of ok
  rw [if_neg q8]
  by_cases q9 : (z : Int) = 9
  · rw [if_pos q9]
    obtain ⟨r, k1, k2⟩ := k_back h
    have ok := KA_e k2 (by omega)
    rw [k_c4 h.1, Option.bind_some, k1, Option.bind_some, wri (A 0 8) (by omega) (by omega)]
    rcases hru with ⟨e, t⟩ | ⟨e, t⟩
    · have w : whyBack A = -2 := by unfold whyBack; rw [if_pos (Or.inl t)]
      rw [e, if_neg (by decide +kernel), (KA_no k2 (by omega)).1, w, if_pos (by decide +kernel)]
      exact okD_of ok
    · rw [e, if_pos wr0]
      by_cases y : A 0 8 = 0
      · have w : whyBack A = -2 := by unfold whyBack; rw [if_pos (Or.inr y)]
        rw [if_pos y, (KA_no k2 (by omega)).1, w, if_pos (by decide +kernel)]
        exact okD_of ok
      · have w : whyBack A = 0 := by unfold whyBack; rw [if_neg (fun x => by rcases x with x | x; exact t x; exact y x)]
        rw [if_neg y, (KA_do k2 w).1, if_pos rfl]
        exact okD_of ok
  rw [if_neg q9]
  by_cases q10 : (z : Int) = 10
  · rw [if_pos q10]; exact d_hit h hru
  rw [if_neg q10]
  by_cases q11 : (z : Int) = 11
  · rw [if_pos q11]; exact d_hit h hru
  rw [if_neg q11]
  by_cases q12 : (z : Int) = 12
  · rw [if_pos q12]; exact d_hit h hru
  rw [if_neg q12]
  by_cases q13 : (z : Int) = 13
  · rw [if_pos q13]; exact d_hit h hru
  rw [if_neg q13, k_c15 h.1, Option.bind_some]
  by_cases y : wr (xand (xishr v 9) 3) = 0
  · rw [if_pos y]; exact d_pass hT h hru (by decide)
  · rw [if_neg y]; exact d_pass hT h hru (by decide)
theorem p_does (hrom : romOk rom) (hT : T < 1000000000) (h : KX T M A P n o S sv) (v : Int) : okD T (f_309 rom M v) := by
  have hm := h.2.2.1.1.1.1
  unfold f_309 f_309_L16
  rw [k_c0 h.1, Option.bind_some, wri (A 0 0) (by omega) (by omega)]
  by_cases q1 : A 0 0 = 1
  · rw [if_pos q1]; exact d_21 hrom hT h (Or.inl ⟨rfl, Or.inl q1⟩)
  rw [if_neg q1]
  by_cases q3 : A 0 0 = 3
  · rw [if_pos q3]; exact d_21 hrom hT h (Or.inl ⟨rfl, Or.inr q3⟩)
  rw [if_neg q3]
  exact d_21 hrom hT h (Or.inr ⟨rfl, fun w => by rcases w with w | w; exact q1 w; exact q3 w⟩)
end KD
