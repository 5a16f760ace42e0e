/-! MEANING, 18: the class's ticks -/
section C6
variable {M : xM} {T : Int}
theorem RC_row0 {b : Nat} {A : xM} (hR : RC M b A) (i x : Nat) (hi : i < 6) (hil : (i : Int) < A 0 7 + A 0 8) (hx : x < 1728) (hlx : (x : Int) < 36 * A 0 (14 + i)) : M (b + 8 + 3 * i) x = A (i + 1) x := (hR.2.1 i hi hil).2.2.2 x hx hlx
/-- the layers fade, one by one -/
theorem c_82 {b : Nat} {A : xM} (hb : Tg b = 7) (hR : RC M b A) (hF : WFf A) (h7 : 0 ≤ A 0 7 ∧ 0 ≤ A 0 8 ∧ A 0 7 + A 0 8 ≤ 6) (h5 : 0 ≤ A 0 5 ∧ A 0 5 ≤ 100) (hl : ∀ i : Nat, (i : Int) < A 0 7 → 0 ≤ A 0 (14 + i) ∧ A 0 (14 + i) ≤ 48) : ∃ M', f_82 M b = some M' ∧ CU M b (aFade A) M' := by
  unfold f_82 f_82_L2
  have key := loop_inv (b := fun s => f_82_L2b b s.1 s.2) (s := ((0 : Int), M)) (fun i s => s.1 = (i : Int) ∧ CU M b (aFadeN i A) s.2) (Q := fun M' => CU M b (aFade A) M') (A 0 7).toNat ⟨rfl, hR, fun r _ => rfl⟩ (fun i s hi hs => ?_) (fun s hs => ?_) (by show (A 0 7).toNat < 1000000; omega)
  · exact key
  · obtain ⟨v, M2⟩ := s
    obtain ⟨rfl, p1, p2⟩ := hs
    dsimp only at p1 p2
    obtain ⟨B, hB⟩ : ∃ B, B = aFadeN i A := ⟨_, rfl⟩
    have hBF : WFf B := by rw [hB]; exact WFf_fadeN hF h5 i
    have bs : ∀ k, k < 26 → B 0 k = A 0 k := fun k hk => by rw [hB]; exact aFadeN_sc i k hk
    have hlen := hl i (by omega)
    rw [← hB] at p1
    have l1 := p1.2.1 i (by omega) (by rw [bs 7 (by decide), bs 8 (by decide)]; omega)
    have e5 : M2 b 5 = A 0 7 := p1.1.2.2.1.trans (bs 7 (by decide))
    have ef : f_59 M2 b 2 = A 0 5 := (c_59 (w := 2) (by decide)).trans (p1.1.2.2.2.2.2.2.2.2.2.2.trans (bs 5 (by decide)))
    have ec : M2 (b + 6 + 3 * i + 1) 1 = ((A 0 (14 + i)).toNat : Int) := by
      rw [show b + 6 + 3 * i + 1 = b + 7 + 3 * i by omega, l1.1, bs _ (by omega)]; omega
    have ev : ∀ x, x < 36 * (A 0 (14 + i)).toNat → M2 (b + 6 + 3 * i + 2) x = B (i + 1) x := fun x hx => by
      rw [show b + 6 + 3 * i + 2 = b + 8 + 3 * i by omega]
      exact l1.2.2.2 x (by omega) (by rw [bs _ (by omega)]; omega)
    have e35 := c_35 (M := M2) (n := b + 6 + 3 * i + 1) (c := (A 0 (14 + i)).toNat) (fd := A 0 5) (by omega) ec h5 (fun x hx => by
      show 0 ≤ M2 (b + 6 + 3 * i + 2) x ∧ M2 (b + 6 + 3 * i + 2) x ≤ 99
      rw [ev x hx]; exact hBF i x (by omega) (by omega))
    obtain ⟨M3, hM3⟩ : ∃ M3, M3 = xset (rowU M2 (b + 6 + 3 * i + 1 + 1) (36 * (A 0 (14 + i)).toNat) (fun x => M2 (b + 6 + 3 * i + 1 + 1) x * (100 - A 0 5) / 100)) (b + 6 + 3 * i) 2 (M2 (b + 6 + 3 * i) 2 + 1) := ⟨_, rfl⟩
    have ne : ∀ r, r ≠ b + 6 + 3 * i → r ≠ b + 6 + 3 * i + 2 → M3 r = M2 r := fun r q1 q2 => by
      funext k; rw [hM3, xset_r q1, rowU_ne q2]
    have hN : aFadeN (i + 1) A = aFadeL B i := by rw [hB]; rfl
    have cs : ∀ k, k < 26 → aFadeL B i 0 k = B 0 k := fun k hk => by unfold aFadeL; rw [rowU_ne (by omega), xset_j (by omega)]
    have cr : ∀ r x, r ≠ 0 → r ≠ i + 1 → aFadeL B i r x = B r x := fun r x q1 q2 => by unfold aFadeL; rw [rowU_ne q2, xset_r q1]
    refine ⟨((i : Int) + 1, M3), ?_, by show (i : Int) + 1 = ((i + 1 : Nat) : Int); omega, ?_, fun r hr => ?_⟩
    · show f_82_L2b b (i : Int) M2 = _
      unfold f_82_L2b
      rw [e5, wri (A 0 7) (by omega) (by omega), wri (i : Int) (by omega) (by omega), if_neg (by omega), c_57 (by omega), if_neg (by omega), gd_pos (gL7 hb i (by omega)), ef, e35, Option.bind_some, bnd_def, rowU_ne (by omega), ← hM3]
    · rw [hN]
      show RC M3 b (aFadeL B i)
      refine ⟨?_, fun j hj hjl => ?_, fun q => ?_⟩
      · have := p1.1
        unfold RCs at this ⊢
        rw [ne b (by omega) (by omega), ne (b + 1) (by omega) (by omega), cs 0 (by decide), cs 1 (by decide), cs 2 (by decide), cs 3 (by decide), cs 4 (by decide), cs 5 (by decide), cs 7 (by decide), cs 8 (by decide), cs 9 (by decide), cs 10 (by decide), cs 13 (by decide)]
        exact this
      · rw [cs 7 (by decide), cs 8 (by decide)] at hjl
        have lj := p1.2.1 j hj hjl
        by_cases qj : j = i
        · subst qj
          unfold RCl at lj ⊢
          rw [cs (14 + j) (by omega), cs (20 + j) (by omega), ne (b + 7 + 3 * j) (by omega) (by omega)]
          refine ⟨lj.1, ?_, ?_, fun x hx hlx => ?_⟩
          · rw [hM3, xset_j (by decide), rowU_ne (by omega)]; exact lj.2.1
          · rw [hM3, xset_eq, lj.2.2.1]
            unfold aFadeL
            rw [rowU_ne (by omega), xset_eq]
          · rw [bs _ (by omega)] at hlx
            rw [hM3, xset_r (by omega), show b + 8 + 3 * j = b + 6 + 3 * j + 1 + 1 by omega, rowU_at (by omega)]
            unfold aFadeL
            rw [rowU_at (by rw [bs _ (by omega)]; omega), bs 5 (by decide)]
            show M2 (b + 6 + 3 * j + 2) x * (100 - A 0 5) / 100 = _
            rw [ev x (by omega)]
        · refine RCl_f (ne _ (by omega) (by omega)) (ne _ (by omega) (by omega)) (ne _ (by omega) (by omega)) ?_
          unfold RCl at lj ⊢
          have ca : aFadeL B i 0 (26 + j) = B 0 (26 + j) := by unfold aFadeL; rw [rowU_ne (by omega), xset_j (by omega)]
          rw [cs (14 + j) (by omega), cs (20 + j) (by omega), ca]
          exact ⟨lj.1, lj.2.1, lj.2.2.1, fun x h1 h2 => by rw [cr _ _ (by omega) (by omega)]; exact lj.2.2.2 x h1 h2⟩
      · unfold tkr at q
        rw [cs 0 (by decide)] at q
        have := p1.2.2 q
        unfold RCt tkc at this ⊢
        rw [cs 0 (by decide), cs 6 (by decide), cs 11 (by decide), cs 12 (by decide), ne (b + 3) (by omega) (by omega), ne (b + 4) (by omega) (by omega), ne (b + 5) (by omega) (by omega)]
        exact ⟨this.1, this.2.1, this.2.2.1, fun x h1 h2 => by rw [cr 7 x (by decide) (by omega)]; exact this.2.2.2 x h1 h2⟩
    · show M3 r = M r
      rw [ne r (by omega) (by omega)]; exact p2 r hr
  · obtain ⟨v, M2⟩ := s
    obtain ⟨rfl, p1, p2⟩ := hs
    dsimp only at p1 p2
    have e5 : M2 b 5 = A 0 7 := p1.1.2.2.1.trans (aFadeN_sc _ 7 (by decide))
    refine ⟨M2, ?_, p1, p2⟩
    show f_82_L2b b (((A 0 7).toNat : Nat) : Int) M2 = _
    unfold f_82_L2b
    rw [e5, wri (A 0 7) (by omega) (by omega), wri _ (by omega) (by omega), if_pos (by omega)]
/-- some numbers of the pedal's own row -/
theorem RC_own {b : Nat} {A D M' : xM} (hR : RC M b A) (hr : ∀ r, r ≠ b → M' r = M r) (hk : ∀ k, k ≠ 3 → k ≠ 4 → k ≠ 5 → k ≠ 6 → k ≠ 7 → k ≠ 8 → k ≠ 9 → k ≠ 10 → M' b k = M b k) (h3 : M' b 3 = D 0 2) (h4 : M' b 4 = D 0 0) (h5 : M' b 5 = D 0 7) (h6 : M' b 6 = D 0 8) (h7 : M' b 7 = D 0 1) (h8 : M' b 8 = D 0 9) (h9 : M' b 9 = D 0 10) (h10 : M' b 10 = D 0 13)
    (hD : ∀ k, k ≠ 0 → k ≠ 1 → k ≠ 2 → k ≠ 7 → k ≠ 8 → k ≠ 9 → k ≠ 10 → k ≠ 13 → D 0 k = A 0 k) (hrow : ∀ r x, r ≠ 0 → D r x = A r x) (h0 : D 0 0 = A 0 0) (h78 : D 0 7 + D 0 8 ≤ A 0 7 + A 0 8) : RC M' b D := by
  refine RC_nums hR (fun r a _ => hr r a) ?_ h78 (fun k hk => hD k (by omega) (by omega) (by omega) (by omega) (by omega) (by omega) (by omega) (by omega)) (fun r x h1 _ => hrow r x (by omega)) (fun q => ?_)
  · obtain ⟨s1, s2, s3, s4, s5, s6, s7, s8, s9, s10, s11⟩ := hR.1
    unfold RCs
    rw [hr (b + 1) (by omega), hD 3 (by decide) (by decide) (by decide) (by decide) (by decide) (by decide) (by decide) (by decide), hD 4 (by decide) (by decide) (by decide) (by decide) (by decide) (by decide) (by decide) (by decide), hD 5 (by decide) (by decide) (by decide) (by decide) (by decide) (by decide) (by decide) (by decide)]
    exact ⟨h3, h4, h5, h6, h7, h8, h9, h10, s9, s10, s11⟩
  · refine ⟨by unfold tkr at q ⊢; rw [← h0]; exact q, ?_, hD 11 (by decide) (by decide) (by decide) (by decide) (by decide) (by decide) (by decide) (by decide), hD 12 (by decide) (by decide) (by decide) (by decide) (by decide) (by decide) (by decide) (by decide), fun x => hrow 7 x (by decide)⟩
    unfold tkc
    rw [h0, hD 6 (by decide) (by decide) (by decide) (by decide) (by decide) (by decide) (by decide) (by decide)]
theorem c_81 {b : Nat} {A : xM} (hb : Tg b = 7) (hR : RC M b A) (hW : WF T A) (h2 : 2 ≤ A 0 0) : ∃ M', f_81 M b (aBy A) = some ((aLoop A).1, M') ∧ CU M b (aLoop A).2 M' := by
  have hm := hW.2.1.2.1 h2
  have s7 := hW.1.2.2.2.2.2.1
  have s1 := hW.1.2.2.2.2.2.2.2.2.2.2.2
  have s5 := hW.1.2.2.2.2.1
  have hb2 : 1 ≤ aBy A ∧ aBy A ≤ 2 := by have := hW.1.2.1; unfold aBy; omega
  have hA : ∀ k, k ≠ 1 → k ≠ 10 → aMove A 0 k = A 0 k := fun k h1 h10 => by unfold aMove; rw [xset_j h10, xset_j h1]
  have hr : ∀ r x, r ≠ 0 → aMove A r x = A r x := fun r x h => by unfold aMove; rw [xset_r h, xset_r h]
  have e1 : aMove A 0 1 = A 0 1 + aBy A := by unfold aMove; rw [xset_j (by decide), xset_eq]
  have e10 : aMove A 0 10 = A 0 10 + aBy A := by unfold aMove; rw [xset_eq]
  have hlen : aLen (aMove A) ((aMove A) 0 7).toNat = aLen A (A 0 7).toNat := by
    rw [hA 7 (by decide) (by decide)]
    exact aLen_c (fun i hi => hA _ (by omega) (by omega))
  have hlb := aLen_b hW (n := (A 0 7).toNat) (by omega)
  have eT : 2 * aLen A (A 0 7).toNat ≤ A 0 1 + aBy A → aLoop A = (1, aTurn (aMove A)) := fun h => by
    unfold aLoop; rw [if_pos (by rw [hlen, e1]; exact h)]
  have eF : ¬ 2 * aLen A (A 0 7).toNat ≤ A 0 1 + aBy A → aLoop A = (0, aMove A) := fun h => by
    unfold aLoop; rw [if_neg (by rw [hlen, e1]; exact h)]
  have f7 : M b 7 = A 0 1 := hR.1.2.2.2.2.1
  have f8 : M b 8 = A 0 9 := hR.1.2.2.2.2.2.1
  have f9 : M b 9 = A 0 10 := hR.1.2.2.2.2.2.2.1
  obtain ⟨M3, hM3⟩ : ∃ M3, M3 = xset (xset M b 7 (A 0 1 + aBy A)) b 9 (A 0 10 + aBy A) := ⟨_, rfl⟩
  have g7 : M3 b 7 = A 0 1 + aBy A := by rw [hM3, xset_j (by decide), xset_eq]
  have g9 : M3 b 9 = A 0 10 + aBy A := by rw [hM3, xset_eq]
  have gk : ∀ k, k ≠ 7 → k ≠ 9 → M3 b k = M b k := fun k a c => by rw [hM3, xset_j c, xset_j a]
  have gr : ∀ r, r ≠ b → M3 r = M r := fun r q => by funext k; rw [hM3, xset_r q, xset_r q]
  have R3 : RC M3 b (aMove A) := by
    obtain ⟨s1, s2, s3, s4, s5, s6, s7, s8, s9, s10, s11⟩ := hR.1
    refine RC_own hR gr (fun k a c d e f g h i => gk k f h) ?_ ?_ ?_ ?_ (by rw [g7, e1]) ?_ (by rw [g9, e10]) ?_ (fun k a c d e f g h i => hA k c h) hr (hA 0 (by decide) (by decide)) (by rw [hA 7 (by decide) (by decide), hA 8 (by decide) (by decide)]; exact Int.le_refl _)
    · rw [gk 3 (by decide) (by decide), hA 2 (by decide) (by decide)]; exact s1
    · rw [gk 4 (by decide) (by decide), hA 0 (by decide) (by decide)]; exact s2
    · rw [gk 5 (by decide) (by decide), hA 7 (by decide) (by decide)]; exact s3
    · rw [gk 6 (by decide) (by decide), hA 8 (by decide) (by decide)]; exact s4
    · rw [gk 8 (by decide) (by decide), hA 9 (by decide) (by decide)]; exact s6
    · rw [gk 10 (by decide) (by decide), hA 13 (by decide) (by decide)]; exact s8
  unfold f_81
  rw [c_62' hb hR hW, Option.bind_some, bnd_def, f7, bnd_def, show xset M b 7 (A 0 1 + aBy A) b 9 = A 0 10 from (xset_j (by decide)).trans f9, ← hM3, g7, wri (2 * aLen A (A 0 7).toNat) (by omega) (by omega), wri (A 0 1 + aBy A) (by omega) (by omega)]
  by_cases q : 2 * aLen A (A 0 7).toNat ≤ A 0 1 + aBy A
  · rw [if_pos q, eT q]
    obtain ⟨B, hB⟩ : ∃ B, B = xset (xset (aMove A) 0 1 (A 0 1 + aBy A - 2 * aLen A (A 0 7).toNat)) 0 9 (A 0 9 + 1) := ⟨_, rfl⟩
    have eB : aTurn (aMove A) = aFade B := by
      unfold aTurn
      rw [hlen, e1, hA 9 (by decide) (by decide), hB]
    obtain ⟨M5, hM5⟩ : ∃ M5, M5 = xset (xset M3 b 7 (A 0 1 + aBy A - 2 * aLen A (A 0 7).toNat)) b 8 (A 0 9 + 1) := ⟨_, rfl⟩
    have bk : ∀ k, k ≠ 1 → k ≠ 9 → B 0 k = aMove A 0 k := fun k a c => by rw [hB, xset_j c, xset_j a]
    have br : ∀ r x, r ≠ 0 → B r x = aMove A r x := fun r x h => by rw [hB, xset_r h, xset_r h]
    have n7 : M5 b 7 = A 0 1 + aBy A - 2 * aLen A (A 0 7).toNat := by rw [hM5, xset_j (by decide), xset_eq]
    have n8 : M5 b 8 = A 0 9 + 1 := by rw [hM5, xset_eq]
    have nk : ∀ k, k ≠ 7 → k ≠ 8 → M5 b k = M3 b k := fun k a c => by rw [hM5, xset_j c, xset_j a]
    have nr : ∀ r, r ≠ b → M5 r = M3 r := fun r q => by funext k; rw [hM5, xset_r q, xset_r q]
    have R5 : RC M5 b B := by
      obtain ⟨s1, s2, s3, s4, s5, s6, s7, s8, s9, s10, s11⟩ := R3.1
      refine RC_own R3 nr (fun k a c d e f g h i => nk k f g) ?_ ?_ ?_ ?_ (by rw [n7, hB, xset_j (by decide), xset_eq]) (by rw [n8, hB, xset_eq]) ?_ ?_ (fun k a c d e f g h i => bk k c g) br (bk 0 (by decide) (by decide)) (by rw [bk 7 (by decide) (by decide), bk 8 (by decide) (by decide)]; exact Int.le_refl _)
      · rw [nk 3 (by decide) (by decide), bk 2 (by decide) (by decide)]; exact s1
      · rw [nk 4 (by decide) (by decide), bk 0 (by decide) (by decide)]; exact s2
      · rw [nk 5 (by decide) (by decide), bk 7 (by decide) (by decide)]; exact s3
      · rw [nk 6 (by decide) (by decide), bk 8 (by decide) (by decide)]; exact s4
      · rw [nk 9 (by decide) (by decide), bk 10 (by decide) (by decide)]; exact s7
      · rw [nk 10 (by decide) (by decide), bk 13 (by decide) (by decide)]; exact s8
    have bA : ∀ k, k ≠ 1 → k ≠ 9 → k ≠ 10 → B 0 k = A 0 k := fun k a c d => by rw [bk k a c, hA k a d]
    obtain ⟨M6, k1, k2, k3⟩ := c_82 hb R5 (fun l x hl hx => by rw [br _ _ (by omega), hr _ _ (by omega)]; exact hW.2.2.2.1 l x hl hx) (by rw [bA 7 (by decide) (by decide) (by decide), bA 8 (by decide) (by decide) (by decide)]; exact s7) (by rw [bA 5 (by decide) (by decide) (by decide)]; exact s5) (fun i hi => by
      rw [bA 7 (by decide) (by decide) (by decide)] at hi
      rw [bA _ (by omega) (by omega) (by omega)]
      have := WF_len hW (i := i) (by omega) (by omega) hm.1
      omega)
    refine ⟨M6, ?_, by rw [eB]; exact k2, fun r hr => ?_⟩
    · rw [bnd_def, bnd_def, xset_j (by decide), gk 8 (by decide) (by decide), f8, ← hM5, k1]
      rfl
    · rw [k3 r hr, nr r (by omega), gr r (by omega)]
  · rw [if_neg q, eF q]
    exact ⟨M3, rfl, R3, fun r hr => gr r (by omega)⟩
theorem CU_trans {b : Nat} {A B M' M'' : xM} (h1 : CU M b A M') (h2 : CU M' b B M'') : CU M b B M'' := ⟨h2.1, fun r hr => (h2.2 r hr).trans (h1.2 r hr)⟩
/-- the take goes on -/
theorem c_takeOn {b : Nat} {A : xM} (hR : RC M b A) (ht : tkr A) : CU M b (aTakeOn A) (xset M (b + 3) 1 (M (b + 3) 1 + aBy A)) := by
  have e11 : aTakeOn A 0 11 = A 0 11 + aBy A := by unfold aTakeOn; rw [xset_eq]
  have hs : ∀ k, k ≠ 11 → aTakeOn A 0 k = A 0 k := fun k h => by unfold aTakeOn; rw [xset_j h]
  have hr : ∀ r x, r ≠ 0 → aTakeOn A r x = A r x := fun r x h => by unfold aTakeOn; rw [xset_r h]
  have ne : ∀ r, r ≠ b + 3 → xset M (b + 3) 1 (M (b + 3) 1 + aBy A) r = M r := fun r q => funext fun k => xset_r q
  refine ⟨⟨?_, fun i hi hil => ?_, fun q => ?_⟩, fun r hr => ne r (by omega)⟩
  · have := hR.1
    unfold RCs at this ⊢
    rw [ne b (by omega), ne (b + 1) (by omega), hs 0 (by decide), hs 1 (by decide), hs 2 (by decide), hs 3 (by decide), hs 4 (by decide), hs 5 (by decide), hs 7 (by decide), hs 8 (by decide), hs 9 (by decide), hs 10 (by decide), hs 13 (by decide)]
    exact this
  · rw [hs 7 (by decide), hs 8 (by decide)] at hil
    exact RCl_c (fun k hk => hs k (by omega)) (fun x => hr _ x (by omega)) (RCl_f (ne _ (by omega)) (ne _ (by omega)) (ne _ (by omega)) (hR.2.1 i hi hil))
  · have t := hR.2.2 ht
    unfold RCt tkc at t ⊢
    rw [hs 0 (by decide), hs 6 (by decide), e11, hs 12 (by decide), ne (b + 4) (by omega), ne (b + 5) (by omega)]
    refine ⟨by rw [xset_eq, t.1], by rw [xset_j (by decide)]; exact t.2.1, t.2.2.1, fun x h1 h2 => by rw [hr 7 x (by decide)]; exact t.2.2.2 x h1 h2⟩
theorem c_80 {b : Nat} {A : xM} (hb : Tg b = 7) (hR : RC M b A) (hW : WF T A) (ht : tkr A) : f_80 M b = some (if A 0 0 = 1 then 48 else 4 * A 0 6) := by
  have e4 : M b 4 = A 0 0 := hR.1.2.1
  unfold f_80
  rw [e4]
  rcases ht with q | q
  · rw [q, if_pos wr_1, if_pos rfl]
  · rw [q, if_neg (by decide +kernel), if_neg (by decide), c_63 hb hR hW (hW.2.1.2.1 (by omega)).1]
    rfl
theorem rowU_out {Z : xM} {a j r n : Nat} {u : Int} {f : Nat → Int} (h : a ≠ r) : rowU (xset Z a j u) r n f = xset (rowU Z r n f) a j u := by
  funext y x
  rw [xset_d]
  unfold rowU
  by_cases q : y = r ∧ x < n
  · rw [if_pos q, if_neg (by omega), if_pos q]
  · rw [if_neg q, if_neg q, xset_d]
/-- the loop and the take do not hinder each other -/
theorem aLoop_take {A : xM} (h7 : A 0 7 ≤ 6) : (aLoop (aTakeOn A)).1 = (aLoop A).1 ∧ (aLoop (aTakeOn A)).2 = aTakeOn (aLoop A).2 := by
  have hs : ∀ k, k ≠ 11 → aTakeOn A 0 k = A 0 k := fun k h => by unfold aTakeOn; rw [xset_j h]
  have c1 : ∀ (B : xM) (j k : Nat) (u v : Int), j ≠ k → xset (xset B 0 j u) 0 k v = xset (xset B 0 k v) 0 j u := fun B j k u v h => by
    funext r x
    simp only [xset_d]
    by_cases q1 : r = 0 ∧ x = k
    · rw [if_pos q1, if_neg (by omega), if_pos q1]
    · rw [if_neg q1]
      by_cases q2 : r = 0 ∧ x = j
      · rw [if_pos q2, if_pos q2]
      · rw [if_neg q2, if_neg q2, if_neg q1]
  have by1 : aBy (aTakeOn A) = aBy A := by unfold aBy; rw [hs 2 (by decide)]
  have em : aMove (aTakeOn A) = aTakeOn (aMove A) := by
    have byM : aBy (aMove A) = aBy A := by unfold aBy aMove; rw [xset_j (by decide), xset_j (by decide)]
    have e11 : aMove A 0 11 = A 0 11 := by unfold aMove; rw [xset_j (by decide), xset_j (by decide)]
    unfold aTakeOn at *
    rw [byM, e11]
    unfold aMove at *
    rw [by1, xset_j (by decide), xset_j (by decide), c1 _ 11 1 _ _ (by decide), c1 _ 11 10 _ _ (by decide)]
  have hsM : ∀ k, k ≠ 11 → aTakeOn (aMove A) 0 k = aMove A 0 k := fun k h => by unfold aTakeOn; rw [xset_j h]
  have hl : aLen (aTakeOn (aMove A)) (aTakeOn (aMove A) 0 7).toNat = aLen (aMove A) (aMove A 0 7).toNat := by
    have m7 : aMove A 0 7 = A 0 7 := by unfold aMove; rw [xset_j (by decide), xset_j (by decide)]
    rw [hsM 7 (by decide), m7]
    exact aLen_c (fun i hi => hsM _ (by omega))
  have fl : ∀ (B : xM) (u : Int) (l : Nat), aFadeL (xset B 0 11 u) l = xset (aFadeL B l) 0 11 u ∨ ¬ l < 7 := fun B u l => by
    by_cases hl7 : l < 7
    · left
      have e14 : xset B 0 11 u 0 (14 + l) = B 0 (14 + l) := xset_j (by omega)
      have e5 : xset B 0 11 u 0 5 = B 0 5 := xset_j (by decide)
      have e26 : xset B 0 11 u 0 (26 + l) = B 0 (26 + l) := xset_j (by omega)
      have er : ∀ x, xset B 0 11 u (l + 1) x = B (l + 1) x := fun x => xset_r (by omega)
      unfold aFadeL
      rw [e26, e14, e5]
      simp only [er]
      rw [c1 B 11 (26 + l) _ _ (by omega), rowU_out (by omega)]
    · exact Or.inr hl7
  have fn : ∀ (n : Nat) (B : xM) (u : Int), n ≤ 6 → aFadeN n (xset B 0 11 u) = xset (aFadeN n B) 0 11 u := by
    intro n
    induction n with
    | zero => intro B u _; rfl
    | succ n ih =>
      intro B u hn
      show aFadeL (aFadeN n (xset B 0 11 u)) n = xset (aFadeL (aFadeN n B) n) 0 11 u
      rw [ih B u (by omega)]
      rcases fl (aFadeN n B) u n with h | h
      · exact h
      · omega
  have eturn : aTurn (aTakeOn (aMove A)) = aTakeOn (aTurn (aMove A)) := by
    have m7 : aMove A 0 7 = A 0 7 := by unfold aMove; rw [xset_j (by decide), xset_j (by decide)]
    have t2 : aTurn (aMove A) 0 2 = aMove A 0 2 := by unfold aTurn; rw [aFade_sc (by decide), xset_j (by decide), xset_j (by decide)]
    have t11 : aTurn (aMove A) 0 11 = aMove A 0 11 := by unfold aTurn; rw [aFade_sc (by decide), xset_j (by decide), xset_j (by decide)]
    have e2 : aTakeOn (aTurn (aMove A)) = xset (aTurn (aMove A)) 0 11 (aMove A 0 11 + aBy (aMove A)) := by
      unfold aTakeOn aBy; rw [t2, t11]
    rw [e2]
    unfold aTurn
    rw [hl, hsM 1 (by decide), hsM 9 (by decide)]
    unfold aTakeOn
    rw [c1 _ 11 1 _ _ (by decide), c1 _ 11 9 _ _ (by decide)]
    unfold aFade
    have g7 : ∀ u : Int, xset (xset (xset (aMove A) 0 1 (aMove A 0 1 - 2 * aLen (aMove A) (aMove A 0 7).toNat)) 0 9 (aMove A 0 9 + 1)) 0 11 u 0 7 = A 0 7 := fun u => by rw [xset_j (by decide), xset_j (by decide), xset_j (by decide), m7]
    have g7' : xset (xset (aMove A) 0 1 (aMove A 0 1 - 2 * aLen (aMove A) (aMove A 0 7).toNat)) 0 9 (aMove A 0 9 + 1) 0 7 = A 0 7 := by rw [xset_j (by decide), xset_j (by decide), m7]
    rw [g7, g7', fn _ _ _ (by omega)]
  unfold aLoop
  rw [em, hl, hsM 1 (by decide)]
  by_cases q : 2 * aLen (aMove A) (aMove A 0 7).toNat ≤ aMove A 0 1
  · rw [if_pos q, if_pos q]; exact ⟨rfl, eturn⟩
  · rw [if_neg q, if_neg q]; exact ⟨rfl, rfl⟩
end C6
