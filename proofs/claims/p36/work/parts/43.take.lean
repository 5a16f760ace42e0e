/-! MEANING, 14: the class's takes -/
section C3
variable {M : xM} {T : Int}
/-- a pedal has come into another state, nothing else was changed -/
def CU (M : xM) (b : Nat) (A' : xM) (M' : xM) : Prop := RC M' b A' ∧ ∀ r, (r < b ∨ b + 24 ≤ r) → M' r = M r
theorem RCl_c {b i : Nat} {A D : xM} (h0 : ∀ k, 14 ≤ k → D 0 k = A 0 k) (hr : ∀ x, D (i + 1) x = A (i + 1) x) (h : RCl M b A i) : RCl M b D i := by
  unfold RCl at h ⊢
  rw [h0 (14 + i) (by omega), h0 (20 + i) (by omega), h0 (26 + i) (by omega)]
  exact ⟨h.1, h.2.1, h.2.2.1, fun x h1 h2 => by rw [hr]; exact h.2.2.2 x h1 h2⟩
theorem RCl_f {b i : Nat} {A M' : xM} (h7 : M' (b + 7 + 3 * i) = M (b + 7 + 3 * i)) (h6 : M' (b + 6 + 3 * i) = M (b + 6 + 3 * i)) (h8 : M' (b + 8 + 3 * i) = M (b + 8 + 3 * i)) (h : RCl M b A i) : RCl M' b A i := by
  unfold RCl at h ⊢
  rw [h7, h6, h8]; exact h
/-- other numbers, the layers and the take as they are (or no take) -/
theorem RC_nums {b : Nat} {A D M' : xM} (hR : RC M b A) (hr : ∀ r, r ≠ b → r ≠ b + 1 → M' r = M r) (hs : RCs M' b D) (h78 : D 0 7 + D 0 8 ≤ A 0 7 + A 0 8) (h14 : ∀ k, 14 ≤ k → D 0 k = A 0 k) (hrow : ∀ r x, 1 ≤ r → r ≤ 6 → D r x = A r x) (ht : tkr D → tkr A ∧ tkc D = tkc A ∧ D 0 11 = A 0 11 ∧ D 0 12 = A 0 12 ∧ ∀ x, D 7 x = A 7 x) : RC M' b D := by
  refine ⟨hs, fun i hi hil => ?_, fun q => ?_⟩
  · exact RCl_c h14 (fun x => hrow _ x (by omega) (by omega)) (RCl_f (hr _ (by omega) (by omega)) (hr _ (by omega) (by omega)) (hr _ (by omega) (by omega)) (hR.2.1 i hi (by omega)))
  · obtain ⟨t1, t2, t3, t4, t5⟩ := ht q
    have := hR.2.2 t1
    unfold RCt at this ⊢
    rw [hr (b + 3) (by omega) (by omega), hr (b + 4) (by omega) (by omega), hr (b + 5) (by omega) (by omega), t2, t3, t4]
    exact ⟨this.1, this.2.1, this.2.2.1, fun x h1 h2 => by rw [t5]; exact this.2.2.2 x h1 h2⟩
theorem c_74 {b c on : Nat} {A : xM} (hb : Tg b = 7) (h7 : 0 ≤ A 0 7 ∧ A 0 7 ≤ 5) (hc : c ≤ 48) (e5 : M b 5 = A 0 7) (e10 : M b 10 = A 0 13) (ht : ∀ x, x < 36 * c → M (b + 5) x = layF A on x) (hl : ∀ i : Nat, (i : Int) < A 0 7 → RCl M b A i) :
    ∃ M', f_74 M b (c : Int) = some M' ∧ (∀ i : Nat, (i : Int) < A 0 7 + 1 → RCl M' b (aLays A c on) i) ∧ M' b 5 = A 0 7 + 1 ∧ M' b 6 = 0 ∧ M' b 10 = A 0 13 + 1 ∧ (∀ k, k ≠ 5 → k ≠ 6 → k ≠ 10 → M' b k = M b k) ∧ (∀ r, r ≠ b → r < b + 6 → M' r = M r) ∧ ∀ r, b + 24 ≤ r → M' r = M r := by
  obtain ⟨n, hn⟩ : ∃ n : Nat, A 0 7 = (n : Int) := ⟨(A 0 7).toNat, by omega⟩
  have hn5 : n ≤ 5 := by omega
  have hnt : (A 0 7).toNat = n := by omega
  obtain ⟨M1, hM1⟩ : ∃ M1, M1 = xset (xset (xset (rowU M (b + 6 + 3 * n + 2) (36 * c) (M (b + 5))) (b + 6 + 3 * n + 1) 1 (c : Int)) (b + 6 + 3 * n) 1 0) (b + 6 + 3 * n) 2 0 := ⟨_, rfl⟩
  obtain ⟨M', hM'⟩ : ∃ M', M' = xset (xset (xset M1 b 5 (A 0 7 + 1)) b 6 0) b 10 (A 0 13 + 1) := ⟨_, rfl⟩
  have ne1 : ∀ r, r ≠ b + 6 + 3 * n → r ≠ b + 6 + 3 * n + 1 → r ≠ b + 6 + 3 * n + 2 → M1 r = M r := fun r q1 q2 q3 => by
    funext k; rw [hM1, xset_r q1, xset_r q1, xset_r q2, rowU_ne q3]
  have ne2 : ∀ r, r ≠ b → M' r = M1 r := fun r q => by
    funext k; rw [hM', xset_r q, xset_r q, xset_r q]
  refine ⟨M', ?_, fun i hi => ?_, ?_, ?_, ?_, fun k k5 k6 k10 => ?_, fun r r1 r2 => ?_, fun r r1 => ?_⟩
  · unfold f_74
    rw [e5, hn, c_57 (by omega), if_neg (by omega), gd_pos (gL7 hb n (by omega)), c_33 hc, Option.bind_some, bnd_def, bnd_def, ← show M1 = xset (xset (xset (rowU M (b + 6 + 3 * n + 1 + 1) (36 * c) (M (b + 4 + 1))) (b + 6 + 3 * n + 1) 1 (c : Int)) (b + 6 + 3 * n) 1 0) (b + 6 + 3 * n) 2 0 from hM1]
    have g5 : M1 b 5 = A 0 7 := by rw [ne1 b (by omega) (by omega) (by omega), e5]
    have g10 : M1 b 10 = A 0 13 := by rw [ne1 b (by omega) (by omega) (by omega), e10]
    rw [bnd_def, bnd_def, bnd_def, g5, xset_j (by decide), xset_j (by decide), g10, hM']
  · by_cases q : i = n
    · subst q
      unfold RCl
      refine ⟨?_, ?_, ?_, fun x hx hlx => ?_⟩
      · rw [ne2 _ (by omega), hM1, xset_r (by omega), xset_r (by omega), show b + 7 + 3 * i = b + 6 + 3 * i + 1 by omega, xset_eq, aLays_len, if_pos hnt.symm]
      · rw [ne2 _ (by omega), hM1, xset_j (by decide), xset_eq, aLays_mut (by omega) (by omega), if_pos hnt.symm]
      · rw [ne2 _ (by omega), hM1, xset_eq, aLays_age (by omega) (by omega), if_pos hnt.symm]
      · rw [aLays_len, if_pos hnt.symm] at hlx
        rw [ne2 _ (by omega), hM1, xset_r (by omega), xset_r (by omega), xset_r (by omega), show b + 8 + 3 * i = b + 6 + 3 * i + 2 by omega, rowU_at (by omega), aLays_row (by omega), if_pos (by omega)]
        exact ht x (by omega)
    · have h1 := hl i (by omega)
      have h2 : RCl M' b A i := RCl_f (by rw [ne2 _ (by omega), ne1 _ (by omega) (by omega) (by omega)]) (by rw [ne2 _ (by omega), ne1 _ (by omega) (by omega) (by omega)]) (by rw [ne2 _ (by omega), ne1 _ (by omega) (by omega) (by omega)]) h1
      unfold RCl at h2 ⊢
      rw [aLays_len, if_neg (by omega), if_neg (by omega), aLays_mut (by omega) (by omega), if_neg (by omega), aLays_age (by omega) (by omega), if_neg (by omega)]
      refine ⟨h2.1, h2.2.1, h2.2.2.1, fun x h1 h3 => ?_⟩
      rw [aLays_row (by omega), if_neg (by omega), if_neg (by omega)]
      exact h2.2.2.2 x h1 h3
  · rw [hM', xset_j (by decide), xset_j (by decide), xset_eq]
  · rw [hM', xset_j (by decide), xset_eq]
  · rw [hM', xset_eq]
  · rw [hM', xset_j k10, xset_j k6, xset_j k5, ne1 b (by omega) (by omega) (by omega)]
  · rw [ne2 r r1, ne1 r (by omega) (by omega) (by omega)]
  · rw [ne2 r (by omega), ne1 r (by omega) (by omega) (by omega)]
theorem c_68 {b : Nat} {A : xM} (hR : RC M b A) (hW : WFs T A) {c : Int} (hc : 1 ≤ c ∧ c ≤ 24) : f_68 M b c = some (rnd (A 0 3) (A 0 4) c) := by
  have h3 := hW.2.2.1
  have h4 := hW.2.2.2.1
  have e0 : f_59 M b 0 = A 0 3 := (c_59 (w := 0) (by decide)).trans hR.1.2.2.2.2.2.2.2.2.1
  have e1 : f_59 M b 1 = A 0 4 := (c_59 (w := 1) (by decide)).trans hR.1.2.2.2.2.2.2.2.2.2.1
  unfold f_68
  rw [e0, e1, ← (rnd_ok h3 h4 hc).1]
  rfl
theorem both0 {x : Int} (h : 0 ≤ x ∧ x ≤ 99) : both x 0 = x := by
  unfold both
  by_cases q : 99 ≤ x + 0
  · rw [if_pos q]; omega
  · rw [if_neg q]; omega
theorem c_73a {b : Nat} {A : xM} (hb : Tg b = 7) (hR : RC M b A) (hW : WF T A) (h0 : A 0 0 = 1) (h1 : 1 ≤ A 0 11) : ∃ M', f_73 M b = some (2, M') ∧ CU M b (aEndFirst A) M' := by
  have hm := hW.2.1.1 (by omega)
  have hfb := fstCells_b hW.1 h1
  have hlb := fstLen_b hW.1 h1
  have h11 := hW.1.2.2.2.2.2.2.2.2.2.1
  have ht := hR.2.2 (Or.inl h0)
  have hs := hR.1
  have etk : tkc A = 24 := by unfold tkc; rw [if_pos h0]
  obtain ⟨M1, l1, l2, l3, l4, l5, l6, l7, l8⟩ := c_74 (M := M) (b := b) (c := (fstLen A).toNat) (on := 0) hb (by omega) (by omega) hs.2.2.1 hs.2.2.2.2.2.2.2.1 (fun x hx => by
    have e := ht.2.2.2 x (by omega) (by rw [etk]; omega)
    have := hW.2.2.2.1 6 x (by decide) (by omega)
    rw [e]
    unfold layF
    rw [if_pos rfl, both0 this]) (fun i hi => by omega)
  rw [show (((fstLen A).toNat : Nat) : Int) = fstLen A by omega] at l1
  obtain ⟨M2, hM2⟩ : ∃ M2, M2 = xset (xset (xset (xset M1 b 7 0) b 8 0) b 9 0) b 4 2 := ⟨_, rfl⟩
  have ne2 : ∀ r, r ≠ b → M2 r = M1 r := fun r q => by
    funext k; rw [hM2, xset_r q, xset_r q, xset_r q, xset_r q]
  refine ⟨M2, ?_, ⟨?_, fun i hi hil => ?_, fun q => ?_⟩, fun r hr => ?_⟩
  · have e0 : M b 4 = 1 := by rw [hs.2.1, h0]
    have e1 : M (b + 3) 1 = A 0 11 := ht.1
    unfold f_73
    rw [e0, e1, wri (A 0 11) (by omega) (by omega), if_neg (by omega), if_pos wr_1, wri (A 0 11 + 1) (by omega) (by omega), Int.tdiv_eq_ediv_of_nonneg (by omega)]
    have e2 : xmin ((A 0 11 + 1) / 2) 24 = fstCells A := by
      unfold xmin fstCells
      rw [wri _ (by omega) (by omega), wri _ (by omega) (by omega)]
      by_cases q : 24 < (A 0 11 + 1) / 2
      · rw [if_pos q, if_pos (by omega)]
      · rw [if_neg q]
        by_cases q2 : 24 ≤ (A 0 11 + 1) / 2
        · rw [if_pos q2]; omega
        · rw [if_neg q2]
    rw [e2, c_68 hR hW.1 hfb, Option.bind_some, show rnd (A 0 3) (A 0 4) (fstCells A) = fstLen A from rfl, l1, Option.bind_some, bnd_def]
    unfold f_72
    simp only [bnd_def]
    rw [← hM2]
    congr 2
    rw [hM2, xset_eq]
  · obtain ⟨s1, s2, s3, s4, s5, s6, s7, s8, s9, s10, s11⟩ := hs
    have hd : ∀ k, k ≠ 0 → k ≠ 1 → k ≠ 9 → k ≠ 10 → k ≠ 11 → k ≠ 6 → aEndFirst A 0 k = aLays A (fstLen A).toNat 0 0 k := fun k a b c d e f => by
      unfold aEndFirst aStarts
      rw [xset_j d, xset_j c, xset_j b, xset_j a, aClr_sc e, xset_j f]
    have hd' : ∀ k, k < 14 → k ≠ 0 → k ≠ 1 → k ≠ 9 → k ≠ 10 → k ≠ 11 → k ≠ 6 → k ≠ 7 → k ≠ 8 → k ≠ 13 → aEndFirst A 0 k = A 0 k := fun k z a b c d e f g h i => by
      rw [hd k a b c d e f, aLays_sc (by omega)]
    unfold RCs
    rw [ne2 (b + 1) (by omega), l7 (b + 1) (by omega) (by omega)]
    have m2 : ∀ k, k ≠ 7 → k ≠ 8 → k ≠ 9 → k ≠ 4 → M2 b k = M1 b k := fun k a b c d => by
      rw [hM2, xset_j d, xset_j c, xset_j b, xset_j a]
    refine ⟨?_, ?_, ?_, ?_, ?_, ?_, ?_, ?_, ?_, ?_, ?_⟩
    · rw [m2 3 (by decide) (by decide) (by decide) (by decide), l6 3 (by decide) (by decide) (by decide), s1, hd' 2 (by decide) (by decide) (by decide) (by decide) (by decide) (by decide) (by decide) (by decide) (by decide) (by decide)]
    · rw [hM2, xset_eq]; unfold aEndFirst aStarts; rw [xset_j (by decide), xset_j (by decide), xset_j (by decide), xset_eq]
    · rw [m2 5 (by decide) (by decide) (by decide) (by decide), l3, hd 7 (by decide) (by decide) (by decide) (by decide) (by decide) (by decide), aLays_7]
    · rw [m2 6 (by decide) (by decide) (by decide) (by decide), l4, hd 8 (by decide) (by decide) (by decide) (by decide) (by decide) (by decide), aLays_8]
    · rw [hM2, xset_j (by decide), xset_j (by decide), xset_j (by decide), xset_eq]; unfold aEndFirst aStarts; rw [xset_j (by decide), xset_j (by decide), xset_eq]
    · rw [hM2, xset_j (by decide), xset_j (by decide), xset_eq]; unfold aEndFirst aStarts; rw [xset_j (by decide), xset_eq]
    · rw [hM2, xset_j (by decide), xset_eq]; unfold aEndFirst aStarts; rw [xset_eq]
    · rw [m2 10 (by decide) (by decide) (by decide) (by decide), l5, hd 13 (by decide) (by decide) (by decide) (by decide) (by decide) (by decide), aLays_13]
    · rw [s9, hd' 3 (by decide) (by decide) (by decide) (by decide) (by decide) (by decide) (by decide) (by decide) (by decide) (by decide)]
    · rw [s10, hd' 4 (by decide) (by decide) (by decide) (by decide) (by decide) (by decide) (by decide) (by decide) (by decide) (by decide)]
    · rw [s11, hd' 5 (by decide) (by decide) (by decide) (by decide) (by decide) (by decide) (by decide) (by decide) (by decide) (by decide)]
  · have e7 : aEndFirst A 0 7 = A 0 7 + 1 := by
      unfold aEndFirst aStarts
      rw [xset_j (by decide), xset_j (by decide), xset_j (by decide), xset_j (by decide), aClr_sc (by decide), xset_j (by decide), aLays_7]
    have e8 : aEndFirst A 0 8 = 0 := by
      unfold aEndFirst aStarts
      rw [xset_j (by decide), xset_j (by decide), xset_j (by decide), xset_j (by decide), aClr_sc (by decide), xset_j (by decide), aLays_8]
    have := l2 i (by omega)
    refine RCl_c (A := aLays A (fstLen A).toNat 0) (fun k hk => ?_) (fun x => ?_) (RCl_f (ne2 _ (by omega)) (ne2 _ (by omega)) (ne2 _ (by omega)) this)
    · unfold aEndFirst aStarts
      rw [xset_j (by omega), xset_j (by omega), xset_j (by omega), xset_j (by omega), aClr_sc (by omega), xset_j (by omega)]
    · unfold aEndFirst aStarts
      rw [xset_r (by omega), xset_r (by omega), xset_r (by omega), xset_r (by omega), aClr_row (by omega) (by omega), xset_r (by omega)]
  · exfalso
    have e0 : aEndFirst A 0 0 = 2 := by
      unfold aEndFirst aStarts
      rw [xset_j (by decide), xset_j (by decide), xset_j (by decide), xset_eq]
    rcases q with q | q <;> omega
  · have hp := ped_le hb
    rw [ne2 r (by omega)]
    rcases hr with h | h
    · exact l7 r (by omega) (by omega)
    · exact l8 r h
end C3
