/-! MEANING, 13: a pedal is copied -/
section C2
variable {M : xM} {T : Int}
theorem ped_is {r : Nat} (h : Tg r = 7) : r = 2 ∨ r = 26 ∨ r = 52 ∨ r = 76 ∨ r = 100 ∨ r = 124 ∨ r = 148 := Tg_dec (P := fun r => Tg r = 7 → r = 2 ∨ r = 26 ∨ r = 52 ∨ r = 76 ∨ r = 100 ∨ r = 124 ∨ r = 148) (by decide +kernel) h (by decide) h
theorem ped_far {b o : Nat} (hb : Tg b = 7) (ho : Tg o = 7) (h : b ≠ o) : b + 24 ≤ o ∨ o + 24 ≤ b := by
  have h1 := ped_is hb
  have h2 := ped_is ho
  omega
theorem c_27 {l0 l1 c : Nat} (hc : c ≤ 48) (hn : M (l1 + 1) 1 = (c : Int)) (hm : M l1 1 = 0 ∨ M l1 1 = 1) (hd : l1 ≠ l0 ∧ l1 ≠ l0 + 1 ∧ l1 ≠ l0 + 2) : f_27 M l0 l1 = some (xset (xset (xset (rowU M (l0 + 2) (36 * c) (M (l1 + 2))) (l0 + 1) 1 (c : Int)) l0 1 (M l1 1)) l0 2 (M l1 2)) := by
  unfold f_27 f_29
  rw [hn, c_33 hc, Option.bind_some]
  have e1 : xset (rowU M (l0 + 1 + 1) (36 * c) (M (l1 + 1 + 1))) (l0 + 1) 1 (c : Int) l1 1 = M l1 1 := by
    rw [xset_r (by omega), rowU_ne (by omega)]
  have e2 : ∀ v, xset (xset (rowU M (l0 + 1 + 1) (36 * c) (M (l1 + 1 + 1))) (l0 + 1) 1 (c : Int)) l0 1 v l1 2 = M l1 2 := fun v => by
    rw [xset_r (by omega), xset_r (by omega), rowU_ne (by omega)]
  rw [e1, gd_pos (by rcases hm with h | h <;> rw [h] <;> decide +kernel), bnd_def, bnd_def, e2]
set_option maxHeartbeats 2000000 in
theorem c_55 {b o : Nat} {A : xM} (hb : Tg b = 7) (ho : Tg o = 7) (hbo : b ≠ o) (hR : RC M o A) (hW : WF T A) : ∃ M', f_55 M b o = some M' ∧ RC M' b A ∧ ∀ r, (r < b ∨ b + 24 ≤ r) → M' r = M r := by
  have hfar := ped_far hb ho hbo
  have h7 := hW.1.2.2.2.2.2.1
  have h2 := hW.1.2.1
  have h0 := hW.1.1
  -- the layers
  have L112 : ∀ M1 : xM, RC M1 o A → RCs M1 b A → (tkr A → RCt M1 b A) → (∀ r, (r < b ∨ b + 24 ≤ r) → M1 r = M r) → ∃ M', f_55_L112 b o (0, M1) = some M' ∧ RC M' b A ∧ ∀ r, (r < b ∨ b + 24 ≤ r) → M' r = M r := by
    intro M1 q1 q2 q3 q4
    unfold f_55_L112
    refine loop_inv (fun i s => s.1 = (i : Int) ∧ RC s.2 o A ∧ RCs s.2 b A ∧ (tkr A → RCt s.2 b A) ∧ (∀ r, (r < b ∨ b + 24 ≤ r) → s.2 r = M r) ∧ ∀ j, j < i → RCl s.2 b A j) (A 0 7 + A 0 8).toNat ⟨rfl, q1, q2, q3, q4, fun j hj => by omega⟩ (fun i s hi hs => ?_) (fun s hs => ?_) (by show (A 0 7 + A 0 8).toNat < 1000000; omega)
    · obtain ⟨v, M2⟩ := s
      obtain ⟨rfl, p1, p2, p3, p4, p5⟩ := hs
      dsimp only at p1 p2 p3 p4 p5
      have hl := p1.2.1 i (by omega) (by omega)
      have hlen := WF_len hW (i := i) (by omega) (by omega) (WF_lay1 hW (i := i) (by omega))
      have hmu := (hW.2.2.1 i (by omega) (by omega)).2.1
      have e5 : M2 b 5 = A 0 7 := p2.2.2.1
      have e6 : M2 b 6 = A 0 8 := p2.2.2.2.1
      have ec : M2 (o + 6 + 3 * i + 1) 1 = ((A 0 (14 + i)).toNat : Int) := by
        rw [show o + 6 + 3 * i + 1 = o + 7 + 3 * i by omega, hl.1]; omega
      have e27 := c_27 (M := M2) (l0 := b + 6 + 3 * i) (l1 := o + 6 + 3 * i) (c := (A 0 (14 + i)).toNat) (by omega) ec (by rw [hl.2.1]; exact hmu) (by omega)
      obtain ⟨M3, hM3⟩ : ∃ M3, M3 = xset (xset (xset (rowU M2 (b + 6 + 3 * i + 2) (36 * (A 0 (14 + i)).toNat) (M2 (o + 6 + 3 * i + 2))) (b + 6 + 3 * i + 1) 1 ((A 0 (14 + i)).toNat : Int)) (b + 6 + 3 * i) 1 (M2 (o + 6 + 3 * i) 1)) (b + 6 + 3 * i) 2 (M2 (o + 6 + 3 * i) 2) := ⟨_, rfl⟩
      rw [← hM3] at e27
      refine ⟨((i : Int) + 1, M3), ?_, ?_⟩
      · show f_55_L112b b o (i : Int) M2 = some (Sum.inl (((i : Int) + 1), M3))
        unfold f_55_L112b f_56
        rw [e5, e6, wri (A 0 7 + A 0 8) (by omega) (by omega), wri (i : Int) (by omega) (by omega), if_neg (by omega), c_57 (by omega), c_57 (by omega), if_neg (by omega), if_neg (by omega), gd_pos (gL7 hb i (by omega)), gd_pos (gL7 ho i (by omega)), e27]
        rfl
      · dsimp only
        have hne : ∀ r k, r ≠ b + 6 + 3 * i → r ≠ b + 6 + 3 * i + 1 → r ≠ b + 6 + 3 * i + 2 → M3 r k = M2 r k := fun r k a c d => by
          rw [hM3, xset_r a, xset_r a, xset_r c, rowU_ne d]
        have hne' : ∀ r, r ≠ b + 6 + 3 * i → r ≠ b + 6 + 3 * i + 1 → r ≠ b + 6 + 3 * i + 2 → M3 r = M2 r := fun r a c d => funext fun k => hne r k a c d
        refine ⟨by show (i : Int) + 1 = ((i + 1 : Nat) : Int); omega, ?_, ?_, fun t => ?_, fun r hr => ?_, fun j hj => ?_⟩
        · exact RC_frame (fun r r1 r2 => hne' r (by omega) (by omega) (by omega)) p1
        · show RCs M3 b A
          unfold RCs at p2 ⊢
          rw [hne' b (by omega) (by omega) (by omega), hne' (b + 1) (by omega) (by omega) (by omega)]; exact p2
        · have := p3 t
          show RCt M3 b A
          unfold RCt at this ⊢
          rw [hne' (b + 3) (by omega) (by omega) (by omega), hne' (b + 4) (by omega) (by omega) (by omega), hne' (b + 5) (by omega) (by omega) (by omega)]; exact this
        · show M3 r = M r
          rw [hne' r (by omega) (by omega) (by omega)]; exact p4 r hr
        · show RCl M3 b A j
          by_cases q : j = i
          · subst q
            unfold RCl
            refine ⟨?_, ?_, ?_, fun x hx hlx => ?_⟩
            · rw [hM3, xset_r (by omega), xset_r (by omega), show b + 7 + 3 * j = b + 6 + 3 * j + 1 by omega, xset_eq]; omega
            · rw [hM3, xset_j (by decide), xset_eq, hl.2.1]
            · rw [hM3, xset_eq, hl.2.2.1]
            · rw [hM3, xset_r (by omega), xset_r (by omega), xset_r (by omega), show b + 8 + 3 * j = b + 6 + 3 * j + 2 by omega, rowU_at (by omega), show o + 6 + 3 * j + 2 = o + 8 + 3 * j by omega]
              exact hl.2.2.2 x hx hlx
          · have := p5 j (by omega)
            unfold RCl at this ⊢
            rw [hne' (b + 7 + 3 * j) (by omega) (by omega) (by omega), hne' (b + 6 + 3 * j) (by omega) (by omega) (by omega), hne' (b + 8 + 3 * j) (by omega) (by omega) (by omega)]; exact this
    · obtain ⟨v, M2⟩ := s
      obtain ⟨rfl, p1, p2, p3, p4, p5⟩ := hs
      dsimp only at p1 p2 p3 p4 p5
      have e5 : M2 b 5 = A 0 7 := p2.2.2.1
      have e6 : M2 b 6 = A 0 8 := p2.2.2.2.1
      refine ⟨M2, ?_, ⟨p2, fun i hi hil => p5 i (by omega), p3⟩, p4⟩
      show f_55_L112b b o (((A 0 7 + A 0 8).toNat : Nat) : Int) M2 = _
      unfold f_55_L112b
      rw [e5, e6, wri (A 0 7 + A 0 8) (by omega) (by omega), wri _ (by omega) (by omega), if_pos (by omega)]
  -- the numbers
  obtain ⟨M1, hM1⟩ : ∃ M1, M1 = rowU M (b + 1) 3 (M (o + 1)) := ⟨_, rfl⟩
  obtain ⟨M2, hM2⟩ : ∃ M2, M2 = xset (xset (xset (xset (xset (xset (xset (xset M1 b 3 (A 0 2)) b 4 (A 0 0)) b 5 (A 0 7)) b 6 (A 0 8)) b 7 (A 0 1)) b 8 (A 0 9)) b 9 (A 0 10)) b 10 (A 0 13) := ⟨_, rfl⟩
  have hne1 : ∀ r, r ≠ b + 1 → M1 r = M r := fun r hr => by rw [hM1]; exact rowU_ne hr
  have hne2 : ∀ r, r ≠ b → r ≠ b + 1 → M2 r = M r := fun r q1 q2 => by
    rw [← hne1 r q2]
    funext k
    rw [hM2, xset_r q1, xset_r q1, xset_r q1, xset_r q1, xset_r q1, xset_r q1, xset_r q1, xset_r q1]
  have ro2 : RC M2 o A := RC_frame (fun r r1 r2 => hne2 r (by omega) (by omega)) hR
  have rs : RCs M2 b A := by
    have hs := hR.1
    unfold RCs at hs ⊢
    refine ⟨?_, ?_, ?_, ?_, ?_, ?_, ?_, ?_, ?_, ?_, ?_⟩
    · rw [hM2, xset_j (by decide), xset_j (by decide), xset_j (by decide), xset_j (by decide), xset_j (by decide), xset_j (by decide), xset_j (by decide), xset_eq]
    · rw [hM2, xset_j (by decide), xset_j (by decide), xset_j (by decide), xset_j (by decide), xset_j (by decide), xset_j (by decide), xset_eq]
    · rw [hM2, xset_j (by decide), xset_j (by decide), xset_j (by decide), xset_j (by decide), xset_j (by decide), xset_eq]
    · rw [hM2, xset_j (by decide), xset_j (by decide), xset_j (by decide), xset_j (by decide), xset_eq]
    · rw [hM2, xset_j (by decide), xset_j (by decide), xset_j (by decide), xset_eq]
    · rw [hM2, xset_j (by decide), xset_j (by decide), xset_eq]
    · rw [hM2, xset_j (by decide), xset_eq]
    · rw [hM2, xset_eq]
    · rw [hM2, xset_r (by omega), xset_r (by omega), xset_r (by omega), xset_r (by omega), xset_r (by omega), xset_r (by omega), xset_r (by omega), xset_r (by omega), hM1, rowU_at (by decide)]; exact hs.2.2.2.2.2.2.2.2.1
    · rw [hM2, xset_r (by omega), xset_r (by omega), xset_r (by omega), xset_r (by omega), xset_r (by omega), xset_r (by omega), xset_r (by omega), xset_r (by omega), hM1, rowU_at (by decide)]; exact hs.2.2.2.2.2.2.2.2.2.1
    · rw [hM2, xset_r (by omega), xset_r (by omega), xset_r (by omega), xset_r (by omega), xset_r (by omega), xset_r (by omega), xset_r (by omega), xset_r (by omega), hM1, rowU_at (by decide)]; exact hs.2.2.2.2.2.2.2.2.2.2
  have fr2 : ∀ r, (r < b ∨ b + 24 ≤ r) → M2 r = M r := fun r hr => hne2 r (by omega) (by omega)
  -- behind the settings
  have tail : ∃ M', f_55_L2b b o 3 M1 = some (Sum.inr M') ∧ RC M' b A ∧ ∀ r, (r < b ∨ b + 24 ≤ r) → M' r = M r := by
    have hs := hR.1
    have g : ∀ k, M1 o k = M o k := fun k => by rw [hne1 o (by omega)]
    have x8 : ∀ (X : xM) (j : Nat) (v : Int) (k : Nat), xset X b j v o k = X o k := fun X j v k => xset_r (by omega)
    have e60 : f_60 M2 b = if tkr A then 1 else 0 := by
      have h4 : M2 b 4 = A 0 0 := rs.2.1
      unfold f_60
      rw [h4, wri (A 0 0) (by omega) (by omega)]
      by_cases q : A 0 0 = 1
      · rw [if_pos q, if_pos (Or.inl q)]
      · rw [if_neg q]
        by_cases q2 : A 0 0 = 3
        · rw [if_pos q2, if_pos (Or.inr q2)]
        · rw [if_neg q2, if_neg (by omega)]
    have e3 : f_55_L2b b o 3 M1 = if wr (f_60 M2 b) = 0 then (f_55_L112 b o (0, M2)).bind (fun o => some (.inr (o))) else (f_91 M2 (b + 3) (o + 3)).bind (fun k14 => (f_55_L112 b o (0, k14)).bind (fun o => some (.inr (o)))) := by
      unfold f_55_L2b
      rw [wri 3 (by decide) (by decide), if_pos (by decide), g, hs.1, gd_pos (by rcases h2 with h | h <;> rw [h] <;> decide +kernel)]
      simp only [bnd_def, x8, g]
      rw [hs.2.1, hs.2.2.1, hs.2.2.2.1, hs.2.2.2.2.1, hs.2.2.2.2.2.1, hs.2.2.2.2.2.2.1, hs.2.2.2.2.2.2.2.1, ← hM2]
    have hq : (wr (f_60 M2 b) = 0) ↔ ¬ tkr A := by rw [e60]; exact iff_of_eq wr01
    rw [e3]
    by_cases q : tkr A
    · rw [if_neg (fun w => hq.mp w q)]
      have ht := ro2.2.2 q
      have hm6 := hW.2.1.2.2.1
      have hm2 := hW.2.1.2.1
      have htk : 0 ≤ tkc A ∧ tkc A ≤ 48 := by
        unfold tkc
        by_cases q1 : A 0 0 = 1
        · rw [if_pos q1]; omega
        · rw [if_neg q1]
          have := hm6 (hm2 (by omega)).1
          omega
      obtain ⟨M3, hM3⟩ : ∃ M3, M3 = xset (xset (xset (rowU M2 (b + 5) (36 * (tkc A).toNat) (M2 (o + 5))) (b + 4) 1 ((tkc A).toNat : Int)) (b + 3) 1 (M2 (o + 3) 1)) (b + 3) 2 (M2 (o + 3) 2) := ⟨_, rfl⟩
      have e91 : f_91 M2 (b + 3) (o + 3) = some M3 := by
        unfold f_91 f_29
        have ec : M2 (o + 3 + 1) 1 = ((tkc A).toNat : Int) := by
          rw [show o + 3 + 1 = o + 4 by omega, ht.2.2.1]; omega
        rw [ec, c_33 (by omega), Option.bind_some, bnd_def, bnd_def, xset_r (by omega), rowU_ne (by omega), xset_r (by omega), xset_r (by omega), rowU_ne (by omega), hM3]
      have hne3 : ∀ r, r ≠ b + 3 → r ≠ b + 4 → r ≠ b + 5 → M3 r = M2 r := fun r q1 q2 q3 => by
        funext k
        rw [hM3, xset_r q1, xset_r q1, xset_r q2, rowU_ne q3]
      rw [e91, Option.bind_some]
      have hrt : RCt M3 b A := by
        unfold RCt
        refine ⟨?_, ?_, ?_, fun x hx hlx => ?_⟩
        · rw [hM3, xset_j (by decide), xset_eq]; exact ht.1
        · rw [hM3, xset_eq]; exact ht.2.1
        · rw [hM3, xset_r (by omega), xset_r (by omega), xset_eq]; omega
        · rw [hM3, xset_r (by omega), xset_r (by omega), xset_r (by omega), rowU_at (by omega)]
          exact ht.2.2.2 x hx hlx
      have hrs : RCs M3 b A := by
        unfold RCs at rs ⊢
        rw [hne3 b (by omega) (by omega) (by omega), hne3 (b + 1) (by omega) (by omega) (by omega)]; exact rs
      obtain ⟨M', k1, k2, k3⟩ := L112 M3 (RC_frame (fun r r1 r2 => hne3 r (by omega) (by omega) (by omega)) ro2) hrs (fun _ => hrt) (fun r hr => (hne3 r (by omega) (by omega) (by omega)).trans (fr2 r hr))
      exact ⟨M', by rw [k1]; rfl, k2, k3⟩
    · rw [if_pos (hq.mpr q)]
      obtain ⟨M', k1, k2, k3⟩ := L112 M2 ro2 rs (fun t => absurd t q) fr2
      exact ⟨M', by rw [k1]; rfl, k2, k3⟩
  obtain ⟨M', k1, k2, k3⟩ := tail
  refine ⟨M', ?_, k2, k3⟩
  unfold f_55 f_55_L2
  have key := loop_to (b := fun s => f_55_L2b b o s.1 s.2) (fun i => ((i : Int), rowU M (b + 1) i (M (o + 1)))) 3 (r := M') (fun i hi => ?_) ?_ (by show 3 < 1000000; omega)
  · have e0 : ((0 : Int), M) = ((fun i : Nat => ((i : Int), rowU M (b + 1) i (M (o + 1)))) 0) := by
      show _ = (((0 : Nat) : Int), _)
      rw [rowU_0]; rfl
    rw [e0]; exact key
  · show f_55_L2b b o (i : Int) (rowU M (b + 1) i (M (o + 1))) = some (Sum.inl (((i + 1 : Nat) : Int), rowU M (b + 1) (i + 1) (M (o + 1))))
    unfold f_55_L2b
    rw [wri (i : Int) (by omega) (by omega), if_neg (by omega), gd_pos (by omega), bnd_def, Int.toNat_natCast, c_59 hi, rowU_ne (by omega), rowU_s]
    rfl
  · show f_55_L2b b o ((3 : Nat) : Int) (rowU M (b + 1) 3 (M (o + 1))) = _
    rw [← hM1]
    exact k1
end C2
