/-! MEANING, 12: the class's rows -/
section C1
variable {M : xM} {T : Int}
theorem xrow_r {α : Type} {M : Nat → α} {r a : Nat} {f : α} (h : a ≠ r) : xrow M r f a = M a := by unfold xrow; rw [if_neg h]
theorem xrow_eq {α : Type} {M : Nat → α} {r : Nat} {f : α} : xrow M r f r = f := by unfold xrow; rw [if_pos rfl]
theorem c_33 {n0 n1 c : Nat} (hc : c ≤ 48) : f_33 M n0 n1 (c : Int) = some (xset (rowU M (n0 + 1) (36 * c) (M (n1 + 1))) n0 1 (c : Int)) := by
  unfold f_33
  rw [wri ((c : Int) * 36) (by omega) (by omega), if_neg (by omega), if_neg (by omega), if_neg (by omega), gd_pos (by omega), bnd_def, bnd_def, show ((c : Int) * 36).toNat = 36 * c by omega]
  congr 2
  funext a k
  unfold xrow rowU xcpy
  by_cases q : a = n0 + 1
  · rw [if_pos q, q]
    by_cases q2 : k < 36 * c
    · rw [if_pos (by omega), if_pos ⟨rfl, q2⟩]; congr 1; omega
    · rw [if_neg (by omega), if_neg (by omega)]
  · rw [if_neg q, if_neg (by omega)]
theorem c_32 {n c : Nat} (hc : c ≤ 48) : f_32 M n (c : Int) = some (rowU (xset M n 1 (c : Int)) (n + 1) (36 * c) (fun _ => 0)) := by
  unfold f_32 f_32_L7
  rw [bnd_def]
  have key := loop_to (b := fun s => f_32_L7b n s.1 s.2) (fun i => ((i : Int), rowU (xset M n 1 (c : Int)) (n + 1) i (fun _ => 0))) (36 * c) (r := rowU (xset M n 1 (c : Int)) (n + 1) (36 * c) (fun _ => 0)) (fun i hi => ?_) ?_ (by show 36 * c < 1000000; omega)
  · have e0 : ((0 : Int), xset M n 1 (c : Int)) = ((fun i : Nat => ((i : Int), rowU (xset M n 1 (c : Int)) (n + 1) i (fun _ => 0))) 0) := by
      show _ = (((0 : Nat) : Int), _)
      rw [rowU_0]; rfl
    rw [e0]; exact key
  · show f_32_L7b n (i : Int) (rowU (xset M n 1 (c : Int)) (n + 1) i (fun _ => 0)) = some (Sum.inl (((i + 1 : Nat) : Int), rowU (xset M n 1 (c : Int)) (n + 1) (i + 1) (fun _ => 0)))
    unfold f_32_L7b
    rw [rowU_ne (by omega), xset_eq, wri ((c : Int) * 36) (by omega) (by omega), wri (i : Int) (by omega) (by omega), if_neg (by omega), if_neg (by omega), gd_pos (by omega), bnd_def, Int.toNat_natCast, rowU_s (f := fun _ => 0)]
    rfl
  · show f_32_L7b n ((36 * c : Nat) : Int) (rowU (xset M n 1 (c : Int)) (n + 1) (36 * c) (fun _ => 0)) = _
    unfold f_32_L7b
    rw [rowU_ne (by omega), xset_eq, wri ((c : Int) * 36) (by omega) (by omega), wri _ (by omega) (by omega), if_pos (by omega)]
theorem c_35 {n c : Nat} {fd : Int} (hc : c ≤ 48) (hn : M n 1 = (c : Int)) (hd : 0 ≤ fd ∧ fd ≤ 100) (hv : ∀ x, x < 36 * c → 0 ≤ M (n + 1) x ∧ M (n + 1) x ≤ 99) : f_35 M n fd = some (rowU M (n + 1) (36 * c) (fun x => M (n + 1) x * (100 - fd) / 100)) := by
  unfold f_35 f_35_L2
  have key := loop_to (b := fun s => f_35_L2b n fd s.1 s.2) (fun i => ((i : Int), rowU M (n + 1) i (fun x => M (n + 1) x * (100 - fd) / 100))) (36 * c) (r := rowU M (n + 1) (36 * c) (fun x => M (n + 1) x * (100 - fd) / 100)) (fun i hi => ?_) ?_ (by show 36 * c < 1000000; omega)
  · have e0 : ((0 : Int), M) = ((fun i : Nat => ((i : Int), rowU M (n + 1) i (fun x => M (n + 1) x * (100 - fd) / 100))) 0) := by
      show _ = (((0 : Nat) : Int), _)
      rw [rowU_0]; rfl
    rw [e0]; exact key
  · show f_35_L2b n fd (i : Int) (rowU M (n + 1) i (fun x => M (n + 1) x * (100 - fd) / 100)) = some (Sum.inl (((i + 1 : Nat) : Int), rowU M (n + 1) (i + 1) (fun x => M (n + 1) x * (100 - fd) / 100)))
    have hx := hv i hi
    have hf := fade_b hx (d := 100 - fd) (by omega)
    unfold f_35_L2b
    rw [rowU_ne (by omega), hn, wri ((c : Int) * 36) (by omega) (by omega), wri (i : Int) (by omega) (by omega), if_neg (by omega), if_neg (by omega), gd_pos (by omega), gd_pos (by omega), bnd_def, Int.toNat_natCast, rowU_ge (Nat.le_refl _)]
    have e : f_136 (M (n + 1) i) fd = (fun x => M (n + 1) x * (100 - fd) / 100) i := by
      unfold f_136
      rw [wri (M (n + 1) i * (100 - fd)) (by omega) (by omega), Int.tdiv_eq_ediv_of_nonneg (by omega)]
    rw [e, rowU_s]
    rfl
  · show f_35_L2b n fd ((36 * c : Nat) : Int) (rowU M (n + 1) (36 * c) (fun x => M (n + 1) x * (100 - fd) / 100)) = _
    unfold f_35_L2b
    rw [rowU_ne (by omega), hn, wri ((c : Int) * 36) (by omega) (by omega), wri _ (by omega) (by omega), if_pos (by omega)]
theorem c_31 {n c k : Nat} {v : Int} (hc : c < 48) (hk : k < 36) (hv : 0 ≤ v ∧ v ≤ 99) (hx : 0 ≤ M (n + 1) (36 * c + k) ∧ M (n + 1) (36 * c + k) ≤ 99) : f_31 M n (c : Int) (k : Int) v = (both (M (n + 1) (36 * c + k)) v, xset M (n + 1) (36 * c + k) (both (M (n + 1) (36 * c + k)) v)) := by
  unfold f_31
  simp only [c_132w]
  rw [wri (k : Int) (by omega) (by omega), wri ((c : Int) * 36 + (k : Int)) (by omega) (by omega), if_neg (by omega), if_neg (by omega), if_pos (by omega), bnd_def, show ((c : Int) * 36 + (k : Int)).toNat = 36 * c + k by omega]
  have e : xmin (M (n + 1) (36 * c + k) + v) 99 = both (M (n + 1) (36 * c + k)) v := by
    unfold xmin both
    rw [wri _ (by omega) (by omega), wri _ (by omega) (by omega)]
    by_cases q : 99 < M (n + 1) (36 * c + k) + v
    · rw [if_pos q, if_pos (by omega)]
    · rw [if_neg q]
      by_cases q2 : 99 ≤ M (n + 1) (36 * c + k) + v
      · rw [if_pos q2]; omega
      · rw [if_neg q2]
  rw [e, xset_eq]
theorem both_b {x y : Int} (hx : 0 ≤ x ∧ x ≤ 99) (hy : 0 ≤ y ∧ y ≤ 99) : 0 ≤ both x y ∧ both x y ≤ 99 := by
  unfold both; split <;> omega
/-- the fold's cells -/
theorem c_34 {n f : Nat} (hf : f ≤ 24) (hv : ∀ x, x < 72 * f → 0 ≤ M (n + 1) x ∧ M (n + 1) x ≤ 99) : f_34 M n (f : Int) = some (rowU M (n + 1) (36 * f) (fun x => both (M (n + 1) x) (M (n + 1) (x + 36 * f)))) := by
  unfold f_34 f_34_L2
  have L9 : ∀ c : Nat, c < f → f_34_L9 n (f : Int) (c : Int) (0, rowU M (n + 1) (36 * c) (fun x => both (M (n + 1) x) (M (n + 1) (x + 36 * f)))) = some (Sum.inl ((c : Int) + 1, rowU M (n + 1) (36 * (c + 1)) (fun x => both (M (n + 1) x) (M (n + 1) (x + 36 * f))))) := by
    intro c hcf
    unfold f_34_L9
    have key := loop_to (b := fun s => f_34_L9b n (f : Int) (c : Int) s.1 s.2) (fun k => ((k : Int), rowU M (n + 1) (36 * c + k) (fun x => both (M (n + 1) x) (M (n + 1) (x + 36 * f))))) 36 (r := Sum.inl ((c : Int) + 1, rowU M (n + 1) (36 * (c + 1)) (fun x => both (M (n + 1) x) (M (n + 1) (x + 36 * f))))) (fun k hk => ?_) ?_ (by show 36 < 1000000; omega)
    · exact key
    · show f_34_L9b n (f : Int) (c : Int) (k : Int) (rowU M (n + 1) (36 * c + k) (fun x => both (M (n + 1) x) (M (n + 1) (x + 36 * f)))) = some (Sum.inl (((k + 1 : Nat) : Int), rowU M (n + 1) (36 * c + (k + 1)) (fun x => both (M (n + 1) x) (M (n + 1) (x + 36 * f)))))
      have h1 := hv (36 * c + k) (by omega)
      have h2 := hv (36 * c + k + 36 * f) (by omega)
      unfold f_34_L9b
      rw [wri (k : Int) (by omega) (by omega), if_neg (by omega), show (c : Int) + (f : Int) = ((c + f : Nat) : Int) by omega, c_30 (by omega) (by omega), if_pos hk, rowU_ge (by omega), show 36 * (c + f) + k = 36 * c + k + 36 * f by omega, c_31 (by omega) hk h2 (by rw [rowU_ge (Nat.le_refl _)]; exact h1), bnd_def, rowU_ge (Nat.le_refl _)]
      show some (Sum.inl ((k : Int) + 1, xset (rowU M (n + 1) (36 * c + k) fun x => both (M (n + 1) x) (M (n + 1) (x + 36 * f))) (n + 1) (36 * c + k) ((fun x => both (M (n + 1) x) (M (n + 1) (x + 36 * f))) (36 * c + k)))) = _
      rw [rowU_s]
      rfl
    · show f_34_L9b n (f : Int) (c : Int) ((36 : Nat) : Int) (rowU M (n + 1) (36 * c + 36) (fun x => both (M (n + 1) x) (M (n + 1) (x + 36 * f)))) = _
      unfold f_34_L9b
      rw [wri _ (by omega) (by omega), if_pos (by omega)]
      rfl
  have key := loop_to (b := fun s => f_34_L2b n (f : Int) s.1 s.2) (fun c => ((c : Int), rowU M (n + 1) (36 * c) (fun x => both (M (n + 1) x) (M (n + 1) (x + 36 * f))))) f (r := rowU M (n + 1) (36 * f) (fun x => both (M (n + 1) x) (M (n + 1) (x + 36 * f)))) (fun c hc => ?_) ?_ (by show f < 1000000; omega)
  · have e0 : ((0 : Int), M) = ((fun c : Nat => ((c : Int), rowU M (n + 1) (36 * c) (fun x => both (M (n + 1) x) (M (n + 1) (x + 36 * f))))) 0) := by
      show _ = (((0 : Nat) : Int), _)
      rw [Nat.mul_zero, rowU_0]; rfl
    rw [e0]; exact key
  · show f_34_L2b n (f : Int) (c : Int) (rowU M (n + 1) (36 * c) (fun x => both (M (n + 1) x) (M (n + 1) (x + 36 * f)))) = some (Sum.inl (((c + 1 : Nat) : Int), rowU M (n + 1) (36 * (c + 1)) (fun x => both (M (n + 1) x) (M (n + 1) (x + 36 * f)))))
    unfold f_34_L2b
    rw [wri (f : Int) (by omega) (by omega), wri (c : Int) (by omega) (by omega), if_neg (by omega), L9 c hc]
    rfl
  · show f_34_L2b n (f : Int) (f : Int) _ = _
    unfold f_34_L2b
    rw [if_pos (Int.le_refl _)]
theorem c_59 {b w : Nat} (hw : w < 3) : f_59 M b (w : Int) = M (b + 1) w := by
  unfold f_59
  rw [wri (w : Int) (by omega) (by omega), if_neg (by omega), if_neg (by omega), Int.toNat_natCast]
theorem c_60 {b : Nat} {A : xM} (hR : RC M b A) (hW : WF T A) : f_60 M b = if tkr A then 1 else 0 := by
  have h4 : M b 4 = A 0 0 := hR.1.2.1
  have h0 := hW.1.1
  unfold f_60
  rw [h4, wri (A 0 0) (by omega) (by omega)]
  by_cases q : A 0 0 = 1
  · rw [if_pos q, if_pos (Or.inl q)]
  · rw [if_neg q]
    by_cases q2 : A 0 0 = 3
    · rw [if_pos q2, if_pos (Or.inr q2)]
    · rw [if_neg q2, if_neg (by omega)]
theorem wr01 {c : Prop} [Decidable c] : (wr (if c then 1 else 0) = 0) = ¬ c := by
  by_cases q : c
  · rw [if_pos q]; exact propext ⟨fun w => absurd w (by decide +kernel), fun w => absurd q w⟩
  · rw [if_neg q]; exact propext ⟨fun _ => q, fun _ => by decide +kernel⟩
theorem c_61 {b : Nat} {A : xM} (hR : RC M b A) (hW : WF T A) : f_61 M b = if A 0 0 = 2 ∨ A 0 0 = 3 then 1 else 0 := by
  have h4 : M b 4 = A 0 0 := hR.1.2.1
  have h0 := hW.1.1
  unfold f_61
  rw [h4, wri (A 0 0) (by omega) (by omega)]
  by_cases q : A 0 0 = 2
  · rw [if_pos q, if_pos (Or.inl q)]
  · rw [if_neg q]
    by_cases q2 : A 0 0 = 3
    · rw [if_pos q2, if_pos (Or.inr q2)]
    · rw [if_neg q2, if_neg (by omega)]
theorem c_63 {b : Nat} {A : xM} (hb : Tg b = 7) (hR : RC M b A) (hW : WF T A) (h1 : 1 ≤ A 0 7) : f_63 M b = some (A 0 6) := by
  have h7 := hW.1.2.2.2.2.2.1
  have e := c_58n hR hW 0 (by decide)
  rw [if_pos (by omega), show ((0 : Nat) : Int) = 0 from rfl, Nat.mul_zero, Nat.add_zero] at e
  have hT : Tg (b + 6) = 3 := gL7 hb 0 (by decide)
  unfold f_63
  rw [e, if_neg (by omega), gd_pos hT]
  unfold f_29
  have hl : M (b + 6 + 1) 1 = A 0 14 := (hR.2.1 0 (by decide) (by omega)).1
  rw [hl, (hW.2.1.2.2.1 h1).2.2]
end C1
