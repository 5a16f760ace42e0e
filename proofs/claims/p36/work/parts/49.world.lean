/-! MEANING, 20: the class's world: the pedal, its history, the snapshot, the pad, the halt -/
section WD
variable {M : xM} {T : Int}
/-- all but the pedal -/
def CWr (M : xM) (P : Nat → xM) (n o : Nat) (S : xM) (sv : Int) (pd : Nat → Int) (len : Nat) (st : Nat → Int) (stp : Int) : Prop :=
  (M 50 2 = (n : Int) ∧ n ≤ 4 ∧ M 50 1 = (o : Int) ∧ o < 5) ∧ (∀ i, i < n → RC M (52 + 24 * ((o + i) % 5)) (P i)) ∧ M 1 8 = sv ∧ (sv = 1 → RC M 26 S) ∧ (M 172 1 = (len : Int) ∧ ∀ j, j < len → M 173 j = pd j) ∧ M 176 0 = stp ∧ (stp = 1 → M 176 1 = st 0 ∧ M 176 2 = st 1 ∧ M 176 3 = st 2)
def OKr (T : Int) (P : Nat → xM) (n : Nat) (S : xM) (sv : Int) (pd : Nat → Int) (len : Nat) (stp : Int) : Prop := (∀ i, i < n → WX T (P i)) ∧ (sv = 1 → WX T S) ∧ (sv = 0 ∨ sv = 1) ∧ len ≤ 60 ∧ (∀ j, j < len → 33 ≤ pd j ∧ pd j ≤ 126) ∧ (stp = 0 ∨ stp = 1)
theorem OKr_mono {T U : Int} {P : Nat → xM} {n : Nat} {S : xM} {sv : Int} {pd : Nat → Int} {len : Nat} {stp : Int} (h : OKr T P n S sv pd len stp) (ht : T ≤ U) : OKr U P n S sv pd len stp :=
  ⟨fun i hi => WX_mono (h.1 i hi) ht, fun w => WX_mono (h.2.1 w) ht, h.2.2⟩
theorem CWr_frame {M' : xM} {P : Nat → xM} {n o : Nat} {S : xM} {sv : Int} {pd : Nat → Int} {len : Nat} {st : Nat → Int} {stp : Int} (hr : ∀ r, (r < 2 ∨ 26 ≤ r) → r < 182 → M' r = M r) (h : CWr M P n o S sv pd len st stp) : CWr M' P n o S sv pd len st stp := by
  obtain ⟨h1, h2, h3, h4, h5, h6, h7⟩ := h
  refine ⟨?_, fun i hi => ?_, ?_, fun w => ?_, ?_, ?_, fun w => ?_⟩
  · rw [hr 50 (by omega) (by omega)]; exact h1
  · exact RC_frame (fun r r1 r2 => hr r (by omega) (by omega)) (h2 i hi)
  · rw [hr 1 (by omega) (by omega)]; exact h3
  · exact RC_frame (fun r r1 r2 => hr r (by omega) (by omega)) (h4 w)
  · rw [hr 172 (by omega) (by omega), hr 173 (by omega) (by omega)]; exact h5
  · rw [hr 176 (by omega) (by omega)]; exact h6
  · rw [hr 176 (by omega) (by omega)]; exact h7 w
def pushP (P : Nat → xM) (n : Nat) (A : xM) : Nat → xM := if n < 4 then (fun i => if i = n then A else P i) else (fun i => if i = 3 then A else P (i + 1))
def pushN (n : Nat) : Nat := if n < 4 then n + 1 else 4
def pushO (o n : Nat) : Nat := if n < 4 then o else (o + 1) % 5
theorem pushP_ok {P : Nat → xM} {n : Nat} {A : xM} (hn : n ≤ 4) (h : ∀ i, i < n → WX T (P i)) (hA : WX T A) : ∀ i, i < pushN n → WX T (pushP P n A i) := by
  intro i hi
  unfold pushN at hi
  unfold pushP
  by_cases q : n < 4
  · rw [if_pos q] at hi ⊢
    by_cases w : i = n
    · rw [if_pos w]; exact hA
    · rw [if_neg w]; exact h i (by omega)
  · rw [if_neg q] at hi ⊢
    by_cases w : i = 3
    · rw [if_pos w]; exact hA
    · rw [if_neg w]; exact h (i + 1) (by omega)
theorem tg_state (i : Nat) (h : i < 5) : Tg (52 + 24 * i) = 7 := gL51 i h
theorem c_22 {o k : Nat} (h : M 50 1 = (o : Int)) (ho : o < 5) (hk : k ≤ 5) : f_22 M (k : Int) = 52 + 24 * ((o + k) % 5) := by
  unfold f_22
  rw [h, c_134 (by omega) (by decide), show ((o : Int) + (k : Int)) % 5 = (((o + k) % 5 : Nat) : Int) by omega, wri _ (by omega) (by omega), if_neg (by omega), if_neg (by omega), Int.toNat_natCast]
theorem c_23 {A : xM} {P : Nat → xM} {n o : Nat} {S : xM} {sv : Int} {pd : Nat → Int} {len : Nat} {st : Nat → Int} {stp : Int} (hR : RC M 2 A) (hX : WX T A) (h : CWr M P n o S sv pd len st stp) : ∃ M1, f_23 M 2 = some M1 ∧ RC M1 2 A ∧ CWr M1 P n o S sv pd len st stp ∧ RC M1 (52 + 24 * ((o + n) % 5)) A ∧ ∀ r, 182 ≤ r → M1 r = M r := by
  obtain ⟨h1, h2, h3, h4, h5, h6, h7⟩ := h
  have e22 : f_22 M (M 50 2) = 52 + 24 * ((o + n) % 5) := by rw [h1.1]; exact c_22 h1.2.2.1 h1.2.2.2 (by omega)
  have hb := tg_state ((o + n) % 5) (by omega)
  obtain ⟨M1, k1, k2, k3⟩ := c_55 (b := 52 + 24 * ((o + n) % 5)) (o := 2) hb (by decide +kernel) (by omega) hR hX.1
  refine ⟨M1, ?_, RC_frame (fun r r1 r2 => k3 r (by omega)) hR, ⟨?_, fun i hi => ?_, ?_, fun w => ?_, ?_, ?_, fun w => ?_⟩, k2, fun r hr => k3 r (by omega)⟩
  · unfold f_23
    rw [e22, if_neg (by omega), gd_pos hb, k1]
    rfl
  · rw [k3 50 (by omega)]; exact h1
  · exact RC_frame (fun r r1 r2 => k3 r (by omega)) (h2 i hi)
  · rw [k3 1 (by omega)]; exact h3
  · exact RC_frame (fun r r1 r2 => k3 r (by omega)) (h4 w)
  · rw [k3 172 (by omega), k3 173 (by omega)]; exact h5
  · rw [k3 176 (by omega)]; exact h6
  · rw [k3 176 (by omega)]; exact h7 w
/-- a state is kept -/
theorem c_24 {A A' : xM} {P : Nat → xM} {n o : Nat} {S : xM} {sv : Int} {pd : Nat → Int} {len : Nat} {st : Nat → Int} {stp : Int} (hR : RC M 2 A') (h : CWr M P n o S sv pd len st stp) (hF : RC M (52 + 24 * ((o + n) % 5)) A) : RC (f_24 M) 2 A' ∧ CWr (f_24 M) (pushP P n A) (pushN n) (pushO o n) S sv pd len st stp ∧ ∀ r, r ≠ 50 → f_24 M r = M r := by
  obtain ⟨h1, h2, h3, h4, h5, h6, h7⟩ := h
  have fr : ∀ r, r ≠ 50 → f_24 M r = M r := fun r hr => by
    unfold f_24
    split
    · rw [bnd_def]; funext k; exact xset_r hr
    · rw [bnd_def]; funext k; exact xset_r hr
  have hRC : ∀ (b : Nat) (X : xM), (b = 2 ∨ b = 26 ∨ 52 ≤ b) → RC M b X → RC (f_24 M) b X := fun b X hb hx => RC_frame (fun r r1 r2 => fr r (by omega)) hx
  refine ⟨hRC 2 _ (by omega) hR, ⟨?_, fun i hi => ?_, ?_, fun w => ?_, ?_, ?_, fun w => ?_⟩, fr⟩
  · unfold f_24 pushN pushO
    rw [h1.1, wri (n : Int) (by omega) (by omega)]
    by_cases q : n < 4
    · rw [if_neg (by omega), if_pos q, if_pos q, bnd_def]
      refine ⟨by rw [xset_eq]; omega, by omega, by rw [xset_j (by decide)]; exact h1.2.2.1, h1.2.2.2⟩
    · rw [if_pos (by omega), if_neg q, if_neg q, bnd_def]
      refine ⟨by rw [xset_j (by decide), h1.1]; omega, by omega, ?_, by omega⟩
      rw [xset_eq, h1.2.2.1, c_134 (by omega) (by decide)]; omega
  · unfold pushP pushN pushO at *
    by_cases q : n < 4
    · rw [if_pos q] at hi ⊢
      rw [if_pos q]
      by_cases w : i = n
      · rw [if_pos w, w]
        exact hRC _ _ (by omega) hF
      · rw [if_neg w]
        exact hRC _ _ (by omega) (h2 i (by omega))
    · rw [if_neg q] at hi ⊢
      rw [if_neg q]
      by_cases w : i = 3
      · rw [if_pos w, show ((o + 1) % 5 + i) % 5 = (o + n) % 5 by omega]
        exact hRC _ _ (by omega) hF
      · rw [if_neg w, show ((o + 1) % 5 + i) % 5 = (o + (i + 1)) % 5 by omega]
        exact hRC _ _ (by omega) (h2 (i + 1) (by omega))
  · rw [fr 1 (by decide)]; exact h3
  · exact hRC _ _ (by omega) (h4 w)
  · rw [fr 172 (by decide), fr 173 (by decide)]; exact h5
  · rw [fr 176 (by decide)]; exact h6
  · rw [fr 176 (by decide)]; exact h7 w
/-- behind a call: what the class answers, its world then -/
def CAns (M : xM) (why good : Int) (A A' : xM) (P : Nat → xM) (n o : Nat) (S : xM) (sv : Int) (pd : Nat → Int) (len : Nat) (st : Nat → Int) (stp : Int) (r : Int × xM) : Prop :=
  (∀ k, 182 ≤ k → r.2 k = M k) ∧ ((why < 0 ∧ r.1 = why ∧ RC r.2 2 A ∧ CWr r.2 P n o S sv pd len st stp) ∨ (why = 0 ∧ r.1 = good ∧ RC r.2 2 A' ∧ CWr r.2 (pushP P n A) (pushN n) (pushO o n) S sv pd len st stp))
theorem c_change {A A' M1 : xM} {P : Nat → xM} {n o : Nat} {S : xM} {sv : Int} {pd : Nat → Int} {len : Nat} {st : Nat → Int} {stp why good : Int} {r : Int × xM} (hR1 : RC M1 2 A) (h : CWr M1 P n o S sv pd len st stp) (hF : RC M1 (52 + 24 * ((o + n) % 5)) A) (hfr : ∀ r, 182 ≤ r → M1 r = M r) (hr : AN M1 2 why good A' r) (hg : 0 ≤ good ∧ good < 2147483648) (hw : -2147483648 ≤ why) : CAns M why good A A' P n o S sv pd len st stp (f_130 r.2 r.1) := by
  rcases hr with ⟨w, rfl⟩ | ⟨w, rfl, k1, k2⟩
  · have e : f_130 (why, M1).2 (why, M1).1 = (why, M1) := by
      unfold f_130
      show (if wr why < 0 then _ else _) = _
      rw [wri why hw (by omega), if_pos w]
    rw [e]
    exact ⟨hfr, Or.inl ⟨w, rfl, hR1, h⟩⟩
  · have e : f_130 r.2 r.1 = (r.1, f_24 r.2) := by
      unfold f_130
      rw [wri r.1 (by omega) (by omega), if_neg (by omega), bnd_def]
    rw [e]
    obtain ⟨j1, j2, j3⟩ := c_24 (M := r.2) (A := A) (A' := A') (P := P) (n := n) (o := o) (S := S) (sv := sv) (pd := pd) (len := len) (st := st) (stp := stp) k1 (CWr_frame (fun r r1 r2 => k2 r (by omega)) h) (RC_frame (fun r r1 r2 => k2 r (by omega)) hF)
    exact ⟨fun k hk => by show f_24 r.2 k = M k; rw [j3 k (by omega), k2 k (by omega), hfr k hk], Or.inr ⟨w, rfl, j1, j2⟩⟩
/-- settings -/
def romOk (rom : xRom) : Prop := rom 0 = (3, fun j => [2, 0, 0].getD j 0) ∧ rom 1 = (3, fun j => [16, 8, 100].getD j 0)
def whySet (w v : Int) : Int := if (w = 0 ∧ 2 ≤ v ∧ v ≤ 16) ∨ (w = 1 ∧ 0 ≤ v ∧ v ≤ 8) ∨ (w = 2 ∧ 0 ≤ v ∧ v ≤ 100) then 0 else -1
theorem c_133 {rom : xRom} (hrom : romOk rom) {w v : Int} (hw : 0 ≤ w ∧ w < 3) (hv : -2147483648 ≤ v ∧ v < 2147483648) : ∃ z, f_133 rom M w v = some z ∧ (wr z = 0 ↔ ¬ whySet w v = 0) := by
  obtain ⟨h0, h1⟩ := hrom
  unfold f_133
  rw [h0, h1, wri w (by omega) (by omega), wri v hv.1 hv.2]
  show ∃ z, (if w < 0 then some (0 : Int) else if wr ((3 : Nat) : Int) ≤ w then some 0 else if wr ((3 : Nat) : Int) ≤ w then some 0 else gd (0 ≤ w ∧ w < ((3 : Nat) : Int)) (if v < wr (([2, 0, 0] : List Int).getD w.toNat 0) then some 0 else gd (0 ≤ w ∧ w < ((3 : Nat) : Int)) (if wr (([16, 8, 100] : List Int).getD w.toNat 0) < v then some 0 else some 1))) = some z ∧ _
  rw [if_neg (by omega), wri ((3 : Nat) : Int) (by omega) (by omega), if_neg (by omega), if_neg (by omega), gd_pos (by omega), gd_pos (by omega)]
  have cases3 : w = 0 ∨ w = 1 ∨ w = 2 := by omega
  have w1 : ¬ wr 1 = 0 := by decide +kernel
  have fin : ∀ a c : Int, (-1000 ≤ a ∧ a ≤ 1000) → (-1000 ≤ c ∧ c ≤ 1000) → (whySet w v = 0 ↔ (a ≤ v ∧ v ≤ c)) → ∃ z, (if v < wr a then some (0 : Int) else if wr c < v then some 0 else some 1) = some z ∧ (wr z = 0 ↔ ¬ whySet w v = 0) := by
    intro a c ha hc hw
    rw [wri a (by omega) (by omega), wri c (by omega) (by omega), hw]
    by_cases q1 : v < a
    · rw [if_pos q1]; exact ⟨0, rfl, ⟨fun _ => by omega, fun _ => wr0⟩⟩
    · rw [if_neg q1]
      by_cases q2 : c < v
      · rw [if_pos q2]; exact ⟨0, rfl, ⟨fun _ => by omega, fun _ => wr0⟩⟩
      · rw [if_neg q2]; exact ⟨1, rfl, ⟨fun x => absurd x w1, fun x => absurd ⟨by omega, by omega⟩ x⟩⟩
  have wk : ∀ a c : Int, (∀ u : Int, u = v → ((w = 0 ∧ 2 ≤ u ∧ u ≤ 16) ∨ (w = 1 ∧ 0 ≤ u ∧ u ≤ 8) ∨ (w = 2 ∧ 0 ≤ u ∧ u ≤ 100) ↔ (a ≤ u ∧ u ≤ c))) → (whySet w v = 0 ↔ (a ≤ v ∧ v ≤ c)) := by
    intro a c h
    unfold whySet
    have := h v rfl
    by_cases q : (w = 0 ∧ 2 ≤ v ∧ v ≤ 16) ∨ (w = 1 ∧ 0 ≤ v ∧ v ≤ 8) ∨ (w = 2 ∧ 0 ≤ v ∧ v ≤ 100)
    · rw [if_pos q]; exact ⟨fun _ => this.mp q, fun _ => rfl⟩
    · rw [if_neg q]; exact ⟨fun x => by omega, fun x => absurd (this.mpr x) q⟩
  rcases cases3 with h | h | h <;> subst h
  · exact fin 2 16 (by decide) (by decide) (wk 2 16 (fun u _ => by omega))
  · exact fin 0 8 (by decide) (by decide) (wk 0 8 (fun u _ => by omega))
  · exact fin 0 100 (by decide) (by decide) (wk 0 100 (fun u _ => by omega))
theorem c_87 {b : Nat} {A : xM} {rom : xRom} (hrom : romOk rom) (hR : RC M b A) {w v : Int} (hw : -2147483648 ≤ w ∧ w < 2147483648) (hv : -2147483648 ≤ v ∧ v < 2147483648) : ∃ r, f_87 rom M b w v = some r ∧ AN M b (whySet w v) (A 0 (3 + w.toNat)) (aSet A w.toNat v) r := by
  unfold f_87
  rw [wri w hw.1 hw.2]
  have bad : ¬ (0 ≤ w ∧ w < 3) → whySet w v = -1 := fun h => by unfold whySet; rw [if_neg (by omega)]
  by_cases q1 : w < 0
  · rw [if_pos q1, bad (by omega)]; exact ⟨_, rfl, Or.inl ⟨by decide, rfl⟩⟩
  · rw [if_neg q1]
    by_cases q2 : 3 ≤ w
    · rw [if_pos q2, bad (by omega)]; exact ⟨_, rfl, Or.inl ⟨by decide, rfl⟩⟩
    · rw [if_neg q2]
      obtain ⟨z, k1, k2⟩ := c_133 (M := M) hrom (w := w) (v := v) (by omega) hv
      rw [k1, Option.bind_some]
      by_cases q3 : whySet w v = 0
      · rw [if_neg (fun x => k2.mp x q3), bnd_def, q3]
        obtain ⟨j, hj⟩ : ∃ j : Nat, w = (j : Int) := ⟨w.toNat, by omega⟩
        subst hj
        rw [Int.toNat_natCast]
        have hj3 : j = 0 ∨ j = 1 ∨ j = 2 := by omega
        obtain ⟨s1, s2, s3, s4, s5, s6, s7, s8, s9, s10, s11⟩ := hR.1
        have ak : ∀ k, k ≠ 3 + j → aSet A j v 0 k = A 0 k := fun k a => by unfold aSet; rw [xset_j a]
        have ae : aSet A j v 0 (3 + j) = v := by unfold aSet; rw [xset_eq]
        have ne : ∀ r, r ≠ b + 1 → xset M (b + 1) j v r = M r := fun r h => funext fun k => xset_r h
        refine ⟨_, rfl, Or.inr ⟨rfl, ?_, RC_nums hR (fun r _ a => ne r a) ?_ ?_ (fun k hk => ak k (by omega)) (fun r x h1 h2 => by unfold aSet; rw [xset_r (by omega)]) (fun q => ?_), fun r hr => ne r (by omega)⟩⟩
        · rcases hj3 with h | h | h <;> subst h
          · exact s9
          · exact s10
          · exact s11
        · unfold RCs
          dsimp only
          rw [ne b (by omega), ak 0 (by omega), ak 1 (by omega), ak 2 (by omega), ak 7 (by omega), ak 8 (by omega), ak 9 (by omega), ak 10 (by omega), ak 13 (by omega)]
          refine ⟨s1, s2, s3, s4, s5, s6, s7, s8, ?_, ?_, ?_⟩
          · rcases hj3 with h | h | h <;> subst h
            · rw [xset_eq]; exact ae.symm
            · rw [xset_j (by decide), ak 3 (by decide)]; exact s9
            · rw [xset_j (by decide), ak 3 (by decide)]; exact s9
          · rcases hj3 with h | h | h <;> subst h
            · rw [xset_j (by decide), ak 4 (by decide)]; exact s10
            · rw [xset_eq]; exact ae.symm
            · rw [xset_j (by decide), ak 4 (by decide)]; exact s10
          · rcases hj3 with h | h | h <;> subst h
            · rw [xset_j (by decide), ak 5 (by decide)]; exact s11
            · rw [xset_j (by decide), ak 5 (by decide)]; exact s11
            · rw [xset_eq]; exact ae.symm
        · rw [ak 7 (by omega), ak 8 (by omega)]; exact Int.le_refl _
        · unfold tkr at q
          rw [ak 0 (by omega)] at q
          refine ⟨q, ?_, ak 11 (by omega), ak 12 (by omega), fun x => by unfold aSet; rw [xset_r (by decide)]⟩
          unfold tkc
          rw [ak 0 (by omega), ak 6 (by omega)]
      · have e : whySet w v = -1 := by
          unfold whySet at q3 ⊢
          split at q3
          · exact absurd rfl q3
          · rw [if_neg (by assumption)]
        rw [if_pos (k2.mpr q3), e]; exact ⟨_, rfl, Or.inl ⟨by decide, rfl⟩⟩
end WD
