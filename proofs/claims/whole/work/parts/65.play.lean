/-! MEANING, 36: the pad is played -/
section PL
variable {M A : xM} {T : Int} {P : Nat → xM} {n o : Nat} {S : xM} {sv : Int} {pd : Nat → Int} {len : Nat} {st : Nat → Int} {stp : Int}
theorem CWr_halt {M' : xM} {st' : Nat → Int} {stp' : Int} (h : CWr M P n o S sv pd len st stp) (hr : ∀ r, (r < 2 ∨ 26 ≤ r) → r < 182 → r ≠ 172 → r ≠ 176 → M' r = M r) (h1 : M' 172 1 = 0) (h2 : M' 176 0 = stp') (h3 : stp' = 1 → M' 176 1 = st' 0 ∧ M' 176 2 = st' 1 ∧ M' 176 3 = st' 2) : CWr M' P n o S sv pd 0 st' stp' := by
  obtain ⟨g1, g2, g3, g4, g5, g6, g7⟩ := h
  refine ⟨?_, fun i hi => ?_, ?_, fun w => ?_, ⟨?_, fun j hj => absurd hj (Nat.not_lt_zero j)⟩, h2, h3⟩
  · rw [hr 50 (by omega) (by omega) (by omega) (by omega)]; exact g1
  · exact RC_frame (fun r r1 r2 => hr r (by omega) (by omega) (by omega) (by omega)) (g2 i hi)
  · rw [hr 1 (by omega) (by omega) (by omega) (by omega)]; exact g3
  · exact RC_frame (fun r r1 r2 => hr r (by omega) (by omega) (by omega) (by omega)) (g4 w)
  · rw [h1]; rfl
theorem MWr_halt {M' : xM} {st' : Nat → Int} {stp' : Int} (h : MWr M P n S sv pd len st stp) (h184 : M' 184 = M 184) (h185 : M' 185 = M 185) (h2 : M' 182 2 = M 182 2) (h4 : M' 182 4 = M 182 4) (h6 : M' 182 6 = 0) (h8 : M' 182 8 = stp') (h3 : stp' = 1 → M' 187 0 = st' 0 ∧ M' 187 1 = st' 1 ∧ M' 187 2 = st' 2) : MWr M' P n S sv pd 0 st' stp' := by
  obtain ⟨g1, g2, g3, g4, g5, g6, g7⟩ := h
  refine ⟨h2.trans g1, fun i hi => ?_, h4.trans g3, fun w => ?_, ⟨?_, fun j hj => absurd hj (Nat.not_lt_zero j)⟩, h8, h3⟩
  · have := g2 i hi; unfold inS at this ⊢; rw [h184]; exact this
  · have := g4 w; unfold inS at this ⊢; rw [h185]; exact this
  · rw [h6]; rfl
theorem ordWhy_b {c k f : Int} : -3 ≤ ordWhy A c k f := by
  unfold ordWhy whyHit whyPress whyStop whyPeel whyBack
  repeat' split
  all_goals omega
theorem f46_2 : (f_46 M).2 = xset M 172 1 0 := rfl
theorem cb_out {v1 : Int} {p : Nat} (h172 : M 172 1 = (len : Int)) (hl : len ≤ 60) (hp : p ≤ 61) (h : len ≤ p ∨ M 176 0 = 1) : f_110_L48b v1 (p : Int) M = some (Sum.inr (v1, xset M 172 1 0)) := by
  unfold f_110_L48b f_44
  rw [h172, wri (len : Int) (by omega) (by omega), wri (p : Int) (by omega) (by omega)]
  by_cases q : len ≤ p
  · rw [if_pos (by omega), bnd_def, f46_2]
  · have e : M 176 0 = 1 := by omega
    have e16 : f_16 M = some 1 := by unfold f_16; rw [e, gd_pos (by decide +kernel)]
    rw [if_neg (by omega), e16, Option.bind_some, if_neg (by decide +kernel), bnd_def, f46_2]
theorem c_48 (h : PC M pd len) {p : Nat} (hp : p < len) : f_48 M (p : Int) = some (if 97 ≤ pd p ∧ pd p ≤ 122 then 1 else 0) := by
  have h3 := h.2.2.1
  have b := h.2.2.2 p hp
  unfold f_48
  rw [c_47 h (show p < 1000 by omega), if_pos hp, Option.bind_some, wri (pd p) (by omega) (by omega)]
  by_cases q : pd p < 97
  · rw [if_pos q, if_neg (by omega)]
  · rw [if_neg q, Option.bind_some, wri (pd p) (by omega) (by omega)]
    by_cases q2 : 122 < pd p
    · rw [if_pos q2, if_neg (by omega)]
    · rw [if_neg q2, if_pos (by omega)]
theorem cb_skip (h : PC M pd len) (h0 : M 176 0 = 0) {v1 : Int} {p : Nat} (hp : p < len) (hs : pd p ≤ 57) : f_110_L48b v1 (p : Int) M = some (Sum.inl (v1, (p : Int) + 1, M)) := by
  have h3 := h.2.2.1
  have e16 : f_16 M = some 0 := by unfold f_16; rw [h0, gd_pos (by decide +kernel)]
  have e48 := c_48 h hp
  rw [if_neg (by omega)] at e48
  unfold f_110_L48b f_44
  rw [h.1, wri (len : Int) (by omega) (by omega), wri (p : Int) (by omega) (by omega), if_neg (by omega), e16, Option.bind_some, if_pos wr0, e48, Option.bind_some, if_pos wr0]
theorem cb_do (h : PC M pd len) (h0 : M 176 0 = 0) {v1 : Int} {p : Nat} (hp : p < len) (hs : 97 ≤ pd p ∧ pd p ≤ 122) {r : Int × xM} (hr : f_131 M (p : Int) = some r) : f_110_L48b v1 (p : Int) M = if 0 ≤ wr r.1 then some (Sum.inl (v1 + 1, (p : Int) + 1, r.2)) else some (Sum.inl (v1, (p : Int) + 1, f_18 r.2 r.1 v1 (p : Int))) := by
  have h3 := h.2.2.1
  have e16 : f_16 M = some 0 := by unfold f_16; rw [h0, gd_pos (by decide +kernel)]
  have e48 := c_48 h hp
  rw [if_pos hs] at e48
  unfold f_110_L48b f_44
  rw [h.1, wri (len : Int) (by omega) (by omega), wri (p : Int) (by omega) (by omega), if_neg (by omega), e16, Option.bind_some, if_pos wr0, e48, Option.bind_some, w_small.1, if_neg (by decide), hr, Option.bind_some]
  rfl
abbrev cB : Int × Int × xM → Option ((Int × Int × xM) ⊕ (Int × xM)) := fun s => f_110_L48b s.1 s.2.1 s.2.2
abbrev mB : Int × Int × xM → Option ((Int × Int × xM) ⊕ (Int × xM)) := fun s => f_191_L26b s.1 s.2.1 s.2.2
theorem c_skips (h : PC M pd len) (h0 : M 176 0 = 0) {v1 : Int} {p e : Nat} (he : e ≤ len) (hm : ∀ j, p < j → j < e → pd j ≤ 57) : ∀ (d j f : Nat), p < j → j + d = e → loop (f + d) cB (v1, (j : Int), M) = loop f cB (v1, (e : Int), M) := by
  intro d
  induction d with
  | zero => intro j f h1 h2; rw [show j = e by omega]; rfl
  | succ d ih =>
    intro j f h1 h2
    have b := cb_skip h h0 (v1 := v1) (p := j) (by omega) (hm j h1 (by omega))
    have := ih (j + 1) f (by omega) (by omega)
    rw [show ((j + 1 : Nat) : Int) = (j : Int) + 1 by omega] at this
    exact (lpI (b := cB) (s := (v1, (j : Int), M)) (s' := (v1, (j : Int) + 1, M)) (F := f + d) b).trans this
/-- the reference's step -/
theorem mb_end {v1 : Int} (h6 : M 182 6 = (len : Int)) (hl : len ≤ 60) {p : Nat} (hp : p ≤ 61) (h : len ≤ p ∨ M 182 8 = 1) : f_191_L26b v1 (p : Int) M = some (Sum.inr (v1, xset M 182 6 0)) := by
  unfold f_191_L26b
  rw [h6, wri (len : Int) (by omega) (by omega), wri (p : Int) (by omega) (by omega)]
  by_cases q : len ≤ p
  · rw [if_pos (by omega), bnd_def]
  · have e : M 182 8 = 1 := by omega
    rw [if_neg (by omega), e, w_small.1, if_neg (by decide), bnd_def]
theorem play_loop : ∀ (k p : Nat), len - p = k → p ≤ len → RO pd len 1 p = -4 → ∀ (T : Int) (M N A : xM) (v1 : Int) (st st' : Nat → Int), OKr T P n S sv pd len 0 → RC M 2 A → CWr M P n o S sv pd len st 0 → inS N A 183 0 → MWr N P n S sv pd len st' 0 → WX T A → ∀ f g, len - p < f → len - p < g →
    ∃ r1 r2, loop f cB (v1, (p : Int), M) = some r1 ∧ loop g mB (v1, (p : Int), N) = some r2 ∧ r1.1 = r2.1 ∧ (∀ k, 182 ≤ k → r1.2 k = M k) ∧ (∀ k, k < 182 → r2.2 k = N k) ∧ ∃ A' s' stp', RC r1.2 2 A' ∧ CWr r1.2 P n o S sv pd 0 s' stp' ∧ inS r2.2 A' 183 0 ∧ MWr r2.2 P n S sv pd 0 s' stp' ∧ (stp' = 0 ∨ stp' = 1) ∧ WX (T + 150 * ((len : Int) - p)) A' := by
  intro k
  induction k using Nat.strongRecOn with
  | _ k ih =>
    intro p hk hp hf T M N A v1 st st' hO hR hC hI hM hX f g hfl hgl
    have h3 : len ≤ 60 := hO.2.2.2.1
    have h4 := hO.2.2.2.2.1
    have hPC : PC M pd len := ⟨hC.2.2.2.2.1.1, hC.2.2.2.2.1.2, h3, h4⟩
    have hPM : PM N pd len := ⟨hM.2.2.2.2.1.1, hM.2.2.2.2.1.2, h3, h4⟩
    have c0 : M 176 0 = 0 := hC.2.2.2.2.2.1
    have m0 : N 182 8 = 0 := hM.2.2.2.2.2.1
    obtain ⟨f, rfl⟩ : ∃ f', f = f' + 1 := ⟨f - 1, by omega⟩
    obtain ⟨g, rfl⟩ : ∃ g', g = g' + 1 := ⟨g - 1, by omega⟩
    by_cases hend : len ≤ p
    · have b1 := cb_out (M := M) (v1 := v1) (p := p) hPC.1 h3 (by omega) (Or.inl hend)
      have b2 := mb_end (M := N) (v1 := v1) (p := p) hPM.1 h3 (by omega) (Or.inl hend)
      have L1 := lpO (b := cB) (s := (v1, (p : Int), M)) (F := f) b1
      have L2 := lpO (b := mB) (s := (v1, (p : Int), N)) (F := g) b2
      refine ⟨_, _, L1, L2, rfl, fun k hk => ?_, fun k hk => ?_, A, st, 0, ?_, ?_, ?_, ?_, Or.inl rfl, WX_mono hX (by omega)⟩
      · funext c; exact xset_r (by omega)
      · funext c; exact xset_r (by omega)
      · exact RC_frame (fun r a b => by funext c; exact xset_r (by omega)) hR
      · show CWr (xset M 172 1 0) P n o S sv pd 0 st 0
        exact CWr_halt hC (fun r a b d e => by funext c; exact xset_r d) xset_eq (by rw [xset_r (by decide)]; exact c0) (fun w => absurd w (by decide))
      · show inS (xset N 182 6 0) A 183 0
        exact inS_frame (xset_ne (by decide)) hI
      · show MWr (xset N 182 6 0) P n S sv pd 0 st 0
        exact MWr_halt hM (xset_ne (by decide)) (xset_ne (by decide)) (by rw [xset_j (by decide)]) (by rw [xset_j (by decide)]) xset_eq (by rw [xset_j (by decide)]; exact m0) (fun w => absurd w (by decide))
    · have hpl : p < len := by omega
      obtain ⟨e, he, he1, he2, he3⟩ := ord_next h4 hpl hf
      have hlet := ord_letter h4 hpl hf
      obtain ⟨r, good, j1, j2, j3⟩ := c_131 hPC hR hX hpl hf
      have b1 := cb_do hPC c0 (v1 := v1) hpl (by omega) j1
      have i1 := m_189 hPM hI hX hpl hf
      have hWW := ord_W hX h4 hpl hf
      have hWb := ordWhy_b (A := A) (c := pd p) (k := kA pd len p) (f := fA pd len p)
      generalize ordWhy A (pd p) (kA pd len p) (fA pd len p) = W at j2 j3 i1 hWW hWb
      generalize ordDo A (pd p) (kA pd len p) (fA pd len p) = D at j3 i1 hWW
      rcases j3 with ⟨w, hr⟩ | ⟨w, hr, hCU⟩
      · subst hr
        rw [wri W (by omega) (by omega), if_neg (by omega)] at b1
        rw [if_neg (by omega)] at i1
        obtain ⟨M2, hM2⟩ : ∃ M2, M2 = f_18 M W v1 (p : Int) := ⟨_, rfl⟩
        have b1' : f_110_L48b v1 (p : Int) M = some (Sum.inl (v1, (p : Int) + 1, M2)) := by rw [b1, hM2]
        have eM2 : M2 = xset (xset (xset (xset M 176 0 1) 176 1 W) 176 2 v1) 176 3 (p : Int) := hM2
        have M2r : ∀ r, r ≠ 176 → M2 r = M r := fun r a => by rw [eM2]; funext c; rw [xset_r a, xset_r a, xset_r a, xset_r a]
        obtain ⟨N2, hN2⟩ : ∃ N2, N2 = xset (xset (xset (xset N 182 8 1) 187 0 W) 187 1 v1) 187 2 (p : Int) := ⟨_, rfl⟩
        have b2 : f_191_L26b v1 (p : Int) N = some (Sum.inl (v1, (p : Int), N2)) := by
          unfold f_191_L26b
          rw [hPM.1, wri (len : Int) (by omega) (by omega), wri (p : Int) (by omega) (by omega), if_neg (by omega), m0, if_pos wr0, i1, Option.bind_some, wri W (by omega) (by omega), if_neg (by omega), hN2]
          rfl
        have N2r : ∀ r, r ≠ 182 → r ≠ 187 → N2 r = N r := fun r a b => by rw [hN2]; funext c; rw [xset_r b, xset_r b, xset_r b, xset_r a]
        have N2c : ∀ c, c ≠ 8 → N2 182 c = N 182 c := fun c a => by rw [hN2, xset_r (by decide), xset_r (by decide), xset_r (by decide), xset_j a]
        have N28 : N2 182 8 = 1 := by rw [hN2, xset_r (by decide), xset_r (by decide), xset_r (by decide), xset_eq]
        have M20 : M2 176 0 = 1 := by rw [eM2, xset_j (by decide), xset_j (by decide), xset_j (by decide), xset_eq]
        have o1 := cb_out (M := M2) (v1 := v1) (p := p + 1) (len := len) (by rw [M2r 172 (by decide)]; exact hPC.1) h3 (by omega) (Or.inr M20)
        have o2 := mb_end (M := N2) (v1 := v1) (p := p) (len := len) (by rw [N2c 6 (by decide)]; exact hPM.1) h3 (by omega) (Or.inr N28)
        rw [show ((p + 1 : Nat) : Int) = (p : Int) + 1 by omega] at o1
        obtain ⟨f, rfl⟩ : ∃ f', f = f' + 1 := ⟨f - 1, by omega⟩
        obtain ⟨g, rfl⟩ : ∃ g', g = g' + 1 := ⟨g - 1, by omega⟩
        have L1 : loop (f + 1 + 1) cB (v1, (p : Int), M) = some (v1, xset M2 172 1 0) := (lpI (b := cB) (s := (v1, (p : Int), M)) (s' := (v1, (p : Int) + 1, M2)) (F := f + 1) b1').trans (lpO (b := cB) (s := (v1, (p : Int) + 1, M2)) (F := f) o1)
        have L2 : loop (g + 1 + 1) mB (v1, (p : Int), N) = some (v1, xset N2 182 6 0) := (lpI (b := mB) (s := (v1, (p : Int), N)) (s' := (v1, (p : Int), N2)) (F := g + 1) b2).trans (lpO (b := mB) (s := (v1, (p : Int), N2)) (F := g) o2)
        clear ih o1 o2 b1 b1' b2 i1 j1 j2 hWW
        refine ⟨_, _, L1, L2, rfl, fun k hk => ?_, fun k hk => ?_, A, fun i => if i = 0 then W else if i = 1 then v1 else (p : Int), 1, ?_, ?_, ?_, ?_, Or.inr rfl, WX_mono hX (by omega)⟩
        · rw [← M2r k (by omega)]; funext c; exact xset_r (by omega)
        · rw [← N2r k (by omega) (by omega)]; funext c; exact xset_r (by omega)
        · exact RC_frame (fun r a b => by rw [← M2r r (by omega)]; funext c; exact xset_r (by omega)) hR
        · show CWr (xset M2 172 1 0) P n o S sv pd 0 (fun i => if i = 0 then W else if i = 1 then v1 else (p : Int)) 1
          refine CWr_halt hC (fun r a b d e => (xset_ne d).trans (M2r r e)) xset_eq ?_ (fun _ => ⟨?_, ?_, ?_⟩)
          · rw [xset_r (by decide)]; exact M20
          · rw [xset_r (by decide), eM2, xset_j (by decide), xset_j (by decide), xset_eq]; rfl
          · rw [xset_r (by decide), eM2, xset_j (by decide), xset_eq]; rfl
          · rw [xset_r (by decide), eM2, xset_eq]; rfl
        · show inS (xset N2 182 6 0) A 183 0
          exact inS_frame ((xset_ne (by decide)).trans (N2r 183 (by decide) (by decide))) hI
        · show MWr (xset N2 182 6 0) P n S sv pd 0 (fun i => if i = 0 then W else if i = 1 then v1 else (p : Int)) 1
          refine MWr_halt hM ((xset_ne (by decide)).trans (N2r 184 (by decide) (by decide))) ((xset_ne (by decide)).trans (N2r 185 (by decide) (by decide))) ?_ ?_ xset_eq ?_ (fun _ => ⟨?_, ?_, ?_⟩)
          · rw [xset_j (by decide)]; exact N2c 2 (by decide)
          · rw [xset_j (by decide)]; exact N2c 4 (by decide)
          · rw [xset_j (by decide)]; exact N28
          · rw [xset_r (by decide), hN2, xset_j (by decide), xset_j (by decide), xset_eq]; rfl
          · rw [xset_r (by decide), hN2, xset_j (by decide), xset_eq]; rfl
          · rw [xset_r (by decide), hN2, xset_eq]; rfl
      · have hg := j2 w
        rw [hr, wri good (by omega) (by omega), if_pos hg.1] at b1
        rw [if_pos w] at i1
        have hX2 := hWW w
        rw [he] at hX2
        have Mr : ∀ q, (q < 2 ∨ 26 ≤ q) → r.2 q = M q := hCU.2
        have hC2 : CWr r.2 P n o S sv pd len st 0 := CWr_frame (fun q a b => Mr q a) hC
        have hI2 : inS (mS N D) D 183 0 := mS_inS
        have hM2 : MWr (mS N D) P n S sv pd len st' 0 := MWr_frame (fun q a b c => mS_ne c) hM
        have hPC2 : PC r.2 pd len := ⟨hC2.2.2.2.2.1.1, hC2.2.2.2.2.1.2, h3, h4⟩
        have hPM2 : PM (mS N D) pd len := ⟨hM2.2.2.2.2.1.1, hM2.2.2.2.2.1.2, h3, h4⟩
        have e186 := m_186 hPM2 (show p < 100 by omega)
        rw [he] at e186
        have b2 : f_191_L26b v1 (p : Int) N = some (Sum.inl (v1 + 1, (e : Int), mS N D)) := by
          unfold f_191_L26b
          rw [hPM.1, wri (len : Int) (by omega) (by omega), wri (p : Int) (by omega) (by omega), if_neg (by omega), m0, if_pos wr0, i1, Option.bind_some, w, wr0, if_pos (by decide), e186, Option.bind_some]
        have sk := c_skips hPC2 hC2.2.2.2.2.2.1 (v1 := v1 + 1) he2 (p := p) (fun j a b => ord_mid h4 hpl hf a (by omega)) (e - (p + 1)) (p + 1) (f - (e - (p + 1))) (by omega) (by omega)
        rw [show f - (e - (p + 1)) + (e - (p + 1)) = f by omega, show ((p + 1 : Nat) : Int) = (p : Int) + 1 by omega] at sk
        obtain ⟨r1, r2, k1, k2, k3, k4, k5, A', s', stp', k6, k7, k8, k9, k10, k11⟩ := ih (len - e) (by omega) e rfl he2 he3 (T + 150 * ((e : Int) - p)) r.2 (mS N D) D (v1 + 1) st st' (OKr_mono hO (by omega)) hCU.1 hC2 hI2 hM2 hX2 (f - (e - (p + 1))) g (by omega) (by omega)
        have L1 : loop (f + 1) cB (v1, (p : Int), M) = some r1 := (lpI (b := cB) (s := (v1, (p : Int), M)) (s' := (v1 + 1, (p : Int) + 1, r.2)) (F := f) b1).trans (sk.trans k1)
        have L2 : loop (g + 1) mB (v1, (p : Int), N) = some r2 := (lpI (b := mB) (s := (v1, (p : Int), N)) (s' := (v1 + 1, (e : Int), mS N D)) (F := g) b2).trans k2
        refine ⟨r1, r2, L1, L2, k3, fun k hk => (k4 k hk).trans (Mr k (by omega)), fun k hk => (k5 k hk).trans (mS_ne (by omega)), A', s', stp', k6, k7, k8, k9, k10, WX_mono k11 (by omega)⟩
end PL
