/-! functions for methods, by program (wip/whole/gen/dec.py) -/
/-- PedalLayers$Pedal.lowestHeardKey -/
def f_65 (M : xM) (a0 : Nat) : Int :=
  if wr (M a0 3) = 0 then
    0
  else
    12
theorem t_65 {rom : xRom} {d : Nat} {M : xM} {a0 : Nat} (h0 : Tg a0 = 7) {r : Int} {out : Option xV × xH} (e : f_65 M a0 = r) (hK : eI M out r) : Rn rom (d + 0) 65 (0, [some (vR a0)], [], (G0, M)) out := by
  have hc : xkall.getD 65 [] = xk_65 := rfl
  unfold f_65 at e
  refine Rn_ms (σ' := (1, [some (vR a0)], [vR a0], (G0, M))) hc 1 rfl ?_
  refine Rn_getI hc rfl h0 (by decide) (by decide) ?_
  show Rn rom (d + 0) 65 (4, [some (vR a0)], [vI (M a0 3)], (G0, M)) out
  refine R_ite e (fun b1 e => ?_) (fun b1 e => ?_)
  · refine Rn_ifT (tgt := 12) hc rfl rfl (by decide) b1 ?_
    refine Rn_ms (σ' := (13, [some (vR a0)], [vI 0], (G0, M))) hc 1 rfl ?_
    cases e
    exact R_end (Rn_iret hc rfl rfl (xretI rfl rfl)) hK
  · refine Rn_ifF hc rfl rfl (by decide) b1 ?_
    refine Rn_ms (σ' := (13, [some (vR a0)], [vI 12], (G0, M))) hc 2 rfl ?_
    cases e
    exact R_end (Rn_iret hc rfl rfl (xretI rfl rfl)) hK
/-- PedalLayers$Pedal.layerAt -/
def f_57 (a0 : Nat) (a1 : Int) : Nat :=
  if wr a1 < 0 then
    0
  else
    if 6 ≤ wr a1 then
      0
    else
      (a0 + 6 + 3 * ((wr a1).toNat))
theorem t_57 {rom : xRom} {d : Nat} {M : xM} {a0 : Nat} {a1 : Int} (h0 : Tg a0 = 7) {r : Nat} {out : Option xV × xH} (e : f_57 a0 a1 = r) (hK : eR M out r) : Rn rom (d + 0) 57 (0, [some (vR a0), some (vI a1)], [], (G0, M)) out := by
  have hc : xkall.getD 57 [] = xk_57 := rfl
  unfold f_57 at e
  refine Rn_ms (σ' := (1, [some (vR a0), some (vI a1)], [vI a1], (G0, M))) hc 1 rfl ?_
  refine R_ite e (fun b1 e => ?_) (fun b1 e => ?_)
  · refine Rn_ifT (tgt := 22) hc rfl rfl (by decide) b1 ?_
    refine Rn_ms (σ' := (23, [some (vR a0), some (vI a1)], [vR 0], (G0, M))) hc 1 rfl ?_
    cases e
    exact R_end (Rn_aret hc rfl rfl rfl rfl) hK
  · refine Rn_ifF hc rfl rfl (by decide) b1 ?_
    refine Rn_ms (σ' := (6, [some (vR a0), some (vI a1)], [vR a0, vI a1], (G0, M))) hc 2 rfl ?_
    refine Rn_getR hc rfl h0 (by decide) rfl (gP7_0_1 h0) ?_
    show Rn rom (d + 0) 57 (9, [some (vR a0), some (vI a1)], [vR (a0 + 2), vI a1], (G0, M)) out
    refine Rn_alen hc rfl rfl (gT7_2 h0) (by decide) (gZ7_2 h0) ?_
    show Rn rom (d + 0) 57 (10, [some (vR a0), some (vI a1)], [vI 6, vI a1], (G0, M)) out
    refine R_ite e (fun b2 e => ?_) (fun b2 e => ?_)
    · refine Rn_icT (tgt := 22) hc rfl rfl (by decide) b2 ?_
      refine Rn_ms (σ' := (23, [some (vR a0), some (vI a1)], [vR 0], (G0, M))) hc 1 rfl ?_
      cases e
      exact R_end (Rn_aret hc rfl rfl rfl rfl) hK
    · refine Rn_icF hc rfl rfl (by decide) b2 ?_
      refine Rn_ms (σ' := (14, [some (vR a0), some (vI a1)], [vR a0], (G0, M))) hc 1 rfl ?_
      refine Rn_getR hc rfl h0 (by decide) rfl (gP7_0_1 h0) ?_
      refine Rn_ms (σ' := (18, [some (vR a0), some (vI a1)], [vI a1, vR (a0 + 2)], (G0, M))) hc 1 rfl ?_
      refine Rn_aald' (gE7 h0 _ (by omega)) hc rfl rfl (Or.inr (gT7_2 h0)) (gZ7_2 h0) (by omega) rfl ?_
      refine Rn_ms (σ' := (23, [some (vR a0), some (vI a1)], [vR (a0 + 6 + 3 * ((wr a1).toNat))], (G0, M))) hc 1 rfl ?_
      cases e
      exact R_end (Rn_aret hc rfl rfl rfl rfl) hK
/-- PedalLayers$Pedal.layerOnLoop -/
def f_58 (M : xM) (a0 : Nat) (a1 : Int) : Nat :=
  if wr (M a0 5) ≤ wr a1 then
    0
  else
    (f_57 a0 a1)
theorem t_58 {rom : xRom} {d : Nat} {M : xM} {a0 : Nat} {a1 : Int} (h0 : Tg a0 = 7) {r : Nat} {out : Option xV × xH} (e : f_58 M a0 a1 = r) (hK : eR M out r) : Rn rom (d + 1) 58 (0, [some (vR a0), some (vI a1)], [], (G0, M)) out := by
  have hc : xkall.getD 58 [] = xk_58 := rfl
  unfold f_58 at e
  refine Rn_ms (σ' := (2, [some (vR a0), some (vI a1)], [vR a0, vI a1], (G0, M))) hc 2 rfl ?_
  refine Rn_getI hc rfl h0 (by decide) (by decide) ?_
  show Rn rom (d + 1) 58 (5, [some (vR a0), some (vI a1)], [vI (M a0 5), vI a1], (G0, M)) out
  refine R_ite e (fun b1 e => ?_) (fun b1 e => ?_)
  · refine Rn_icT (tgt := 16) hc rfl rfl (by decide) b1 ?_
    refine Rn_ms (σ' := (17, [some (vR a0), some (vI a1)], [vR 0], (G0, M))) hc 1 rfl ?_
    cases e
    exact R_end (Rn_aret hc rfl rfl rfl rfl) hK
  · refine Rn_icF hc rfl rfl (by decide) b1 ?_
    refine Rn_ms (σ' := (10, [some (vR a0), some (vI a1)], [vI a1, vR a0], (G0, M))) hc 2 rfl ?_
    refine Rn_cv hc rfl rfl (by decide) (ii := xi_57) rfl rfl rfl (h0 : Tg _ = 7) (by decide) rfl (le := [some (vR a0), some (vI a1)]) rfl (v := some (vR (f_57 a0 a1))) (M' := M) (t_57 h0 (d := d + 0) rfl rfl) ?_
    refine Rn_ms (σ' := (17, [some (vR a0), some (vI a1)], [vR (f_57 a0 a1)], (G0, M))) hc 1 rfl ?_
    cases e
    exact R_end (Rn_aret hc rfl rfl rfl rfl) hK
/-- PedalLayers$Pedal.soundingLayer -/
def f_66 (M : xM) (a0 : Nat) (a1 : Int) : Option (Nat) :=
  if (f_58 M a0 a1) = 0 then
    some (0)
  else
    gd (Tg (f_58 M a0 a1) = 3) (
    if wr (M (f_58 M a0 a1) 1) = 0 then
      some (f_58 M a0 a1)
    else
      some (0)
    )
theorem t_66 {rom : xRom} {d : Nat} {M : xM} {a0 : Nat} {a1 : Int} (h0 : Tg a0 = 7) {r : Nat} {out : Option xV × xH} (e : f_66 M a0 a1 = some r) (hK : eR M out r) : Rn rom (d + 2) 66 (0, [some (vR a0), some (vI a1), none], [], (G0, M)) out := by
  have hc : xkall.getD 66 [] = xk_66 := rfl
  unfold f_66 at e
  refine Rn_ms (σ' := (2, [some (vR a0), some (vI a1), none], [vI a1, vR a0], (G0, M))) hc 2 rfl ?_
  refine Rn_cv hc rfl rfl (by decide) (ii := xi_58) rfl rfl rfl (h0 : Tg _ = 7) (by decide) rfl (le := [some (vR a0), some (vI a1)]) rfl (v := some (vR (f_58 M a0 a1))) (M' := M) (t_58 h0 (d := d + 0) rfl rfl) ?_
  refine Rn_ms (σ' := (7, [some (vR a0), some (vI a1), some (vR (f_58 M a0 a1))], [vR (f_58 M a0 a1)], (G0, M))) hc 2 rfl ?_
  refine R_ite e (fun b1 e => ?_) (fun b1 e => ?_)
  · refine Rn_nuT (tgt := 17) hc rfl rfl (by decide) b1 ?_
    refine Rn_ms (σ' := (22, [some (vR a0), some (vI a1), some (vR (f_58 M a0 a1))], [vR 0], (G0, M))) hc 2 rfl ?_
    cases e
    exact R_end (Rn_aret hc rfl rfl rfl rfl) hK
  · refine Rn_nuF hc rfl rfl (by decide) b1 ?_
    refine Rn_ms (σ' := (11, [some (vR a0), some (vI a1), some (vR (f_58 M a0 a1))], [vR (f_58 M a0 a1)], (G0, M))) hc 1 rfl ?_
    refine R_gd e (fun g2 e => ?_)
    refine Rn_getI hc rfl g2 (by decide) (by decide) ?_
    show Rn rom (d + 2) 66 (14, [some (vR a0), some (vI a1), some (vR (f_58 M a0 a1))], [vI (M (f_58 M a0 a1) 1)], (G0, M)) out
    refine R_ite e (fun b3 e => ?_) (fun b3 e => ?_)
    · refine Rn_ifT (tgt := 21) hc rfl rfl (by decide) b3 ?_
      refine Rn_ms (σ' := (22, [some (vR a0), some (vI a1), some (vR (f_58 M a0 a1))], [vR (f_58 M a0 a1)], (G0, M))) hc 1 rfl ?_
      cases e
      exact R_end (Rn_aret hc rfl rfl rfl rfl) hK
    · refine Rn_ifF hc rfl rfl (by decide) b3 ?_
      refine Rn_ms (σ' := (22, [some (vR a0), some (vI a1), some (vR (f_58 M a0 a1))], [vR 0], (G0, M))) hc 2 rfl ?_
      cases e
      exact R_end (Rn_aret hc rfl rfl rfl rfl) hK
/-- PedalLayers$Notes.cells -/
def f_29 (M : xM) (a0 : Nat) : Int :=
  (M a0 1)
theorem t_29 {rom : xRom} {d : Nat} {M : xM} {a0 : Nat} (h0 : Tg a0 = 4) {r : Int} {out : Option xV × xH} (e : f_29 M a0 = r) (hK : eI M out r) : Rn rom (d + 0) 29 (0, [some (vR a0)], [], (G0, M)) out := by
  have hc : xkall.getD 29 [] = xk_29 := rfl
  unfold f_29 at e
  refine Rn_ms (σ' := (1, [some (vR a0)], [vR a0], (G0, M))) hc 1 rfl ?_
  refine Rn_getI hc rfl h0 (by decide) (by decide) ?_
  show Rn rom (d + 0) 29 (4, [some (vR a0)], [vI (M a0 1)], (G0, M)) out
  cases e
  exact R_end (Rn_iret hc rfl rfl (xretI rfl rfl)) hK
/-- PedalLayers.rest -/
def f_134 (a0 : Int) (a1 : Int) : Int :=
  if wr a1 ≤ 0 then
    0
  else
    ((wr a0).tmod (wr a1))
theorem t_134 {rom : xRom} {d : Nat} {M : xM} {a0 : Int} {a1 : Int} {r : Int} {out : Option xV × xH} (e : f_134 a0 a1 = r) (hK : eI M out r) : Rn rom (d + 0) 134 (0, [some (vI a0), some (vI a1)], [], (G0, M)) out := by
  have hc : xkall.getD 134 [] = xk_134 := rfl
  unfold f_134 at e
  refine Rn_ms (σ' := (1, [some (vI a0), some (vI a1)], [vI a1], (G0, M))) hc 1 rfl ?_
  refine R_ite e (fun b1 e => ?_) (fun b1 e => ?_)
  · refine Rn_ifT (tgt := 10) hc rfl rfl (by decide) b1 ?_
    refine Rn_ms (σ' := (11, [some (vI a0), some (vI a1)], [vI 0], (G0, M))) hc 1 rfl ?_
    cases e
    exact R_end (Rn_iret hc rfl rfl (xretI rfl rfl)) hK
  · refine Rn_ifF hc rfl rfl (by decide) b1 ?_
    refine Rn_ms (σ' := (6, [some (vI a0), some (vI a1)], [vI a1, vI a0], (G0, M))) hc 2 rfl ?_
    refine Rn_rem hc rfl ⟨rfl, rfl⟩ (z' := (wr a1)) rfl (by omega) ?_
    refine Rn_ms (σ' := (11, [some (vI a0), some (vI a1)], [vI ((wr a0).tmod (wr a1))], (G0, M))) hc 1 rfl ?_
    cases e
    exact R_end (Rn_iret hc rfl rfl (xretI rfl rfl)) hK
/-- PedalLayers.isKey -/
def f_132 (a0 : Int) : Int :=
  if wr a0 < 0 then
    0
  else
    if 36 ≤ wr a0 then
      0
    else
      1
theorem t_132 {rom : xRom} {d : Nat} {M : xM} {a0 : Int} {r : Int} {out : Option xV × xH} (e : f_132 a0 = r) (hK : eI M out r) : Rn rom (d + 0) 132 (0, [some (vI a0)], [], (G0, M)) out := by
  have hc : xkall.getD 132 [] = xk_132 := rfl
  unfold f_132 at e
  refine Rn_ms (σ' := (1, [some (vI a0)], [vI a0], (G0, M))) hc 1 rfl ?_
  refine R_ite e (fun b1 e => ?_) (fun b1 e => ?_)
  · refine Rn_ifT (tgt := 14) hc rfl rfl (by decide) b1 ?_
    refine Rn_ms (σ' := (15, [some (vI a0)], [vI 0], (G0, M))) hc 1 rfl ?_
    cases e
    exact R_end (Rn_iret hc rfl rfl (xretB rfl rfl (by decide))) hK
  · refine Rn_ifF hc rfl rfl (by decide) b1 ?_
    refine Rn_ms (σ' := (7, [some (vI a0)], [vI 36, vI a0], (G0, M))) hc 2 rfl ?_
    refine R_ite e (fun b2 e => ?_) (fun b2 e => ?_)
    · refine Rn_icT (tgt := 14) hc rfl rfl (by decide) b2 ?_
      refine Rn_ms (σ' := (15, [some (vI a0)], [vI 0], (G0, M))) hc 1 rfl ?_
      cases e
      exact R_end (Rn_iret hc rfl rfl (xretB rfl rfl (by decide))) hK
    · refine Rn_icF hc rfl rfl (by decide) b2 ?_
      refine Rn_ms (σ' := (15, [some (vI a0)], [vI 1], (G0, M))) hc 2 rfl ?_
      cases e
      exact R_end (Rn_iret hc rfl rfl (xretB rfl rfl (by decide))) hK
/-- PedalLayers$Notes.at -/
def f_30 (M : xM) (a0 : Nat) (a1 : Int) (a2 : Int) : Int :=
  if wr (f_132 a2) = 0 then
    0
  else
    if wr ((a1 * 36) + a2) < 0 then
      0
    else
      if 1728 ≤ wr ((a1 * 36) + a2) then
        0
      else
        (M (a0 + 1) (wr ((a1 * 36) + a2)).toNat)
theorem t_30 {rom : xRom} {d : Nat} {M : xM} {a0 : Nat} {a1 : Int} {a2 : Int} (h0 : Tg a0 = 4) {r : Int} {out : Option xV × xH} (e : f_30 M a0 a1 a2 = r) (hK : eI M out r) : Rn rom (d + 1) 30 (0, [some (vR a0), some (vI a1), some (vI a2), none], [], (G0, M)) out := by
  have hc : xkall.getD 30 [] = xk_30 := rfl
  unfold f_30 at e
  refine Rn_ms (σ' := (8, [some (vR a0), some (vI a1), some (vI a2), some (vI ((a1 * 36) + a2))], [vI a2], (G0, M))) hc 7 rfl ?_
  refine Rn_cs hc rfl rfl (by decide) (ii := xi_132) rfl rfl rfl (le := [some (vI a2)]) rfl (v := some (vI (f_132 a2))) (M' := M) (t_132  (d := d + 0) rfl rfl) ?_
  show Rn rom (d + 1) 30 (11, [some (vR a0), some (vI a1), some (vI a2), some (vI ((a1 * 36) + a2))], [vI (f_132 a2)], (G0, M)) out
  refine R_ite e (fun b1 e => ?_) (fun b1 e => ?_)
  · refine Rn_ifT (tgt := 36) hc rfl rfl (by decide) b1 ?_
    refine Rn_ms (σ' := (37, [some (vR a0), some (vI a1), some (vI a2), some (vI ((a1 * 36) + a2))], [vI 0], (G0, M))) hc 1 rfl ?_
    cases e
    exact R_end (Rn_iret hc rfl rfl (xretI rfl rfl)) hK
  · refine Rn_ifF hc rfl rfl (by decide) b1 ?_
    refine Rn_ms (σ' := (15, [some (vR a0), some (vI a1), some (vI a2), some (vI ((a1 * 36) + a2))], [vI ((a1 * 36) + a2)], (G0, M))) hc 1 rfl ?_
    refine R_ite e (fun b2 e => ?_) (fun b2 e => ?_)
    · refine Rn_ifT (tgt := 36) hc rfl rfl (by decide) b2 ?_
      refine Rn_ms (σ' := (37, [some (vR a0), some (vI a1), some (vI a2), some (vI ((a1 * 36) + a2))], [vI 0], (G0, M))) hc 1 rfl ?_
      cases e
      exact R_end (Rn_iret hc rfl rfl (xretI rfl rfl)) hK
    · refine Rn_ifF hc rfl rfl (by decide) b2 ?_
      refine Rn_ms (σ' := (20, [some (vR a0), some (vI a1), some (vI a2), some (vI ((a1 * 36) + a2))], [vR a0, vI ((a1 * 36) + a2)], (G0, M))) hc 2 rfl ?_
      refine Rn_getR hc rfl h0 (by decide) rfl (gP4_0_0 h0) ?_
      show Rn rom (d + 1) 30 (23, [some (vR a0), some (vI a1), some (vI a2), some (vI ((a1 * 36) + a2))], [vR (a0 + 1), vI ((a1 * 36) + a2)], (G0, M)) out
      refine Rn_alen hc rfl rfl (gT4_1 h0) (by decide) (gZ4_1 h0) ?_
      show Rn rom (d + 1) 30 (24, [some (vR a0), some (vI a1), some (vI a2), some (vI ((a1 * 36) + a2))], [vI 1728, vI ((a1 * 36) + a2)], (G0, M)) out
      refine R_ite e (fun b3 e => ?_) (fun b3 e => ?_)
      · refine Rn_icT (tgt := 36) hc rfl rfl (by decide) b3 ?_
        refine Rn_ms (σ' := (37, [some (vR a0), some (vI a1), some (vI a2), some (vI ((a1 * 36) + a2))], [vI 0], (G0, M))) hc 1 rfl ?_
        cases e
        exact R_end (Rn_iret hc rfl rfl (xretI rfl rfl)) hK
      · refine Rn_icF hc rfl rfl (by decide) b3 ?_
        refine Rn_ms (σ' := (28, [some (vR a0), some (vI a1), some (vI a2), some (vI ((a1 * 36) + a2))], [vR a0], (G0, M))) hc 1 rfl ?_
        refine Rn_getR hc rfl h0 (by decide) rfl (gP4_0_0 h0) ?_
        refine Rn_ms (σ' := (32, [some (vR a0), some (vI a1), some (vI a2), some (vI ((a1 * 36) + a2))], [vI ((a1 * 36) + a2), vR (a0 + 1)], (G0, M))) hc 1 rfl ?_
        refine Rn_iald hc rfl rfl (gT4_1 h0) (gZ4_1 h0) (by omega) rfl ?_
        refine Rn_ms (σ' := (37, [some (vR a0), some (vI a1), some (vI a2), some (vI ((a1 * 36) + a2))], [vI (M (a0 + 1) (wr ((a1 * 36) + a2)).toNat)], (G0, M))) hc 1 rfl ?_
        cases e
        exact R_end (Rn_iret hc rfl rfl (xretI rfl rfl)) hK
def f_1_L75b (a1 : Nat) (c2 : Int) (c3 : Int) (c4 : Int) (c5 : Int) (r6 : Nat) (c7 : Int) (v8 : Int) (M : xM) : Option ((Int × xM) ⊕ ((Int × xM) ⊕ (xM))) :=
  if 36 ≤ wr v8 then
    some (.inr (.inl ((c5 + 1), M)))
  else
    gd (0 ≤ wr v8 ∧ wr v8 < 36) (
    gd (0 ≤ wr v8 ∧ wr v8 < 36) (
    bnd (xset M 178 (wr v8).toNat ((M 178 (wr v8).toNat) + (f_30 M (r6 + 1) c7 (v8 + c4)))) (fun M9 =>
    some (.inl ((v8 + 1), M9))
    )))
theorem t_1_L75b {rom : xRom} {d : Nat} {a1 : Nat} {c2 : Int} {c3 : Int} {c4 : Int} {c5 : Int} {r6 : Nat} {c7 : Int} {v8 : Int} {M : xM} (h1 : Tg a1 = 7) (hr6 : Tg r6 = 3) {r : (Int × xM) ⊕ ((Int × xM) ⊕ (xM))} {out : Option xV × xH} (e : f_1_L75b a1 c2 c3 c4 c5 r6 c7 v8 M = some r) (hK : ((Sum.elim (fun s => Rn rom (d + 3) 1 (75, [some (vR 177), some (vR a1), some (vI c2), some (vI c3), some (vI c4), some (vI c5), some (vR r6), some (vI c7), some (vI s.1)], [], (G0, s.2)) out) ((Sum.elim (fun s => Rn rom (d + 3) 1 (36, [some (vR 177), some (vR a1), some (vI c2), some (vI c3), some (vI c4), some (vI s.1), none, none, none], [], (G0, s.2)) out) (eVW out))))) r) : Rn rom (d + 3) 1 (75, [some (vR 177), some (vR a1), some (vI c2), some (vI c3), some (vI c4), some (vI c5), some (vR r6), some (vI c7), some (vI v8)], [], (G0, M)) out := by
  have hc : xkall.getD 1 [] = xk_1 := rfl
  unfold f_1_L75b at e
  refine Rn_ms (σ' := (78, [some (vR 177), some (vR a1), some (vI c2), some (vI c3), some (vI c4), some (vI c5), some (vR r6), some (vI c7), some (vI v8)], [vR 177, vI v8], (G0, M))) hc 2 rfl ?_
  refine Rn_getR hc rfl tgc_177 (by decide) rfl prc_177_0 ?_
  show Rn rom (d + 3) 1 (81, [some (vR 177), some (vR a1), some (vI c2), some (vI c3), some (vI c4), some (vI c5), some (vR r6), some (vI c7), some (vI v8)], [vR 178, vI v8], (G0, M)) out
  refine Rn_alen hc rfl rfl tgc_178 (by decide) zsc_178 ?_
  show Rn rom (d + 3) 1 (82, [some (vR 177), some (vR a1), some (vI c2), some (vI c3), some (vI c4), some (vI c5), some (vR r6), some (vI c7), some (vI v8)], [vI 36, vI v8], (G0, M)) out
  refine R_ite e (fun b6 e => ?_) (fun b6 e => ?_)
  · refine Rn_icT (tgt := 116) hc rfl rfl (by decide) b6 ?_
    refine Rn_ms (σ' := (36, [some (vR 177), some (vR a1), some (vI c2), some (vI c3), some (vI c4), some (vI (c5 + 1)), some (vR r6), some (vI c7), some (vI v8)], [], (G0, M))) hc 2 rfl ?_
    cases e
    exact Rn_weak (xle_s (xle_s (xle_s (xle_s (xle_s (xle_s (xle_n (xle_n (xle_n xle_0))))))))) hK
  · refine Rn_icF hc rfl rfl (by decide) b6 ?_
    refine Rn_ms (σ' := (86, [some (vR 177), some (vR a1), some (vI c2), some (vI c3), some (vI c4), some (vI c5), some (vR r6), some (vI c7), some (vI v8)], [vR 177], (G0, M))) hc 1 rfl ?_
    refine Rn_getR hc rfl tgc_177 (by decide) rfl prc_177_0 ?_
    refine Rn_ms (σ' := (92, [some (vR 177), some (vR a1), some (vI c2), some (vI c3), some (vI c4), some (vI c5), some (vR r6), some (vI c7), some (vI v8)], [vI v8, vR 178, vI v8, vR 178], (G0, M))) hc 2 rfl ?_
    refine R_gd e (fun g7 e => ?_)
    refine Rn_iald hc rfl rfl tgc_178 zsc_178 g7 rfl ?_
    refine Rn_ms (σ' := (95, [some (vR 177), some (vR a1), some (vI c2), some (vI c3), some (vI c4), some (vI c5), some (vR r6), some (vI c7), some (vI v8)], [vR r6, vI (M 178 (wr v8).toNat), vI v8, vR 178], (G0, M))) hc 1 rfl ?_
    refine Rn_getR hc rfl hr6 (by decide) rfl (gP3_0_0 hr6) ?_
    refine Rn_ms (σ' := (105, [some (vR 177), some (vR a1), some (vI c2), some (vI c3), some (vI c4), some (vI c5), some (vR r6), some (vI c7), some (vI v8)], [vI (v8 + c4), vI c7, vR (r6 + 1), vI (M 178 (wr v8).toNat), vI v8, vR 178], (G0, M))) hc 4 rfl ?_
    refine Rn_cv hc rfl rfl (by decide) (ii := xi_30) rfl rfl rfl ((gT3_1 hr6) : Tg _ = 4) (by decide) rfl (le := [some (vR (r6 + 1)), some (vI c7), some (vI (v8 + c4)), none]) rfl (v := some (vI (f_30 M (r6 + 1) c7 (v8 + c4)))) (M' := M) (t_30 (gT3_1 hr6) (d := d + 1) rfl rfl) ?_
    refine Rn_ms (σ' := (109, [some (vR 177), some (vR a1), some (vI c2), some (vI c3), some (vI c4), some (vI c5), some (vR r6), some (vI c7), some (vI v8)], [vI ((M 178 (wr v8).toNat) + (f_30 M (r6 + 1) c7 (v8 + c4))), vI v8, vR 178], (G0, M))) hc 1 rfl ?_
    refine R_gd e (fun g8 e => ?_)
    refine R_bnd e (fun M9 hM9 e => ?_)
    refine Rn_iast' hM9 hc rfl rfl tgc_178 zsc_178 g8 rfl ?_
    refine Rn_ms (σ' := (75, [some (vR 177), some (vR a1), some (vI c2), some (vI c3), some (vI c4), some (vI c5), some (vR r6), some (vI c7), some (vI (v8 + 1))], [], (G0, M9))) hc 2 rfl ?_
    cases e
    exact Rn_weak (xle_s (xle_s (xle_s (xle_s (xle_s (xle_s (xle_s (xle_s (xle_s xle_0))))))))) hK
def f_1_L75 (a1 : Nat) (c2 : Int) (c3 : Int) (c4 : Int) (c5 : Int) (r6 : Nat) (c7 : Int) (s : Int × xM) : Option ((Int × xM) ⊕ (xM)) := loop NF (fun s => f_1_L75b a1 c2 c3 c4 c5 r6 c7 s.1 s.2) s
theorem t_1_L75 {rom : xRom} {d : Nat} {a1 : Nat} {c2 : Int} {c3 : Int} {c4 : Int} {c5 : Int} {r6 : Nat} {c7 : Int} (h1 : Tg a1 = 7) (hr6 : Tg r6 = 3) {s : Int × xM} {r : (Int × xM) ⊕ (xM)} {out : Option xV × xH} (e : f_1_L75 a1 c2 c3 c4 c5 r6 c7 s = some r) (hK : ((Sum.elim (fun s => Rn rom (d + 3) 1 (36, [some (vR 177), some (vR a1), some (vI c2), some (vI c3), some (vI c4), some (vI s.1), none, none, none], [], (G0, s.2)) out) (eVW out))) r) : Rn rom (d + 3) 1 (75, [some (vR 177), some (vR a1), some (vI c2), some (vI c3), some (vI c4), some (vI c5), some (vR r6), some (vI c7), some (vI s.1)], [], (G0, s.2)) out := by
  unfold f_1_L75 at e
  revert e hK
  exact R_loop (b := fun s => f_1_L75b a1 c2 c3 c4 c5 r6 c7 s.1 s.2) (G := fun s => Rn rom (d + 3) 1 (75, [some (vR 177), some (vR a1), some (vI c2), some (vI c3), some (vI c4), some (vI c5), some (vR r6), some (vI c7), some (vI s.1)], [], (G0, s.2)) out) (K := (Sum.elim (fun s => Rn rom (d + 3) 1 (36, [some (vR 177), some (vR a1), some (vI c2), some (vI c3), some (vI c4), some (vI s.1), none, none, none], [], (G0, s.2)) out) (eVW out))) (fun s r e hK => t_1_L75b h1 hr6 e hK) NF s r
def f_1_L36b (a1 : Nat) (c2 : Int) (c3 : Int) (c4 : Int) (v5 : Int) (M : xM) : Option ((Int × xM) ⊕ (xM)) :=
  if wr c2 ≤ wr v5 then
    some (.inr (M))
  else
    (f_66 M a1 v5).bind (fun k3 =>
    if k3 = 0 then
      some (.inl ((v5 + 1), M))
    else
      gd (Tg k3 = 3) (
      f_1_L75 a1 c2 c3 c4 v5 k3 (f_134 c3 (f_29 M (k3 + 1))) (0, M)
      )
    )
theorem t_1_L36b {rom : xRom} {d : Nat} {a1 : Nat} {c2 : Int} {c3 : Int} {c4 : Int} {v5 : Int} {M : xM} (h1 : Tg a1 = 7) {r : (Int × xM) ⊕ (xM)} {out : Option xV × xH} (e : f_1_L36b a1 c2 c3 c4 v5 M = some r) (hK : ((Sum.elim (fun s => Rn rom (d + 3) 1 (36, [some (vR 177), some (vR a1), some (vI c2), some (vI c3), some (vI c4), some (vI s.1), none, none, none], [], (G0, s.2)) out) (eVW out))) r) : Rn rom (d + 3) 1 (36, [some (vR 177), some (vR a1), some (vI c2), some (vI c3), some (vI c4), some (vI v5), none, none, none], [], (G0, M)) out := by
  have hc : xkall.getD 1 [] = xk_1 := rfl
  unfold f_1_L36b at e
  refine Rn_ms (σ' := (39, [some (vR 177), some (vR a1), some (vI c2), some (vI c3), some (vI c4), some (vI v5), none, none, none], [vI c2, vI v5], (G0, M))) hc 2 rfl ?_
  refine R_ite e (fun b2 e => ?_) (fun b2 e => ?_)
  · refine Rn_icT (tgt := 122) hc rfl rfl (by decide) b2 ?_
    show Rn rom (d + 3) 1 (122, [some (vR 177), some (vR a1), some (vI c2), some (vI c3), some (vI c4), some (vI v5), none, none, none], [], (G0, M)) out
    cases e
    exact R_end (Rn_vret hc rfl rfl rfl rfl) hK
  · refine Rn_icF hc rfl rfl (by decide) b2 ?_
    refine Rn_ms (σ' := (45, [some (vR 177), some (vR a1), some (vI c2), some (vI c3), some (vI c4), some (vI v5), none, none, none], [vI v5, vR a1], (G0, M))) hc 2 rfl ?_
    refine R_bind e (fun k3 hk3 e => ?_)
    refine Rn_cv hc rfl rfl (by decide) (ii := xi_66) rfl rfl rfl (h1 : Tg _ = 7) (by decide) rfl (le := [some (vR a1), some (vI v5), none]) rfl (v := some (vR k3)) (M' := M) (t_66 h1 (d := d + 0) hk3 rfl) ?_
    refine Rn_ms (σ' := (52, [some (vR 177), some (vR a1), some (vI c2), some (vI c3), some (vI c4), some (vI v5), some (vR k3), none, none], [vR k3], (G0, M))) hc 2 rfl ?_
    refine R_ite e (fun b4 e => ?_) (fun b4 e => ?_)
    · refine Rn_nnF hc rfl rfl (by decide) b4 ?_
      refine Rn_ms (σ' := (36, [some (vR 177), some (vR a1), some (vI c2), some (vI c3), some (vI c4), some (vI (v5 + 1)), some (vR k3), none, none], [], (G0, M))) hc 3 rfl ?_
      cases e
      exact Rn_weak (xle_s (xle_s (xle_s (xle_s (xle_s (xle_s (xle_n (xle_s (xle_s xle_0))))))))) hK
    · refine Rn_nnT (tgt := 58) hc rfl rfl (by decide) b4 ?_
      refine Rn_ms (σ' := (61, [some (vR 177), some (vR a1), some (vI c2), some (vI c3), some (vI c4), some (vI v5), some (vR k3), none, none], [vR k3, vI c3], (G0, M))) hc 2 rfl ?_
      refine R_gd e (fun g5 e => ?_)
      refine Rn_getR hc rfl g5 (by decide) rfl (gP3_0_0 g5) ?_
      show Rn rom (d + 3) 1 (64, [some (vR 177), some (vR a1), some (vI c2), some (vI c3), some (vI c4), some (vI v5), some (vR k3), none, none], [vR (k3 + 1), vI c3], (G0, M)) out
      refine Rn_cv hc rfl rfl (by decide) (ii := xi_29) rfl rfl rfl ((gT3_1 g5) : Tg _ = 4) (by decide) rfl (le := [some (vR (k3 + 1))]) rfl (v := some (vI (f_29 M (k3 + 1)))) (M' := M) (t_29 (gT3_1 g5) (d := d + 2) rfl rfl) ?_
      show Rn rom (d + 3) 1 (67, [some (vR 177), some (vR a1), some (vI c2), some (vI c3), some (vI c4), some (vI v5), some (vR k3), none, none], [vI (f_29 M (k3 + 1)), vI c3], (G0, M)) out
      refine Rn_cs hc rfl rfl (by decide) (ii := xi_134) rfl rfl rfl (le := [some (vI c3), some (vI (f_29 M (k3 + 1)))]) rfl (v := some (vI (f_134 c3 (f_29 M (k3 + 1))))) (M' := M) (t_134  (d := d + 2) rfl rfl) ?_
      refine Rn_ms (σ' := (75, [some (vR 177), some (vR a1), some (vI c2), some (vI c3), some (vI c4), some (vI v5), some (vR k3), some (vI (f_134 c3 (f_29 M (k3 + 1)))), some (vI 0)], [], (G0, M))) hc 3 rfl ?_
      exact Rn_weak (xle_s (xle_s (xle_s (xle_s (xle_s (xle_s (xle_s (xle_s (xle_s xle_0))))))))) (t_1_L75 h1 g5 e hK)
def f_1_L36 (a1 : Nat) (c2 : Int) (c3 : Int) (c4 : Int) (s : Int × xM) : Option (xM) := loop NF (fun s => f_1_L36b a1 c2 c3 c4 s.1 s.2) s
theorem t_1_L36 {rom : xRom} {d : Nat} {a1 : Nat} {c2 : Int} {c3 : Int} {c4 : Int} (h1 : Tg a1 = 7) {s : Int × xM} {r : xM} {out : Option xV × xH} (e : f_1_L36 a1 c2 c3 c4 s = some r) (hK : (eVW out) r) : Rn rom (d + 3) 1 (36, [some (vR 177), some (vR a1), some (vI c2), some (vI c3), some (vI c4), some (vI s.1), none, none, none], [], (G0, s.2)) out := by
  unfold f_1_L36 at e
  revert e hK
  exact R_loop (b := fun s => f_1_L36b a1 c2 c3 c4 s.1 s.2) (G := fun s => Rn rom (d + 3) 1 (36, [some (vR 177), some (vR a1), some (vI c2), some (vI c3), some (vI c4), some (vI s.1), none, none, none], [], (G0, s.2)) out) (K := eVW out) (fun s r e hK => t_1_L36b h1 e hK) NF s r
def f_1_L3b (a1 : Nat) (c2 : Int) (c3 : Int) (v4 : Int) (M : xM) : Option ((Int × xM) ⊕ (xM)) :=
  if 36 ≤ wr v4 then
    (f_1_L36 a1 c2 c3 (f_65 M a1) (0, M)).bind (fun o => some (.inr (o)))
  else
    gd (0 ≤ wr v4 ∧ wr v4 < 36) (
    bnd (xset M 178 (wr v4).toNat 0) (fun M11 =>
    some (.inl ((v4 + 1), M11))
    ))
theorem t_1_L3b {rom : xRom} {d : Nat} {a1 : Nat} {c2 : Int} {c3 : Int} {v4 : Int} {M : xM} (h1 : Tg a1 = 7) {r : (Int × xM) ⊕ (xM)} {out : Option xV × xH} (e : f_1_L3b a1 c2 c3 v4 M = some r) (hK : ((Sum.elim (fun s => Rn rom (d + 3) 1 (3, [some (vR 177), some (vR a1), some (vI c2), some (vI c3), some (vI s.1), none, none, none, none], [], (G0, s.2)) out) (eVW out))) r) : Rn rom (d + 3) 1 (3, [some (vR 177), some (vR a1), some (vI c2), some (vI c3), some (vI v4), none, none, none, none], [], (G0, M)) out := by
  have hc : xkall.getD 1 [] = xk_1 := rfl
  unfold f_1_L3b at e
  refine Rn_ms (σ' := (6, [some (vR 177), some (vR a1), some (vI c2), some (vI c3), some (vI v4), none, none, none, none], [vR 177, vI v4], (G0, M))) hc 2 rfl ?_
  refine Rn_getR hc rfl tgc_177 (by decide) rfl prc_177_0 ?_
  show Rn rom (d + 3) 1 (9, [some (vR 177), some (vR a1), some (vI c2), some (vI c3), some (vI v4), none, none, none, none], [vR 178, vI v4], (G0, M)) out
  refine Rn_alen hc rfl rfl tgc_178 (by decide) zsc_178 ?_
  show Rn rom (d + 3) 1 (10, [some (vR 177), some (vR a1), some (vI c2), some (vI c3), some (vI v4), none, none, none, none], [vI 36, vI v4], (G0, M)) out
  refine R_ite e (fun b1 e => ?_) (fun b1 e => ?_)
  · refine Rn_icT (tgt := 27) hc rfl rfl (by decide) b1 ?_
    refine Rn_ms (σ' := (28, [some (vR 177), some (vR a1), some (vI c2), some (vI c3), some (vI v4), none, none, none, none], [vR a1], (G0, M))) hc 1 rfl ?_
    refine Rn_cv hc rfl rfl (by decide) (ii := xi_65) rfl rfl rfl (h1 : Tg _ = 7) (by decide) rfl (le := [some (vR a1)]) rfl (v := some (vI (f_65 M a1))) (M' := M) (t_65 h1 (d := d + 2) rfl rfl) ?_
    refine Rn_ms (σ' := (36, [some (vR 177), some (vR a1), some (vI c2), some (vI c3), some (vI (f_65 M a1)), some (vI 0), none, none, none], [], (G0, M))) hc 3 rfl ?_
    refine R_bind e (fun o ho e => ?_)
    cases e
    exact Rn_weak (xle_s (xle_s (xle_s (xle_s (xle_s (xle_s (xle_s (xle_s (xle_s xle_0))))))))) (t_1_L36 h1 ho hK)
  · refine Rn_icF hc rfl rfl (by decide) b1 ?_
    refine Rn_ms (σ' := (14, [some (vR 177), some (vR a1), some (vI c2), some (vI c3), some (vI v4), none, none, none, none], [vR 177], (G0, M))) hc 1 rfl ?_
    refine Rn_getR hc rfl tgc_177 (by decide) rfl prc_177_0 ?_
    refine Rn_ms (σ' := (20, [some (vR 177), some (vR a1), some (vI c2), some (vI c3), some (vI v4), none, none, none, none], [vI 0, vI v4, vR 178], (G0, M))) hc 2 rfl ?_
    refine R_gd e (fun g10 e => ?_)
    refine R_bnd e (fun M11 hM11 e => ?_)
    refine Rn_iast' hM11 hc rfl rfl tgc_178 zsc_178 g10 rfl ?_
    refine Rn_ms (σ' := (3, [some (vR 177), some (vR a1), some (vI c2), some (vI c3), some (vI (v4 + 1)), none, none, none, none], [], (G0, M11))) hc 2 rfl ?_
    cases e
    exact Rn_weak (xle_s (xle_s (xle_s (xle_s (xle_s (xle_s (xle_s (xle_s (xle_s xle_0))))))))) hK
def f_1_L3 (a1 : Nat) (c2 : Int) (c3 : Int) (s : Int × xM) : Option (xM) := loop NF (fun s => f_1_L3b a1 c2 c3 s.1 s.2) s
theorem t_1_L3 {rom : xRom} {d : Nat} {a1 : Nat} {c2 : Int} {c3 : Int} (h1 : Tg a1 = 7) {s : Int × xM} {r : xM} {out : Option xV × xH} (e : f_1_L3 a1 c2 c3 s = some r) (hK : (eVW out) r) : Rn rom (d + 3) 1 (3, [some (vR 177), some (vR a1), some (vI c2), some (vI c3), some (vI s.1), none, none, none, none], [], (G0, s.2)) out := by
  unfold f_1_L3 at e
  revert e hK
  exact R_loop (b := fun s => f_1_L3b a1 c2 c3 s.1 s.2) (G := fun s => Rn rom (d + 3) 1 (3, [some (vR 177), some (vR a1), some (vI c2), some (vI c3), some (vI s.1), none, none, none, none], [], (G0, s.2)) out) (K := eVW out) (fun s r e hK => t_1_L3b h1 e hK) NF s r
/-- PedalLayers$Ear.listen -/
def f_1 (M : xM) (a1 : Nat) (a2 : Int) (a3 : Int) : Option (xM) :=
  f_1_L3 a1 a2 a3 (0, M)
theorem t_1 {rom : xRom} {d : Nat} {M : xM} {a1 : Nat} {a2 : Int} {a3 : Int} (h1 : Tg a1 = 7) {r : xM} {out : Option xV × xH} (e : f_1 M a1 a2 a3 = some r) (hK : eVW out r) : Rn rom (d + 3) 1 (0, [some (vR 177), some (vR a1), some (vI a2), some (vI a3), none, none, none, none, none], [], (G0, M)) out := by
  have hc : xkall.getD 1 [] = xk_1 := rfl
  unfold f_1 at e
  refine Rn_ms (σ' := (3, [some (vR 177), some (vR a1), some (vI a2), some (vI a3), some (vI 0), none, none, none, none], [], (G0, M))) hc 2 rfl ?_
  exact Rn_weak (xle_s (xle_s (xle_s (xle_s (xle_s (xle_s (xle_s (xle_s (xle_s xle_0))))))))) (t_1_L3 h1 e hK)
/-- PedalLayers$Ear.ringOf -/
def f_2 (M : xM) (a1 : Int) : Int :=
  if wr a1 < 0 then
    0
  else
    if 36 ≤ wr a1 then
      0
    else
      (M 178 (wr a1).toNat)
theorem t_2 {rom : xRom} {d : Nat} {M : xM} {a1 : Int} {r : Int} {out : Option xV × xH} (e : f_2 M a1 = r) (hK : eI M out r) : Rn rom (d + 0) 2 (0, [some (vR 177), some (vI a1)], [], (G0, M)) out := by
  have hc : xkall.getD 2 [] = xk_2 := rfl
  unfold f_2 at e
  refine Rn_ms (σ' := (1, [some (vR 177), some (vI a1)], [vI a1], (G0, M))) hc 1 rfl ?_
  refine R_ite e (fun b1 e => ?_) (fun b1 e => ?_)
  · refine Rn_ifT (tgt := 22) hc rfl rfl (by decide) b1 ?_
    refine Rn_ms (σ' := (23, [some (vR 177), some (vI a1)], [vI 0], (G0, M))) hc 1 rfl ?_
    cases e
    exact R_end (Rn_iret hc rfl rfl (xretI rfl rfl)) hK
  · refine Rn_ifF hc rfl rfl (by decide) b1 ?_
    refine Rn_ms (σ' := (6, [some (vR 177), some (vI a1)], [vR 177, vI a1], (G0, M))) hc 2 rfl ?_
    refine Rn_getR hc rfl tgc_177 (by decide) rfl prc_177_0 ?_
    show Rn rom (d + 0) 2 (9, [some (vR 177), some (vI a1)], [vR 178, vI a1], (G0, M)) out
    refine Rn_alen hc rfl rfl tgc_178 (by decide) zsc_178 ?_
    show Rn rom (d + 0) 2 (10, [some (vR 177), some (vI a1)], [vI 36, vI a1], (G0, M)) out
    refine R_ite e (fun b2 e => ?_) (fun b2 e => ?_)
    · refine Rn_icT (tgt := 22) hc rfl rfl (by decide) b2 ?_
      refine Rn_ms (σ' := (23, [some (vR 177), some (vI a1)], [vI 0], (G0, M))) hc 1 rfl ?_
      cases e
      exact R_end (Rn_iret hc rfl rfl (xretI rfl rfl)) hK
    · refine Rn_icF hc rfl rfl (by decide) b2 ?_
      refine Rn_ms (σ' := (14, [some (vR 177), some (vI a1)], [vR 177], (G0, M))) hc 1 rfl ?_
      refine Rn_getR hc rfl tgc_177 (by decide) rfl prc_177_0 ?_
      refine Rn_ms (σ' := (18, [some (vR 177), some (vI a1)], [vI a1, vR 178], (G0, M))) hc 1 rfl ?_
      refine Rn_iald hc rfl rfl tgc_178 zsc_178 (by omega) rfl ?_
      refine Rn_ms (σ' := (23, [some (vR 177), some (vI a1)], [vI (M 178 (wr a1).toNat)], (G0, M))) hc 1 rfl ?_
      cases e
      exact R_end (Rn_iret hc rfl rfl (xretI rfl rfl)) hK
def f_3_L13b (M : xM) (c3 : Int) (v1 : Int) (v4 : Int) : Option ((Int × Int) ⊕ (Int)) :=
  if wr c3 ≤ wr v4 then
    some (.inr (v1))
  else
    gd (0 ≤ wr v4 ∧ wr v4 < 36) (
    if wr (M 178 (wr v4).toNat) ≤ 0 then
      some (.inl (v1, (v4 + 1)))
    else
      some (.inl ((v1 + 1), (v4 + 1)))
    )
theorem t_3_L13b {rom : xRom} {d : Nat} {c3 : Int} {v1 : Int} {v4 : Int} {M : xM} {r : (Int × Int) ⊕ (Int)} {out : Option xV × xH} (e : f_3_L13b M c3 v1 v4 = some r) (hK : ((Sum.elim (fun s => Rn rom (d + 0) 3 (13, [none, some (vI s.1), some (vR 178), some (vI c3), some (vI s.2), none], [], (G0, M)) out) (eI M out))) r) : Rn rom (d + 0) 3 (13, [none, some (vI v1), some (vR 178), some (vI c3), some (vI v4), none], [], (G0, M)) out := by
  have hc : xkall.getD 3 [] = xk_3 := rfl
  unfold f_3_L13b at e
  refine Rn_ms (σ' := (16, [none, some (vI v1), some (vR 178), some (vI c3), some (vI v4), none], [vI c3, vI v4], (G0, M))) hc 2 rfl ?_
  refine R_ite e (fun b1 e => ?_) (fun b1 e => ?_)
  · refine Rn_icT (tgt := 39) hc rfl rfl (by decide) b1 ?_
    refine Rn_ms (σ' := (40, [none, some (vI v1), some (vR 178), some (vI c3), some (vI v4), none], [vI v1], (G0, M))) hc 1 rfl ?_
    cases e
    exact R_end (Rn_iret hc rfl rfl (xretI rfl rfl)) hK
  · refine Rn_icF hc rfl rfl (by decide) b1 ?_
    refine Rn_ms (σ' := (22, [none, some (vI v1), some (vR 178), some (vI c3), some (vI v4), none], [vI v4, vR 178], (G0, M))) hc 2 rfl ?_
    refine R_gd e (fun g2 e => ?_)
    refine Rn_iald hc rfl rfl tgc_178 zsc_178 g2 rfl ?_
    refine Rn_ms (σ' := (27, [none, some (vI v1), some (vR 178), some (vI c3), some (vI v4), some (vI (M 178 (wr v4).toNat))], [vI (M 178 (wr v4).toNat)], (G0, M))) hc 2 rfl ?_
    refine R_ite e (fun b3 e => ?_) (fun b3 e => ?_)
    · refine Rn_ifT (tgt := 33) hc rfl rfl (by decide) b3 ?_
      refine Rn_ms (σ' := (13, [none, some (vI v1), some (vR 178), some (vI c3), some (vI (v4 + 1)), some (vI (M 178 (wr v4).toNat))], [], (G0, M))) hc 2 rfl ?_
      cases e
      exact Rn_weak (xle_s (xle_s (xle_s (xle_s (xle_s (xle_n xle_0)))))) hK
    · refine Rn_ifF hc rfl rfl (by decide) b3 ?_
      refine Rn_ms (σ' := (13, [none, some (vI (v1 + 1)), some (vR 178), some (vI c3), some (vI (v4 + 1)), some (vI (M 178 (wr v4).toNat))], [], (G0, M))) hc 3 rfl ?_
      cases e
      exact Rn_weak (xle_s (xle_s (xle_s (xle_s (xle_s (xle_n xle_0)))))) hK
def f_3_L13 (M : xM) (c3 : Int) (s : Int × Int) : Option (Int) := loop NF (fun s => f_3_L13b M c3 s.1 s.2) s
theorem t_3_L13 {rom : xRom} {d : Nat} {c3 : Int} {M : xM} {s : Int × Int} {r : Int} {out : Option xV × xH} (e : f_3_L13 M c3 s = some r) (hK : (eI M out) r) : Rn rom (d + 0) 3 (13, [none, some (vI s.1), some (vR 178), some (vI c3), some (vI s.2), none], [], (G0, M)) out := by
  unfold f_3_L13 at e
  revert e hK
  exact R_loop (b := fun s => f_3_L13b M c3 s.1 s.2) (G := fun s => Rn rom (d + 0) 3 (13, [none, some (vI s.1), some (vR 178), some (vI c3), some (vI s.2), none], [], (G0, M)) out) (K := eI M out) (fun s r e hK => t_3_L13b  e hK) NF s r
/-- PedalLayers$Ear.howManyKeys -/
def f_3 (M : xM) : Option (Int) :=
  f_3_L13 M 36 (0, 0)
theorem t_3 {rom : xRom} {d : Nat} {M : xM}  {r : Int} {out : Option xV × xH} (e : f_3 M = some r) (hK : eI M out r) : Rn rom (d + 0) 3 (0, [some (vR 177), none, none, none, none, none], [], (G0, M)) out := by
  have hc : xkall.getD 3 [] = xk_3 := rfl
  unfold f_3 at e
  refine Rn_ms (σ' := (3, [some (vR 177), some (vI 0), none, none, none, none], [vR 177], (G0, M))) hc 3 rfl ?_
  refine Rn_getR hc rfl tgc_177 (by decide) rfl prc_177_0 ?_
  refine Rn_ms (σ' := (8, [some (vR 177), some (vI 0), some (vR 178), none, none, none], [vR 178], (G0, M))) hc 2 rfl ?_
  refine Rn_alen hc rfl rfl tgc_178 (by decide) zsc_178 ?_
  refine Rn_ms (σ' := (13, [some (vR 177), some (vI 0), some (vR 178), some (vI 36), some (vI 0), none], [], (G0, M))) hc 3 rfl ?_
  exact Rn_weak (xle_n (xle_s (xle_s (xle_s (xle_s (xle_s xle_0)))))) (t_3_L13  e hK)
def f_4_L13b (M : xM) (c3 : Int) (v1 : Int) (v4 : Int) : Option ((Int × Int) ⊕ (Int)) :=
  if wr c3 ≤ wr v4 then
    some (.inr (v1))
  else
    gd (0 ≤ wr v4 ∧ wr v4 < 36) (
    some (.inl ((v1 + (M 178 (wr v4).toNat)), (v4 + 1)))
    )
theorem t_4_L13b {rom : xRom} {d : Nat} {c3 : Int} {v1 : Int} {v4 : Int} {M : xM} {r : (Int × Int) ⊕ (Int)} {out : Option xV × xH} (e : f_4_L13b M c3 v1 v4 = some r) (hK : ((Sum.elim (fun s => Rn rom (d + 0) 4 (13, [none, some (vI s.1), some (vR 178), some (vI c3), some (vI s.2), none], [], (G0, M)) out) (eI M out))) r) : Rn rom (d + 0) 4 (13, [none, some (vI v1), some (vR 178), some (vI c3), some (vI v4), none], [], (G0, M)) out := by
  have hc : xkall.getD 4 [] = xk_4 := rfl
  unfold f_4_L13b at e
  refine Rn_ms (σ' := (16, [none, some (vI v1), some (vR 178), some (vI c3), some (vI v4), none], [vI c3, vI v4], (G0, M))) hc 2 rfl ?_
  refine R_ite e (fun b1 e => ?_) (fun b1 e => ?_)
  · refine Rn_icT (tgt := 36) hc rfl rfl (by decide) b1 ?_
    refine Rn_ms (σ' := (37, [none, some (vI v1), some (vR 178), some (vI c3), some (vI v4), none], [vI v1], (G0, M))) hc 1 rfl ?_
    cases e
    exact R_end (Rn_iret hc rfl rfl (xretI rfl rfl)) hK
  · refine Rn_icF hc rfl rfl (by decide) b1 ?_
    refine Rn_ms (σ' := (22, [none, some (vI v1), some (vR 178), some (vI c3), some (vI v4), none], [vI v4, vR 178], (G0, M))) hc 2 rfl ?_
    refine R_gd e (fun g2 e => ?_)
    refine Rn_iald hc rfl rfl tgc_178 zsc_178 g2 rfl ?_
    refine Rn_ms (σ' := (13, [none, some (vI (v1 + (M 178 (wr v4).toNat))), some (vR 178), some (vI c3), some (vI (v4 + 1)), some (vI (M 178 (wr v4).toNat))], [], (G0, M))) hc 7 rfl ?_
    cases e
    exact Rn_weak (xle_s (xle_s (xle_s (xle_s (xle_s (xle_n xle_0)))))) hK
def f_4_L13 (M : xM) (c3 : Int) (s : Int × Int) : Option (Int) := loop NF (fun s => f_4_L13b M c3 s.1 s.2) s
theorem t_4_L13 {rom : xRom} {d : Nat} {c3 : Int} {M : xM} {s : Int × Int} {r : Int} {out : Option xV × xH} (e : f_4_L13 M c3 s = some r) (hK : (eI M out) r) : Rn rom (d + 0) 4 (13, [none, some (vI s.1), some (vR 178), some (vI c3), some (vI s.2), none], [], (G0, M)) out := by
  unfold f_4_L13 at e
  revert e hK
  exact R_loop (b := fun s => f_4_L13b M c3 s.1 s.2) (G := fun s => Rn rom (d + 0) 4 (13, [none, some (vI s.1), some (vR 178), some (vI c3), some (vI s.2), none], [], (G0, M)) out) (K := eI M out) (fun s r e hK => t_4_L13b  e hK) NF s r
/-- PedalLayers$Ear.sum -/
def f_4 (M : xM) : Option (Int) :=
  f_4_L13 M 36 (0, 0)
theorem t_4 {rom : xRom} {d : Nat} {M : xM}  {r : Int} {out : Option xV × xH} (e : f_4 M = some r) (hK : eI M out r) : Rn rom (d + 0) 4 (0, [some (vR 177), none, none, none, none, none], [], (G0, M)) out := by
  have hc : xkall.getD 4 [] = xk_4 := rfl
  unfold f_4 at e
  refine Rn_ms (σ' := (3, [some (vR 177), some (vI 0), none, none, none, none], [vR 177], (G0, M))) hc 3 rfl ?_
  refine Rn_getR hc rfl tgc_177 (by decide) rfl prc_177_0 ?_
  refine Rn_ms (σ' := (8, [some (vR 177), some (vI 0), some (vR 178), none, none, none], [vR 178], (G0, M))) hc 2 rfl ?_
  refine Rn_alen hc rfl rfl tgc_178 (by decide) zsc_178 ?_
  refine Rn_ms (σ' := (13, [some (vR 177), some (vI 0), some (vR 178), some (vI 36), some (vI 0), none], [], (G0, M))) hc 3 rfl ?_
  exact Rn_weak (xle_n (xle_s (xle_s (xle_s (xle_s (xle_s xle_0)))))) (t_4_L13  e hK)
def f_5_L8b (M : xM) (v1 : Int) : Option ((Int) ⊕ (Int)) :=
  if wr v1 < 0 then
    some (.inr ((-4)))
  else
    if wr (f_2 M v1) ≤ 0 then
      some (.inl (v1 + (-1)))
    else
      some (.inr (v1))
theorem t_5_L8b {rom : xRom} {d : Nat} {v1 : Int} {M : xM} {r : (Int) ⊕ (Int)} {out : Option xV × xH} (e : f_5_L8b M v1 = some r) (hK : ((Sum.elim (fun s => Rn rom (d + 1) 5 (8, [some (vR 177), some (vI s)], [], (G0, M)) out) (eI M out))) r) : Rn rom (d + 1) 5 (8, [some (vR 177), some (vI v1)], [], (G0, M)) out := by
  have hc : xkall.getD 5 [] = xk_5 := rfl
  unfold f_5_L8b at e
  refine Rn_ms (σ' := (9, [some (vR 177), some (vI v1)], [vI v1], (G0, M))) hc 1 rfl ?_
  refine R_ite e (fun b1 e => ?_) (fun b1 e => ?_)
  · refine Rn_ifT (tgt := 28) hc rfl rfl (by decide) b1 ?_
    refine Rn_ms (σ' := (30, [some (vR 177), some (vI v1)], [vI (-4)], (G0, M))) hc 1 rfl ?_
    cases e
    exact R_end (Rn_iret hc rfl rfl (xretI rfl rfl)) hK
  · refine Rn_ifF hc rfl rfl (by decide) b1 ?_
    refine Rn_ms (σ' := (14, [some (vR 177), some (vI v1)], [vI v1, vR 177], (G0, M))) hc 2 rfl ?_
    refine Rn_cv hc rfl rfl (by decide) (ii := xi_2) rfl rfl rfl (tgc_177 : Tg _ = 0) (by decide) rfl (le := [some (vR 177), some (vI v1)]) rfl (v := some (vI (f_2 M v1))) (M' := M) (t_2  (d := d + 0) rfl rfl) ?_
    show Rn rom (d + 1) 5 (17, [some (vR 177), some (vI v1)], [vI (f_2 M v1)], (G0, M)) out
    refine R_ite e (fun b2 e => ?_) (fun b2 e => ?_)
    · refine Rn_ifT (tgt := 22) hc rfl rfl (by decide) b2 ?_
      refine Rn_ms (σ' := (8, [some (vR 177), some (vI (v1 + (-1)))], [], (G0, M))) hc 2 rfl ?_
      cases e
      exact Rn_weak (xle_s (xle_s xle_0)) hK
    · refine Rn_ifF hc rfl rfl (by decide) b2 ?_
      refine Rn_ms (σ' := (21, [some (vR 177), some (vI v1)], [vI v1], (G0, M))) hc 1 rfl ?_
      cases e
      exact R_end (Rn_iret hc rfl rfl (xretI rfl rfl)) hK
def f_5_L8 (M : xM) (s : Int) : Option (Int) := loop NF (fun s => f_5_L8b M s) s
theorem t_5_L8 {rom : xRom} {d : Nat}  {M : xM} {s : Int} {r : Int} {out : Option xV × xH} (e : f_5_L8 M s = some r) (hK : (eI M out) r) : Rn rom (d + 1) 5 (8, [some (vR 177), some (vI s)], [], (G0, M)) out := by
  unfold f_5_L8 at e
  revert e hK
  exact R_loop (b := fun s => f_5_L8b M s) (G := fun s => Rn rom (d + 1) 5 (8, [some (vR 177), some (vI s)], [], (G0, M)) out) (K := eI M out) (fun s r e hK => t_5_L8b  e hK) NF s r
/-- PedalLayers$Ear.highestKey -/
def f_5 (M : xM) : Option (Int) :=
  f_5_L8 M ((36 - 1))
theorem t_5 {rom : xRom} {d : Nat} {M : xM}  {r : Int} {out : Option xV × xH} (e : f_5 M = some r) (hK : eI M out r) : Rn rom (d + 1) 5 (0, [some (vR 177), none], [], (G0, M)) out := by
  have hc : xkall.getD 5 [] = xk_5 := rfl
  unfold f_5 at e
  refine Rn_ms (σ' := (1, [some (vR 177), none], [vR 177], (G0, M))) hc 1 rfl ?_
  refine Rn_getR hc rfl tgc_177 (by decide) rfl prc_177_0 ?_
  show Rn rom (d + 1) 5 (4, [some (vR 177), none], [vR 178], (G0, M)) out
  refine Rn_alen hc rfl rfl tgc_178 (by decide) zsc_178 ?_
  refine Rn_ms (σ' := (8, [some (vR 177), some (vI (36 - 1))], [], (G0, M))) hc 3 rfl ?_
  exact Rn_weak (xle_s (xle_s xle_0)) (t_5_L8  e hK)
def f_6_L2b (M : xM) (v1 : Int) : Option ((Int) ⊕ (Int)) :=
  if 36 ≤ wr v1 then
    some (.inr ((-4)))
  else
    gd (0 ≤ wr v1 ∧ wr v1 < 36) (
    if wr (M 178 (wr v1).toNat) ≤ 0 then
      some (.inl (v1 + 1))
    else
      some (.inr (v1))
    )
theorem t_6_L2b {rom : xRom} {d : Nat} {v1 : Int} {M : xM} {r : (Int) ⊕ (Int)} {out : Option xV × xH} (e : f_6_L2b M v1 = some r) (hK : ((Sum.elim (fun s => Rn rom (d + 0) 6 (2, [some (vR 177), some (vI s)], [], (G0, M)) out) (eI M out))) r) : Rn rom (d + 0) 6 (2, [some (vR 177), some (vI v1)], [], (G0, M)) out := by
  have hc : xkall.getD 6 [] = xk_6 := rfl
  unfold f_6_L2b at e
  refine Rn_ms (σ' := (4, [some (vR 177), some (vI v1)], [vR 177, vI v1], (G0, M))) hc 2 rfl ?_
  refine Rn_getR hc rfl tgc_177 (by decide) rfl prc_177_0 ?_
  show Rn rom (d + 0) 6 (7, [some (vR 177), some (vI v1)], [vR 178, vI v1], (G0, M)) out
  refine Rn_alen hc rfl rfl tgc_178 (by decide) zsc_178 ?_
  show Rn rom (d + 0) 6 (8, [some (vR 177), some (vI v1)], [vI 36, vI v1], (G0, M)) out
  refine R_ite e (fun b1 e => ?_) (fun b1 e => ?_)
  · refine Rn_icT (tgt := 28) hc rfl rfl (by decide) b1 ?_
    refine Rn_ms (σ' := (30, [some (vR 177), some (vI v1)], [vI (-4)], (G0, M))) hc 1 rfl ?_
    cases e
    exact R_end (Rn_iret hc rfl rfl (xretI rfl rfl)) hK
  · refine Rn_icF hc rfl rfl (by decide) b1 ?_
    refine Rn_ms (σ' := (12, [some (vR 177), some (vI v1)], [vR 177], (G0, M))) hc 1 rfl ?_
    refine Rn_getR hc rfl tgc_177 (by decide) rfl prc_177_0 ?_
    refine Rn_ms (σ' := (16, [some (vR 177), some (vI v1)], [vI v1, vR 178], (G0, M))) hc 1 rfl ?_
    refine R_gd e (fun g2 e => ?_)
    refine Rn_iald hc rfl rfl tgc_178 zsc_178 g2 rfl ?_
    show Rn rom (d + 0) 6 (17, [some (vR 177), some (vI v1)], [vI (M 178 (wr v1).toNat)], (G0, M)) out
    refine R_ite e (fun b3 e => ?_) (fun b3 e => ?_)
    · refine Rn_ifT (tgt := 22) hc rfl rfl (by decide) b3 ?_
      refine Rn_ms (σ' := (2, [some (vR 177), some (vI (v1 + 1))], [], (G0, M))) hc 2 rfl ?_
      cases e
      exact Rn_weak (xle_s (xle_s xle_0)) hK
    · refine Rn_ifF hc rfl rfl (by decide) b3 ?_
      refine Rn_ms (σ' := (21, [some (vR 177), some (vI v1)], [vI v1], (G0, M))) hc 1 rfl ?_
      cases e
      exact R_end (Rn_iret hc rfl rfl (xretI rfl rfl)) hK
def f_6_L2 (M : xM) (s : Int) : Option (Int) := loop NF (fun s => f_6_L2b M s) s
theorem t_6_L2 {rom : xRom} {d : Nat}  {M : xM} {s : Int} {r : Int} {out : Option xV × xH} (e : f_6_L2 M s = some r) (hK : (eI M out) r) : Rn rom (d + 0) 6 (2, [some (vR 177), some (vI s)], [], (G0, M)) out := by
  unfold f_6_L2 at e
  revert e hK
  exact R_loop (b := fun s => f_6_L2b M s) (G := fun s => Rn rom (d + 0) 6 (2, [some (vR 177), some (vI s)], [], (G0, M)) out) (K := eI M out) (fun s r e hK => t_6_L2b  e hK) NF s r
/-- PedalLayers$Ear.lowestKey -/
def f_6 (M : xM) : Option (Int) :=
  f_6_L2 M (0)
theorem t_6 {rom : xRom} {d : Nat} {M : xM}  {r : Int} {out : Option xV × xH} (e : f_6 M = some r) (hK : eI M out r) : Rn rom (d + 0) 6 (0, [some (vR 177), none], [], (G0, M)) out := by
  have hc : xkall.getD 6 [] = xk_6 := rfl
  unfold f_6 at e
  refine Rn_ms (σ' := (2, [some (vR 177), some (vI 0)], [], (G0, M))) hc 2 rfl ?_
  exact Rn_weak (xle_s (xle_s xle_0)) (t_6_L2  e hK)
def f_7_L7b (M : xM) (v1 : Int) (v2 : Int) (v3 : Int) : Option ((Int × Int × Int) ⊕ (Int)) :=
  if 36 ≤ wr v3 then
    some (.inr (v1))
  else
    gd (0 ≤ wr v3 ∧ wr v3 < 36) (
    if wr (M 178 (wr v3).toNat) ≤ wr v2 then
      some (.inl (v1, v2, (v3 + 1)))
    else
      gd (0 ≤ wr v3 ∧ wr v3 < 36) (
      some (.inl (v3, (M 178 (wr v3).toNat), (v3 + 1)))
      )
    )
theorem t_7_L7b {rom : xRom} {d : Nat} {v1 : Int} {v2 : Int} {v3 : Int} {M : xM} {r : (Int × Int × Int) ⊕ (Int)} {out : Option xV × xH} (e : f_7_L7b M v1 v2 v3 = some r) (hK : ((Sum.elim (fun s => Rn rom (d + 0) 7 (7, [some (vR 177), some (vI s.1), some (vI s.2.1), some (vI s.2.2)], [], (G0, M)) out) (eI M out))) r) : Rn rom (d + 0) 7 (7, [some (vR 177), some (vI v1), some (vI v2), some (vI v3)], [], (G0, M)) out := by
  have hc : xkall.getD 7 [] = xk_7 := rfl
  unfold f_7_L7b at e
  refine Rn_ms (σ' := (9, [some (vR 177), some (vI v1), some (vI v2), some (vI v3)], [vR 177, vI v3], (G0, M))) hc 2 rfl ?_
  refine Rn_getR hc rfl tgc_177 (by decide) rfl prc_177_0 ?_
  show Rn rom (d + 0) 7 (12, [some (vR 177), some (vI v1), some (vI v2), some (vI v3)], [vR 178, vI v3], (G0, M)) out
  refine Rn_alen hc rfl rfl tgc_178 (by decide) zsc_178 ?_
  show Rn rom (d + 0) 7 (13, [some (vR 177), some (vI v1), some (vI v2), some (vI v3)], [vI 36, vI v3], (G0, M)) out
  refine R_ite e (fun b1 e => ?_) (fun b1 e => ?_)
  · refine Rn_icT (tgt := 41) hc rfl rfl (by decide) b1 ?_
    refine Rn_ms (σ' := (42, [some (vR 177), some (vI v1), some (vI v2), some (vI v3)], [vI v1], (G0, M))) hc 1 rfl ?_
    cases e
    exact R_end (Rn_iret hc rfl rfl (xretI rfl rfl)) hK
  · refine Rn_icF hc rfl rfl (by decide) b1 ?_
    refine Rn_ms (σ' := (17, [some (vR 177), some (vI v1), some (vI v2), some (vI v3)], [vR 177], (G0, M))) hc 1 rfl ?_
    refine Rn_getR hc rfl tgc_177 (by decide) rfl prc_177_0 ?_
    refine Rn_ms (σ' := (21, [some (vR 177), some (vI v1), some (vI v2), some (vI v3)], [vI v3, vR 178], (G0, M))) hc 1 rfl ?_
    refine R_gd e (fun g2 e => ?_)
    refine Rn_iald hc rfl rfl tgc_178 zsc_178 g2 rfl ?_
    refine Rn_ms (σ' := (23, [some (vR 177), some (vI v1), some (vI v2), some (vI v3)], [vI v2, vI (M 178 (wr v3).toNat)], (G0, M))) hc 1 rfl ?_
    refine R_ite e (fun b3 e => ?_) (fun b3 e => ?_)
    · refine Rn_icT (tgt := 35) hc rfl rfl (by decide) b3 ?_
      refine Rn_ms (σ' := (7, [some (vR 177), some (vI v1), some (vI v2), some (vI (v3 + 1))], [], (G0, M))) hc 2 rfl ?_
      cases e
      exact Rn_weak (xle_s (xle_s (xle_s (xle_s xle_0)))) hK
    · refine Rn_icF hc rfl rfl (by decide) b3 ?_
      refine Rn_ms (σ' := (27, [some (vR 177), some (vI v1), some (vI v2), some (vI v3)], [vR 177], (G0, M))) hc 1 rfl ?_
      refine Rn_getR hc rfl tgc_177 (by decide) rfl prc_177_0 ?_
      refine Rn_ms (σ' := (31, [some (vR 177), some (vI v1), some (vI v2), some (vI v3)], [vI v3, vR 178], (G0, M))) hc 1 rfl ?_
      refine R_gd e (fun g4 e => ?_)
      refine Rn_iald hc rfl rfl tgc_178 zsc_178 g4 rfl ?_
      refine Rn_ms (σ' := (7, [some (vR 177), some (vI v3), some (vI (M 178 (wr v3).toNat)), some (vI (v3 + 1))], [], (G0, M))) hc 5 rfl ?_
      cases e
      exact Rn_weak (xle_s (xle_s (xle_s (xle_s xle_0)))) hK
def f_7_L7 (M : xM) (s : Int × Int × Int) : Option (Int) := loop NF (fun s => f_7_L7b M s.1 s.2.1 s.2.2) s
theorem t_7_L7 {rom : xRom} {d : Nat}  {M : xM} {s : Int × Int × Int} {r : Int} {out : Option xV × xH} (e : f_7_L7 M s = some r) (hK : (eI M out) r) : Rn rom (d + 0) 7 (7, [some (vR 177), some (vI s.1), some (vI s.2.1), some (vI s.2.2)], [], (G0, M)) out := by
  unfold f_7_L7 at e
  revert e hK
  exact R_loop (b := fun s => f_7_L7b M s.1 s.2.1 s.2.2) (G := fun s => Rn rom (d + 0) 7 (7, [some (vR 177), some (vI s.1), some (vI s.2.1), some (vI s.2.2)], [], (G0, M)) out) (K := eI M out) (fun s r e hK => t_7_L7b  e hK) NF s r
/-- PedalLayers$Ear.strongestKey -/
def f_7 (M : xM) : Option (Int) :=
  f_7_L7 M ((-4), 0, 0)
theorem t_7 {rom : xRom} {d : Nat} {M : xM}  {r : Int} {out : Option xV × xH} (e : f_7 M = some r) (hK : eI M out r) : Rn rom (d + 0) 7 (0, [some (vR 177), none, none, none], [], (G0, M)) out := by
  have hc : xkall.getD 7 [] = xk_7 := rfl
  unfold f_7 at e
  refine Rn_ms (σ' := (7, [some (vR 177), some (vI (-4)), some (vI 0), some (vI 0)], [], (G0, M))) hc 6 rfl ?_
  exact Rn_weak (xle_s (xle_s (xle_s (xle_s xle_0)))) (t_7_L7  e hK)
def f_62_L4b (M : xM) (a0 : Nat) (c1 : Int) (v2 : Int) (v3 : Int) : Option ((Int × Int) ⊕ (Int)) :=
  if wr c1 ≤ wr v3 then
    some (.inr (v2))
  else
    if (f_57 a0 v3) = 0 then
      some (.inl (v2, (v3 + 1)))
    else
      gd (Tg (f_57 a0 v3) = 3) (
      some (.inl ((xmax v2 (f_29 M ((f_57 a0 v3) + 1))), (v3 + 1)))
      )
theorem t_62_L4b {rom : xRom} {d : Nat} {a0 : Nat} {c1 : Int} {v2 : Int} {v3 : Int} {M : xM} (h0 : Tg a0 = 7) {r : (Int × Int) ⊕ (Int)} {out : Option xV × xH} (e : f_62_L4b M a0 c1 v2 v3 = some r) (hK : ((Sum.elim (fun s => Rn rom (d + 1) 62 (4, [some (vR a0), some (vI c1), some (vI s.1), some (vI s.2), none], [], (G0, M)) out) (eI M out))) r) : Rn rom (d + 1) 62 (4, [some (vR a0), some (vI c1), some (vI v2), some (vI v3), none], [], (G0, M)) out := by
  have hc : xkall.getD 62 [] = xk_62 := rfl
  unfold f_62_L4b at e
  refine Rn_ms (σ' := (6, [some (vR a0), some (vI c1), some (vI v2), some (vI v3), none], [vI c1, vI v3], (G0, M))) hc 2 rfl ?_
  refine R_ite e (fun b1 e => ?_) (fun b1 e => ?_)
  · refine Rn_icT (tgt := 40) hc rfl rfl (by decide) b1 ?_
    refine Rn_ms (σ' := (41, [some (vR a0), some (vI c1), some (vI v2), some (vI v3), none], [vI v2], (G0, M))) hc 1 rfl ?_
    cases e
    exact R_end (Rn_iret hc rfl rfl (xretI rfl rfl)) hK
  · refine Rn_icF hc rfl rfl (by decide) b1 ?_
    refine Rn_ms (σ' := (11, [some (vR a0), some (vI c1), some (vI v2), some (vI v3), none], [vI v3, vR a0], (G0, M))) hc 2 rfl ?_
    refine Rn_cv hc rfl rfl (by decide) (ii := xi_57) rfl rfl rfl (h0 : Tg _ = 7) (by decide) rfl (le := [some (vR a0), some (vI v3)]) rfl (v := some (vR (f_57 a0 v3))) (M' := M) (t_57 h0 (d := d + 0) rfl rfl) ?_
    refine Rn_ms (σ' := (18, [some (vR a0), some (vI c1), some (vI v2), some (vI v3), some (vR (f_57 a0 v3))], [vR (f_57 a0 v3)], (G0, M))) hc 2 rfl ?_
    refine R_ite e (fun b2 e => ?_) (fun b2 e => ?_)
    · refine Rn_nuT (tgt := 34) hc rfl rfl (by decide) b2 ?_
      refine Rn_ms (σ' := (4, [some (vR a0), some (vI c1), some (vI v2), some (vI (v3 + 1)), some (vR (f_57 a0 v3))], [], (G0, M))) hc 2 rfl ?_
      cases e
      exact Rn_weak (xle_s (xle_s (xle_s (xle_s (xle_n xle_0))))) hK
    · refine Rn_nuF hc rfl rfl (by decide) b2 ?_
      refine Rn_ms (σ' := (24, [some (vR a0), some (vI c1), some (vI v2), some (vI v3), some (vR (f_57 a0 v3))], [vR (f_57 a0 v3), vI v2], (G0, M))) hc 2 rfl ?_
      refine R_gd e (fun g3 e => ?_)
      refine Rn_getR hc rfl g3 (by decide) rfl (gP3_0_0 g3) ?_
      show Rn rom (d + 1) 62 (27, [some (vR a0), some (vI c1), some (vI v2), some (vI v3), some (vR (f_57 a0 v3))], [vR ((f_57 a0 v3) + 1), vI v2], (G0, M)) out
      refine Rn_cv hc rfl rfl (by decide) (ii := xi_29) rfl rfl rfl ((gT3_1 g3) : Tg _ = 4) (by decide) rfl (le := [some (vR ((f_57 a0 v3) + 1))]) rfl (v := some (vI (f_29 M ((f_57 a0 v3) + 1)))) (M' := M) (t_29 (gT3_1 g3) (d := d + 0) rfl rfl) ?_
      show Rn rom (d + 1) 62 (30, [some (vR a0), some (vI c1), some (vI v2), some (vI v3), some (vR (f_57 a0 v3))], [vI (f_29 M ((f_57 a0 v3) + 1)), vI v2], (G0, M)) out
      refine Rn_max hc rfl rfl (Nat.le_of_ble_eq_true rfl) ?_
      refine Rn_ms (σ' := (4, [some (vR a0), some (vI c1), some (vI (xmax v2 (f_29 M ((f_57 a0 v3) + 1)))), some (vI (v3 + 1)), some (vR (f_57 a0 v3))], [], (G0, M))) hc 3 rfl ?_
      cases e
      exact Rn_weak (xle_s (xle_s (xle_s (xle_s (xle_n xle_0))))) hK
def f_62_L4 (M : xM) (a0 : Nat) (c1 : Int) (s : Int × Int) : Option (Int) := loop NF (fun s => f_62_L4b M a0 c1 s.1 s.2) s
theorem t_62_L4 {rom : xRom} {d : Nat} {a0 : Nat} {c1 : Int} {M : xM} (h0 : Tg a0 = 7) {s : Int × Int} {r : Int} {out : Option xV × xH} (e : f_62_L4 M a0 c1 s = some r) (hK : (eI M out) r) : Rn rom (d + 1) 62 (4, [some (vR a0), some (vI c1), some (vI s.1), some (vI s.2), none], [], (G0, M)) out := by
  unfold f_62_L4 at e
  revert e hK
  exact R_loop (b := fun s => f_62_L4b M a0 c1 s.1 s.2) (G := fun s => Rn rom (d + 1) 62 (4, [some (vR a0), some (vI c1), some (vI s.1), some (vI s.2), none], [], (G0, M)) out) (K := eI M out) (fun s r e hK => t_62_L4b h0 e hK) NF s r
/-- PedalLayers$Pedal.loopLength -/
def f_62 (M : xM) (a0 : Nat) (a1 : Int) : Option (Int) :=
  f_62_L4 M a0 a1 (0, 0)
theorem t_62 {rom : xRom} {d : Nat} {M : xM} {a0 : Nat} {a1 : Int} (h0 : Tg a0 = 7) {r : Int} {out : Option xV × xH} (e : f_62 M a0 a1 = some r) (hK : eI M out r) : Rn rom (d + 1) 62 (0, [some (vR a0), some (vI a1), none, none, none], [], (G0, M)) out := by
  have hc : xkall.getD 62 [] = xk_62 := rfl
  unfold f_62 at e
  refine Rn_ms (σ' := (4, [some (vR a0), some (vI a1), some (vI 0), some (vI 0), none], [], (G0, M))) hc 4 rfl ?_
  exact Rn_weak (xle_s (xle_s (xle_s (xle_s (xle_s xle_0))))) (t_62_L4 h0 e hK)
def f_8_L12b (a1 : Nat) (c2 : Int) (c4 : Int) (v3 : Int) (v5 : Int) (M : xM) : Option ((Int × Int × xM) ⊕ (Int × xM)) :=
  if wr c4 ≤ wr v5 then
    some (.inr ((v3, M)))
  else
    (f_1 M a1 c2 v5).bind (fun k3 =>
    (f_4 k3).bind (fun k4 =>
    some (.inl ((v3 + k4), (v5 + 1), k3))
    ))
theorem t_8_L12b {rom : xRom} {d : Nat} {a1 : Nat} {c2 : Int} {c4 : Int} {v3 : Int} {v5 : Int} {M : xM} (h1 : Tg a1 = 7) {r : (Int × Int × xM) ⊕ (Int × xM)} {out : Option xV × xH} (e : f_8_L12b a1 c2 c4 v3 v5 M = some r) (hK : ((Sum.elim (fun s => Rn rom (d + 4) 8 (12, [some (vR 177), some (vR a1), some (vI c2), some (vI s.1), some (vI c4), some (vI s.2.1)], [], (G0, s.2.2)) out) (eIW out))) r) : Rn rom (d + 4) 8 (12, [some (vR 177), some (vR a1), some (vI c2), some (vI v3), some (vI c4), some (vI v5)], [], (G0, M)) out := by
  have hc : xkall.getD 8 [] = xk_8 := rfl
  unfold f_8_L12b at e
  refine Rn_ms (σ' := (16, [some (vR 177), some (vR a1), some (vI c2), some (vI v3), some (vI c4), some (vI v5)], [vI c4, vI v5], (G0, M))) hc 2 rfl ?_
  refine R_ite e (fun b2 e => ?_) (fun b2 e => ?_)
  · refine Rn_icT (tgt := 40) hc rfl rfl (by decide) b2 ?_
    refine Rn_ms (σ' := (41, [some (vR 177), some (vR a1), some (vI c2), some (vI v3), some (vI c4), some (vI v5)], [vI v3], (G0, M))) hc 1 rfl ?_
    cases e
    exact R_end (Rn_iret hc rfl rfl (xretI rfl rfl)) hK
  · refine Rn_icF hc rfl rfl (by decide) b2 ?_
    refine Rn_ms (σ' := (24, [some (vR 177), some (vR a1), some (vI c2), some (vI v3), some (vI c4), some (vI v5)], [vI v5, vI c2, vR a1, vR 177], (G0, M))) hc 4 rfl ?_
    refine R_bind e (fun k3 hk3 e => ?_)
    refine Rn_cv hc rfl rfl (by decide) (ii := xi_1) rfl rfl rfl (tgc_177 : Tg _ = 0) (by decide) rfl (le := [some (vR 177), some (vR a1), some (vI c2), some (vI v5), none, none, none, none, none]) rfl (v := none) (M' := k3) (t_1 h1 (d := d + 0) hk3 rfl) ?_
    refine Rn_ms (σ' := (29, [some (vR 177), some (vR a1), some (vI c2), some (vI v3), some (vI c4), some (vI v5)], [vR 177, vI v3], (G0, k3))) hc 2 rfl ?_
    refine R_bind e (fun k4 hk4 e => ?_)
    refine Rn_cv hc rfl rfl (by decide) (ii := xi_4) rfl rfl rfl (tgc_177 : Tg _ = 0) (by decide) rfl (le := [some (vR 177), none, none, none, none, none]) rfl (v := some (vI k4)) (M' := k3) (t_4  (d := d + 3) hk4 rfl) ?_
    refine Rn_ms (σ' := (12, [some (vR 177), some (vR a1), some (vI c2), some (vI (v3 + k4)), some (vI c4), some (vI (v5 + 1))], [], (G0, k3))) hc 4 rfl ?_
    cases e
    exact Rn_weak (xle_s (xle_s (xle_s (xle_s (xle_s (xle_s xle_0)))))) hK
def f_8_L12 (a1 : Nat) (c2 : Int) (c4 : Int) (s : Int × Int × xM) : Option (Int × xM) := loop NF (fun s => f_8_L12b a1 c2 c4 s.1 s.2.1 s.2.2) s
theorem t_8_L12 {rom : xRom} {d : Nat} {a1 : Nat} {c2 : Int} {c4 : Int} (h1 : Tg a1 = 7) {s : Int × Int × xM} {r : Int × xM} {out : Option xV × xH} (e : f_8_L12 a1 c2 c4 s = some r) (hK : (eIW out) r) : Rn rom (d + 4) 8 (12, [some (vR 177), some (vR a1), some (vI c2), some (vI s.1), some (vI c4), some (vI s.2.1)], [], (G0, s.2.2)) out := by
  unfold f_8_L12 at e
  revert e hK
  exact R_loop (b := fun s => f_8_L12b a1 c2 c4 s.1 s.2.1 s.2.2) (G := fun s => Rn rom (d + 4) 8 (12, [some (vR 177), some (vR a1), some (vI c2), some (vI s.1), some (vI c4), some (vI s.2.1)], [], (G0, s.2.2)) out) (K := eIW out) (fun s r e hK => t_8_L12b h1 e hK) NF s r
/-- PedalLayers$Ear.sumOfCells -/
def f_8 (M : xM) (a1 : Nat) (a2 : Int) : Option (Int × xM) :=
  (f_62 M a1 a2).bind (fun k1 =>
  f_8_L12 a1 a2 k1 (0, 0, M)
  )
theorem t_8 {rom : xRom} {d : Nat} {M : xM} {a1 : Nat} {a2 : Int} (h1 : Tg a1 = 7) {r : Int × xM} {out : Option xV × xH} (e : f_8 M a1 a2 = some r) (hK : eIW out r) : Rn rom (d + 4) 8 (0, [some (vR 177), some (vR a1), some (vI a2), none, none, none], [], (G0, M)) out := by
  have hc : xkall.getD 8 [] = xk_8 := rfl
  unfold f_8 at e
  refine Rn_ms (σ' := (4, [some (vR 177), some (vR a1), some (vI a2), some (vI 0), none, none], [vI a2, vR a1], (G0, M))) hc 4 rfl ?_
  refine R_bind e (fun k1 hk1 e => ?_)
  refine Rn_cv hc rfl rfl (by decide) (ii := xi_62) rfl rfl rfl (h1 : Tg _ = 7) (by decide) rfl (le := [some (vR a1), some (vI a2), none, none, none]) rfl (v := some (vI k1)) (M' := M) (t_62 h1 (d := d + 2) hk1 rfl) ?_
  refine Rn_ms (σ' := (12, [some (vR 177), some (vR a1), some (vI a2), some (vI 0), some (vI k1), some (vI 0)], [], (G0, M))) hc 3 rfl ?_
  exact Rn_weak (xle_s (xle_s (xle_s (xle_s (xle_s (xle_s xle_0)))))) (t_8_L12 h1 e hK)
def f_9_L12b (a1 : Nat) (c2 : Int) (c4 : Int) (v3 : Int) (v5 : Int) (M : xM) : Option ((Int × Int × xM) ⊕ (Int × xM)) :=
  if wr c4 ≤ wr v5 then
    some (.inr ((v3, M)))
  else
    (f_1 M a1 c2 v5).bind (fun k3 =>
    (f_4 k3).bind (fun k4 =>
    if wr k4 = 0 then
      some (.inl ((v3 + 1), (v5 + 1), k3))
    else
      some (.inl (v3, (v5 + 1), k3))
    ))
theorem t_9_L12b {rom : xRom} {d : Nat} {a1 : Nat} {c2 : Int} {c4 : Int} {v3 : Int} {v5 : Int} {M : xM} (h1 : Tg a1 = 7) {r : (Int × Int × xM) ⊕ (Int × xM)} {out : Option xV × xH} (e : f_9_L12b a1 c2 c4 v3 v5 M = some r) (hK : ((Sum.elim (fun s => Rn rom (d + 4) 9 (12, [some (vR 177), some (vR a1), some (vI c2), some (vI s.1), some (vI c4), some (vI s.2.1)], [], (G0, s.2.2)) out) (eIW out))) r) : Rn rom (d + 4) 9 (12, [some (vR 177), some (vR a1), some (vI c2), some (vI v3), some (vI c4), some (vI v5)], [], (G0, M)) out := by
  have hc : xkall.getD 9 [] = xk_9 := rfl
  unfold f_9_L12b at e
  refine Rn_ms (σ' := (16, [some (vR 177), some (vR a1), some (vI c2), some (vI v3), some (vI c4), some (vI v5)], [vI c4, vI v5], (G0, M))) hc 2 rfl ?_
  refine R_ite e (fun b2 e => ?_) (fun b2 e => ?_)
  · refine Rn_icT (tgt := 43) hc rfl rfl (by decide) b2 ?_
    refine Rn_ms (σ' := (44, [some (vR 177), some (vR a1), some (vI c2), some (vI v3), some (vI c4), some (vI v5)], [vI v3], (G0, M))) hc 1 rfl ?_
    cases e
    exact R_end (Rn_iret hc rfl rfl (xretI rfl rfl)) hK
  · refine Rn_icF hc rfl rfl (by decide) b2 ?_
    refine Rn_ms (σ' := (24, [some (vR 177), some (vR a1), some (vI c2), some (vI v3), some (vI c4), some (vI v5)], [vI v5, vI c2, vR a1, vR 177], (G0, M))) hc 4 rfl ?_
    refine R_bind e (fun k3 hk3 e => ?_)
    refine Rn_cv hc rfl rfl (by decide) (ii := xi_1) rfl rfl rfl (tgc_177 : Tg _ = 0) (by decide) rfl (le := [some (vR 177), some (vR a1), some (vI c2), some (vI v5), none, none, none, none, none]) rfl (v := none) (M' := k3) (t_1 h1 (d := d + 0) hk3 rfl) ?_
    refine Rn_ms (σ' := (28, [some (vR 177), some (vR a1), some (vI c2), some (vI v3), some (vI c4), some (vI v5)], [vR 177], (G0, k3))) hc 1 rfl ?_
    refine R_bind e (fun k4 hk4 e => ?_)
    refine Rn_cv hc rfl rfl (by decide) (ii := xi_4) rfl rfl rfl (tgc_177 : Tg _ = 0) (by decide) rfl (le := [some (vR 177), none, none, none, none, none]) rfl (v := some (vI k4)) (M' := k3) (t_4  (d := d + 3) hk4 rfl) ?_
    show Rn rom (d + 4) 9 (31, [some (vR 177), some (vR a1), some (vI c2), some (vI v3), some (vI c4), some (vI v5)], [vI k4], (G0, k3)) out
    refine R_ite e (fun b5 e => ?_) (fun b5 e => ?_)
    · refine Rn_ifF hc rfl rfl (by decide) (fun w => w b5) ?_
      refine Rn_ms (σ' := (12, [some (vR 177), some (vR a1), some (vI c2), some (vI (v3 + 1)), some (vI c4), some (vI (v5 + 1))], [], (G0, k3))) hc 3 rfl ?_
      cases e
      exact Rn_weak (xle_s (xle_s (xle_s (xle_s (xle_s (xle_s xle_0)))))) hK
    · refine Rn_ifT (tgt := 37) hc rfl rfl (by decide) (fun w => b5 w) ?_
      refine Rn_ms (σ' := (12, [some (vR 177), some (vR a1), some (vI c2), some (vI v3), some (vI c4), some (vI (v5 + 1))], [], (G0, k3))) hc 2 rfl ?_
      cases e
      exact Rn_weak (xle_s (xle_s (xle_s (xle_s (xle_s (xle_s xle_0)))))) hK
def f_9_L12 (a1 : Nat) (c2 : Int) (c4 : Int) (s : Int × Int × xM) : Option (Int × xM) := loop NF (fun s => f_9_L12b a1 c2 c4 s.1 s.2.1 s.2.2) s
theorem t_9_L12 {rom : xRom} {d : Nat} {a1 : Nat} {c2 : Int} {c4 : Int} (h1 : Tg a1 = 7) {s : Int × Int × xM} {r : Int × xM} {out : Option xV × xH} (e : f_9_L12 a1 c2 c4 s = some r) (hK : (eIW out) r) : Rn rom (d + 4) 9 (12, [some (vR 177), some (vR a1), some (vI c2), some (vI s.1), some (vI c4), some (vI s.2.1)], [], (G0, s.2.2)) out := by
  unfold f_9_L12 at e
  revert e hK
  exact R_loop (b := fun s => f_9_L12b a1 c2 c4 s.1 s.2.1 s.2.2) (G := fun s => Rn rom (d + 4) 9 (12, [some (vR 177), some (vR a1), some (vI c2), some (vI s.1), some (vI c4), some (vI s.2.1)], [], (G0, s.2.2)) out) (K := eIW out) (fun s r e hK => t_9_L12b h1 e hK) NF s r
/-- PedalLayers$Ear.silentCells -/
def f_9 (M : xM) (a1 : Nat) (a2 : Int) : Option (Int × xM) :=
  (f_62 M a1 a2).bind (fun k1 =>
  f_9_L12 a1 a2 k1 (0, 0, M)
  )
theorem t_9 {rom : xRom} {d : Nat} {M : xM} {a1 : Nat} {a2 : Int} (h1 : Tg a1 = 7) {r : Int × xM} {out : Option xV × xH} (e : f_9 M a1 a2 = some r) (hK : eIW out r) : Rn rom (d + 4) 9 (0, [some (vR 177), some (vR a1), some (vI a2), none, none, none], [], (G0, M)) out := by
  have hc : xkall.getD 9 [] = xk_9 := rfl
  unfold f_9 at e
  refine Rn_ms (σ' := (4, [some (vR 177), some (vR a1), some (vI a2), some (vI 0), none, none], [vI a2, vR a1], (G0, M))) hc 4 rfl ?_
  refine R_bind e (fun k1 hk1 e => ?_)
  refine Rn_cv hc rfl rfl (by decide) (ii := xi_62) rfl rfl rfl (h1 : Tg _ = 7) (by decide) rfl (le := [some (vR a1), some (vI a2), none, none, none]) rfl (v := some (vI k1)) (M' := M) (t_62 h1 (d := d + 2) hk1 rfl) ?_
  refine Rn_ms (σ' := (12, [some (vR 177), some (vR a1), some (vI a2), some (vI 0), some (vI k1), some (vI 0)], [], (G0, M))) hc 3 rfl ?_
  exact Rn_weak (xle_s (xle_s (xle_s (xle_s (xle_s (xle_s xle_0)))))) (t_9_L12 h1 e hK)
def f_10_L18b (a1 : Nat) (c4 : Int) (v2 : Int) (v3 : Int) (v5 : Int) (M : xM) : Option ((Int × Int × Int × xM) ⊕ (Int × xM)) :=
  if wr c4 ≤ wr v5 then
    some (.inr ((v2, M)))
  else
    (f_1 M a1 (M a1 5) v5).bind (fun k3 =>
    (f_4 k3).bind (fun k4 =>
    if wr k4 ≤ wr v3 then
      some (.inl (v2, v3, (v5 + 1), k3))
    else
      (f_4 k3).bind (fun k6 =>
      some (.inl (v5, k6, (v5 + 1), k3))
      )
    ))
theorem t_10_L18b {rom : xRom} {d : Nat} {a1 : Nat} {c4 : Int} {v2 : Int} {v3 : Int} {v5 : Int} {M : xM} (h1 : Tg a1 = 7) {r : (Int × Int × Int × xM) ⊕ (Int × xM)} {out : Option xV × xH} (e : f_10_L18b a1 c4 v2 v3 v5 M = some r) (hK : ((Sum.elim (fun s => Rn rom (d + 4) 10 (18, [some (vR 177), some (vR a1), some (vI s.1), some (vI s.2.1), some (vI c4), some (vI s.2.2.1)], [], (G0, s.2.2.2)) out) (eIW out))) r) : Rn rom (d + 4) 10 (18, [some (vR 177), some (vR a1), some (vI v2), some (vI v3), some (vI c4), some (vI v5)], [], (G0, M)) out := by
  have hc : xkall.getD 10 [] = xk_10 := rfl
  unfold f_10_L18b at e
  refine Rn_ms (σ' := (22, [some (vR 177), some (vR a1), some (vI v2), some (vI v3), some (vI c4), some (vI v5)], [vI c4, vI v5], (G0, M))) hc 2 rfl ?_
  refine R_ite e (fun b2 e => ?_) (fun b2 e => ?_)
  · refine Rn_icT (tgt := 58) hc rfl rfl (by decide) b2 ?_
    refine Rn_ms (σ' := (59, [some (vR 177), some (vR a1), some (vI v2), some (vI v3), some (vI c4), some (vI v5)], [vI v2], (G0, M))) hc 1 rfl ?_
    cases e
    exact R_end (Rn_iret hc rfl rfl (xretI rfl rfl)) hK
  · refine Rn_icF hc rfl rfl (by decide) b2 ?_
    refine Rn_ms (σ' := (28, [some (vR 177), some (vR a1), some (vI v2), some (vI v3), some (vI c4), some (vI v5)], [vR a1, vR a1, vR 177], (G0, M))) hc 3 rfl ?_
    refine Rn_getI hc rfl h1 (by decide) (by decide) ?_
    refine Rn_ms (σ' := (33, [some (vR 177), some (vR a1), some (vI v2), some (vI v3), some (vI c4), some (vI v5)], [vI v5, vI (M a1 5), vR a1, vR 177], (G0, M))) hc 1 rfl ?_
    refine R_bind e (fun k3 hk3 e => ?_)
    refine Rn_cv hc rfl rfl (by decide) (ii := xi_1) rfl rfl rfl (tgc_177 : Tg _ = 0) (by decide) rfl (le := [some (vR 177), some (vR a1), some (vI (M a1 5)), some (vI v5), none, none, none, none, none]) rfl (v := none) (M' := k3) (t_1 h1 (d := d + 0) hk3 rfl) ?_
    refine Rn_ms (σ' := (37, [some (vR 177), some (vR a1), some (vI v2), some (vI v3), some (vI c4), some (vI v5)], [vR 177], (G0, k3))) hc 1 rfl ?_
    refine R_bind e (fun k4 hk4 e => ?_)
    refine Rn_cv hc rfl rfl (by decide) (ii := xi_4) rfl rfl rfl (tgc_177 : Tg _ = 0) (by decide) rfl (le := [some (vR 177), none, none, none, none, none]) rfl (v := some (vI k4)) (M' := k3) (t_4  (d := d + 3) hk4 rfl) ?_
    refine Rn_ms (σ' := (41, [some (vR 177), some (vR a1), some (vI v2), some (vI v3), some (vI c4), some (vI v5)], [vI v3, vI k4], (G0, k3))) hc 1 rfl ?_
    refine R_ite e (fun b5 e => ?_) (fun b5 e => ?_)
    · refine Rn_icT (tgt := 52) hc rfl rfl (by decide) b5 ?_
      refine Rn_ms (σ' := (18, [some (vR 177), some (vR a1), some (vI v2), some (vI v3), some (vI c4), some (vI (v5 + 1))], [], (G0, k3))) hc 2 rfl ?_
      cases e
      exact Rn_weak (xle_s (xle_s (xle_s (xle_s (xle_s (xle_s xle_0)))))) hK
    · refine Rn_icF hc rfl rfl (by decide) b5 ?_
      refine Rn_ms (σ' := (45, [some (vR 177), some (vR a1), some (vI v2), some (vI v3), some (vI c4), some (vI v5)], [vR 177], (G0, k3))) hc 1 rfl ?_
      refine R_bind e (fun k6 hk6 e => ?_)
      refine Rn_cv hc rfl rfl (by decide) (ii := xi_4) rfl rfl rfl (tgc_177 : Tg _ = 0) (by decide) rfl (le := [some (vR 177), none, none, none, none, none]) rfl (v := some (vI k6)) (M' := k3) (t_4  (d := d + 3) hk6 rfl) ?_
      refine Rn_ms (σ' := (18, [some (vR 177), some (vR a1), some (vI v5), some (vI k6), some (vI c4), some (vI (v5 + 1))], [], (G0, k3))) hc 5 rfl ?_
      cases e
      exact Rn_weak (xle_s (xle_s (xle_s (xle_s (xle_s (xle_s xle_0)))))) hK
def f_10_L18 (a1 : Nat) (c4 : Int) (s : Int × Int × Int × xM) : Option (Int × xM) := loop NF (fun s => f_10_L18b a1 c4 s.1 s.2.1 s.2.2.1 s.2.2.2) s
theorem t_10_L18 {rom : xRom} {d : Nat} {a1 : Nat} {c4 : Int} (h1 : Tg a1 = 7) {s : Int × Int × Int × xM} {r : Int × xM} {out : Option xV × xH} (e : f_10_L18 a1 c4 s = some r) (hK : (eIW out) r) : Rn rom (d + 4) 10 (18, [some (vR 177), some (vR a1), some (vI s.1), some (vI s.2.1), some (vI c4), some (vI s.2.2.1)], [], (G0, s.2.2.2)) out := by
  unfold f_10_L18 at e
  revert e hK
  exact R_loop (b := fun s => f_10_L18b a1 c4 s.1 s.2.1 s.2.2.1 s.2.2.2) (G := fun s => Rn rom (d + 4) 10 (18, [some (vR 177), some (vR a1), some (vI s.1), some (vI s.2.1), some (vI c4), some (vI s.2.2.1)], [], (G0, s.2.2.2)) out) (K := eIW out) (fun s r e hK => t_10_L18b h1 e hK) NF s r
/-- PedalLayers$Ear.loudestCell -/
def f_10 (M : xM) (a1 : Nat) : Option (Int × xM) :=
  (f_62 M a1 (M a1 5)).bind (fun k1 =>
  f_10_L18 a1 k1 ((-4), 0, 0, M)
  )
theorem t_10 {rom : xRom} {d : Nat} {M : xM} {a1 : Nat} (h1 : Tg a1 = 7) {r : Int × xM} {out : Option xV × xH} (e : f_10 M a1 = some r) (hK : eIW out r) : Rn rom (d + 4) 10 (0, [some (vR 177), some (vR a1), none, none, none, none], [], (G0, M)) out := by
  have hc : xkall.getD 10 [] = xk_10 := rfl
  unfold f_10 at e
  refine Rn_ms (σ' := (7, [some (vR 177), some (vR a1), some (vI (-4)), some (vI 0), none, none], [vR a1, vR a1], (G0, M))) hc 6 rfl ?_
  refine Rn_getI hc rfl h1 (by decide) (by decide) ?_
  show Rn rom (d + 4) 10 (10, [some (vR 177), some (vR a1), some (vI (-4)), some (vI 0), none, none], [vI (M a1 5), vR a1], (G0, M)) out
  refine R_bind e (fun k1 hk1 e => ?_)
  refine Rn_cv hc rfl rfl (by decide) (ii := xi_62) rfl rfl rfl (h1 : Tg _ = 7) (by decide) rfl (le := [some (vR a1), some (vI (M a1 5)), none, none, none]) rfl (v := some (vI k1)) (M' := M) (t_62 h1 (d := d + 2) hk1 rfl) ?_
  refine Rn_ms (σ' := (18, [some (vR 177), some (vR a1), some (vI (-4)), some (vI 0), some (vI k1), some (vI 0)], [], (G0, M))) hc 3 rfl ?_
  exact Rn_weak (xle_s (xle_s (xle_s (xle_s (xle_s (xle_s xle_0)))))) (t_10_L18 h1 e hK)
def f_12_L40b (M : xM) (a1 : Nat) (r4 : Nat) (c6 : Int) (c7 : Int) (v5 : Int) (v8 : Int) : Option ((Int × Int) ⊕ (Int)) :=
  if 36 ≤ wr v8 then
    some (.inr (v5))
  else
    if wr (f_30 M (r4 + 1) c7 (v8 + c6)) ≤ 0 then
      some (.inl (v5, (v8 + 1)))
    else
      gd (0 ≤ wr v8 ∧ wr v8 < 36) (
      if wr (M 178 (wr v8).toNat) ≤ wr (2 * (f_30 M (r4 + 1) c7 (v8 + c6))) then
        some (.inl (v5, (v8 + 1)))
      else
        some (.inl ((v5 + 1), (v8 + 1)))
      )
theorem t_12_L40b {rom : xRom} {d : Nat} {a1 : Nat} {r4 : Nat} {c6 : Int} {c7 : Int} {v5 : Int} {v8 : Int} {M : xM} (h1 : Tg a1 = 7) (hr4 : Tg r4 = 3) {r : (Int × Int) ⊕ (Int)} {out : Option xV × xH} (e : f_12_L40b M a1 r4 c6 c7 v5 v8 = some r) (hK : ((Sum.elim (fun s => Rn rom (d + 3) 12 (40, [some (vR 177), none, none, none, some (vR r4), some (vI s.1), some (vI c6), some (vI c7), some (vI s.2), none], [], (G0, M)) out) (eI M out))) r) : Rn rom (d + 3) 12 (40, [some (vR 177), none, none, none, some (vR r4), some (vI v5), some (vI c6), some (vI c7), some (vI v8), none], [], (G0, M)) out := by
  have hc : xkall.getD 12 [] = xk_12 := rfl
  unfold f_12_L40b at e
  refine Rn_ms (σ' := (43, [some (vR 177), none, none, none, some (vR r4), some (vI v5), some (vI c6), some (vI c7), some (vI v8), none], [vR 177, vI v8], (G0, M))) hc 2 rfl ?_
  refine Rn_getR hc rfl tgc_177 (by decide) rfl prc_177_0 ?_
  show Rn rom (d + 3) 12 (46, [some (vR 177), none, none, none, some (vR r4), some (vI v5), some (vI c6), some (vI c7), some (vI v8), none], [vR 178, vI v8], (G0, M)) out
  refine Rn_alen hc rfl rfl tgc_178 (by decide) zsc_178 ?_
  show Rn rom (d + 3) 12 (47, [some (vR 177), none, none, none, some (vR r4), some (vI v5), some (vI c6), some (vI c7), some (vI v8), none], [vI 36, vI v8], (G0, M)) out
  refine R_ite e (fun b4 e => ?_) (fun b4 e => ?_)
  · refine Rn_icT (tgt := 95) hc rfl rfl (by decide) b4 ?_
    refine Rn_ms (σ' := (97, [some (vR 177), none, none, none, some (vR r4), some (vI v5), some (vI c6), some (vI c7), some (vI v8), none], [vI v5], (G0, M))) hc 1 rfl ?_
    cases e
    exact R_end (Rn_iret hc rfl rfl (xretI rfl rfl)) hK
  · refine Rn_icF hc rfl rfl (by decide) b4 ?_
    refine Rn_ms (σ' := (52, [some (vR 177), none, none, none, some (vR r4), some (vI v5), some (vI c6), some (vI c7), some (vI v8), none], [vR r4], (G0, M))) hc 1 rfl ?_
    refine Rn_getR hc rfl hr4 (by decide) rfl (gP3_0_0 hr4) ?_
    refine Rn_ms (σ' := (62, [some (vR 177), none, none, none, some (vR r4), some (vI v5), some (vI c6), some (vI c7), some (vI v8), none], [vI (v8 + c6), vI c7, vR (r4 + 1)], (G0, M))) hc 4 rfl ?_
    refine Rn_cv hc rfl rfl (by decide) (ii := xi_30) rfl rfl rfl ((gT3_1 hr4) : Tg _ = 4) (by decide) rfl (le := [some (vR (r4 + 1)), some (vI c7), some (vI (v8 + c6)), none]) rfl (v := some (vI (f_30 M (r4 + 1) c7 (v8 + c6)))) (M' := M) (t_30 (gT3_1 hr4) (d := d + 1) rfl rfl) ?_
    refine Rn_ms (σ' := (69, [some (vR 177), none, none, none, some (vR r4), some (vI v5), some (vI c6), some (vI c7), some (vI v8), some (vI (f_30 M (r4 + 1) c7 (v8 + c6)))], [vI (f_30 M (r4 + 1) c7 (v8 + c6))], (G0, M))) hc 2 rfl ?_
    refine R_ite e (fun b5 e => ?_) (fun b5 e => ?_)
    · refine Rn_ifT (tgt := 89) hc rfl rfl (by decide) b5 ?_
      refine Rn_ms (σ' := (40, [some (vR 177), none, none, none, some (vR r4), some (vI v5), some (vI c6), some (vI c7), some (vI (v8 + 1)), some (vI (f_30 M (r4 + 1) c7 (v8 + c6)))], [], (G0, M))) hc 2 rfl ?_
      cases e
      exact Rn_weak (xle_s (xle_s (xle_s (xle_s (xle_s (xle_s (xle_s (xle_s (xle_s (xle_n xle_0)))))))))) hK
    · refine Rn_ifF hc rfl rfl (by decide) b5 ?_
      refine Rn_ms (σ' := (77, [some (vR 177), none, none, none, some (vR r4), some (vI v5), some (vI c6), some (vI c7), some (vI v8), some (vI (f_30 M (r4 + 1) c7 (v8 + c6)))], [vR 177, vI (2 * (f_30 M (r4 + 1) c7 (v8 + c6)))], (G0, M))) hc 4 rfl ?_
      refine Rn_getR hc rfl tgc_177 (by decide) rfl prc_177_0 ?_
      refine Rn_ms (σ' := (82, [some (vR 177), none, none, none, some (vR r4), some (vI v5), some (vI c6), some (vI c7), some (vI v8), some (vI (f_30 M (r4 + 1) c7 (v8 + c6)))], [vI v8, vR 178, vI (2 * (f_30 M (r4 + 1) c7 (v8 + c6)))], (G0, M))) hc 1 rfl ?_
      refine R_gd e (fun g6 e => ?_)
      refine Rn_iald hc rfl rfl tgc_178 zsc_178 g6 rfl ?_
      show Rn rom (d + 3) 12 (83, [some (vR 177), none, none, none, some (vR r4), some (vI v5), some (vI c6), some (vI c7), some (vI v8), some (vI (f_30 M (r4 + 1) c7 (v8 + c6)))], [vI (M 178 (wr v8).toNat), vI (2 * (f_30 M (r4 + 1) c7 (v8 + c6)))], (G0, M)) out
      refine R_ite e (fun b7 e => ?_) (fun b7 e => ?_)
      · refine Rn_icT (tgt := 89) hc rfl rfl (by decide) b7 ?_
        refine Rn_ms (σ' := (40, [some (vR 177), none, none, none, some (vR r4), some (vI v5), some (vI c6), some (vI c7), some (vI (v8 + 1)), some (vI (f_30 M (r4 + 1) c7 (v8 + c6)))], [], (G0, M))) hc 2 rfl ?_
        cases e
        exact Rn_weak (xle_s (xle_s (xle_s (xle_s (xle_s (xle_s (xle_s (xle_s (xle_s (xle_n xle_0)))))))))) hK
      · refine Rn_icF hc rfl rfl (by decide) b7 ?_
        refine Rn_ms (σ' := (40, [some (vR 177), none, none, none, some (vR r4), some (vI (v5 + 1)), some (vI c6), some (vI c7), some (vI (v8 + 1)), some (vI (f_30 M (r4 + 1) c7 (v8 + c6)))], [], (G0, M))) hc 3 rfl ?_
        cases e
        exact Rn_weak (xle_s (xle_s (xle_s (xle_s (xle_s (xle_s (xle_s (xle_s (xle_s (xle_n xle_0)))))))))) hK
def f_12_L40 (M : xM) (a1 : Nat) (r4 : Nat) (c6 : Int) (c7 : Int) (s : Int × Int) : Option (Int) := loop NF (fun s => f_12_L40b M a1 r4 c6 c7 s.1 s.2) s
theorem t_12_L40 {rom : xRom} {d : Nat} {a1 : Nat} {r4 : Nat} {c6 : Int} {c7 : Int} {M : xM} (h1 : Tg a1 = 7) (hr4 : Tg r4 = 3) {s : Int × Int} {r : Int} {out : Option xV × xH} (e : f_12_L40 M a1 r4 c6 c7 s = some r) (hK : (eI M out) r) : Rn rom (d + 3) 12 (40, [some (vR 177), none, none, none, some (vR r4), some (vI s.1), some (vI c6), some (vI c7), some (vI s.2), none], [], (G0, M)) out := by
  unfold f_12_L40 at e
  revert e hK
  exact R_loop (b := fun s => f_12_L40b M a1 r4 c6 c7 s.1 s.2) (G := fun s => Rn rom (d + 3) 12 (40, [some (vR 177), none, none, none, some (vR r4), some (vI s.1), some (vI c6), some (vI c7), some (vI s.2), none], [], (G0, M)) out) (K := eI M out) (fun s r e hK => t_12_L40b h1 hr4 e hK) NF s r
/-- PedalLayers$Ear.buriedOf -/
def f_12 (M : xM) (a1 : Nat) (a2 : Int) (a3 : Int) : Option (Int) :=
  (f_66 M a1 a2).bind (fun k1 =>
  if k1 = 0 then
    some (0)
  else
    gd (Tg k1 = 3) (
    f_12_L40 M a1 k1 (f_65 M a1) (f_134 a3 (f_29 M (k1 + 1))) (0, 0)
    )
  )
theorem t_12 {rom : xRom} {d : Nat} {M : xM} {a1 : Nat} {a2 : Int} {a3 : Int} (h1 : Tg a1 = 7) {r : Int} {out : Option xV × xH} (e : f_12 M a1 a2 a3 = some r) (hK : eI M out r) : Rn rom (d + 3) 12 (0, [some (vR 177), some (vR a1), some (vI a2), some (vI a3), none, none, none, none, none, none], [], (G0, M)) out := by
  have hc : xkall.getD 12 [] = xk_12 := rfl
  unfold f_12 at e
  refine Rn_ms (σ' := (2, [some (vR 177), some (vR a1), some (vI a2), some (vI a3), none, none, none, none, none, none], [vI a2, vR a1], (G0, M))) hc 2 rfl ?_
  refine R_bind e (fun k1 hk1 e => ?_)
  refine Rn_cv hc rfl rfl (by decide) (ii := xi_66) rfl rfl rfl (h1 : Tg _ = 7) (by decide) rfl (le := [some (vR a1), some (vI a2), none]) rfl (v := some (vR k1)) (M' := M) (t_66 h1 (d := d + 0) hk1 rfl) ?_
  refine Rn_ms (σ' := (9, [some (vR 177), some (vR a1), some (vI a2), some (vI a3), some (vR k1), none, none, none, none, none], [vR k1], (G0, M))) hc 2 rfl ?_
  refine R_ite e (fun b2 e => ?_) (fun b2 e => ?_)
  · refine Rn_nnF hc rfl rfl (by decide) b2 ?_
    refine Rn_ms (σ' := (13, [some (vR 177), some (vR a1), some (vI a2), some (vI a3), some (vR k1), none, none, none, none, none], [vI 0], (G0, M))) hc 1 rfl ?_
    cases e
    exact R_end (Rn_iret hc rfl rfl (xretI rfl rfl)) hK
  · refine Rn_nnT (tgt := 14) hc rfl rfl (by decide) b2 ?_
    refine Rn_ms (σ' := (18, [some (vR 177), some (vR a1), some (vI a2), some (vI a3), some (vR k1), some (vI 0), none, none, none, none], [vR a1], (G0, M))) hc 3 rfl ?_
    refine Rn_cv hc rfl rfl (by decide) (ii := xi_65) rfl rfl rfl (h1 : Tg _ = 7) (by decide) rfl (le := [some (vR a1)]) rfl (v := some (vI (f_65 M a1))) (M' := M) (t_65 h1 (d := d + 2) rfl rfl) ?_
    refine Rn_ms (σ' := (26, [some (vR 177), some (vR a1), some (vI a2), some (vI a3), some (vR k1), some (vI 0), some (vI (f_65 M a1)), none, none, none], [vR k1, vI a3], (G0, M))) hc 3 rfl ?_
    refine R_gd e (fun g3 e => ?_)
    refine Rn_getR hc rfl g3 (by decide) rfl (gP3_0_0 g3) ?_
    show Rn rom (d + 3) 12 (29, [some (vR 177), some (vR a1), some (vI a2), some (vI a3), some (vR k1), some (vI 0), some (vI (f_65 M a1)), none, none, none], [vR (k1 + 1), vI a3], (G0, M)) out
    refine Rn_cv hc rfl rfl (by decide) (ii := xi_29) rfl rfl rfl ((gT3_1 g3) : Tg _ = 4) (by decide) rfl (le := [some (vR (k1 + 1))]) rfl (v := some (vI (f_29 M (k1 + 1)))) (M' := M) (t_29 (gT3_1 g3) (d := d + 2) rfl rfl) ?_
    show Rn rom (d + 3) 12 (32, [some (vR 177), some (vR a1), some (vI a2), some (vI a3), some (vR k1), some (vI 0), some (vI (f_65 M a1)), none, none, none], [vI (f_29 M (k1 + 1)), vI a3], (G0, M)) out
    refine Rn_cs hc rfl rfl (by decide) (ii := xi_134) rfl rfl rfl (le := [some (vI a3), some (vI (f_29 M (k1 + 1)))]) rfl (v := some (vI (f_134 a3 (f_29 M (k1 + 1))))) (M' := M) (t_134  (d := d + 2) rfl rfl) ?_
    refine Rn_ms (σ' := (40, [some (vR 177), some (vR a1), some (vI a2), some (vI a3), some (vR k1), some (vI 0), some (vI (f_65 M a1)), some (vI (f_134 a3 (f_29 M (k1 + 1)))), some (vI 0), none], [], (G0, M))) hc 3 rfl ?_
    exact Rn_weak (xle_s (xle_n (xle_n (xle_n (xle_s (xle_s (xle_s (xle_s (xle_s (xle_s xle_0)))))))))) (t_12_L40 h1 g3 e hK)
def f_11_L102b (M : xM) (a1 : Nat) (v3 : Int) (v4 : Int) (v5 : Int) : Option ((Int × Int × Int) ⊕ (Int × xM)) :=
  if 6 ≤ wr v5 then
    some (.inr ((v4, M)))
  else
    gd (0 ≤ wr v5 ∧ wr v5 < 6) (
    if wr (M 179 (wr v5).toNat) ≤ wr v3 then
      some (.inl (v3, v4, (v5 + 1)))
    else
      gd (0 ≤ wr v5 ∧ wr v5 < 6) (
      some (.inl ((M 179 (wr v5).toNat), v5, (v5 + 1)))
      )
    )
theorem t_11_L102b {rom : xRom} {d : Nat} {a1 : Nat} {v3 : Int} {v4 : Int} {v5 : Int} {M : xM} (h1 : Tg a1 = 7) {r : (Int × Int × Int) ⊕ (Int × xM)} {out : Option xV × xH} (e : f_11_L102b M a1 v3 v4 v5 = some r) (hK : ((Sum.elim (fun s => Rn rom (d + 4) 11 (102, [some (vR 177), none, none, some (vI s.1), some (vI s.2.1), some (vI s.2.2)], [], (G0, M)) out) (eIW out))) r) : Rn rom (d + 4) 11 (102, [some (vR 177), none, none, some (vI v3), some (vI v4), some (vI v5)], [], (G0, M)) out := by
  have hc : xkall.getD 11 [] = xk_11 := rfl
  unfold f_11_L102b at e
  refine Rn_ms (σ' := (105, [some (vR 177), none, none, some (vI v3), some (vI v4), some (vI v5)], [vR 177, vI v5], (G0, M))) hc 2 rfl ?_
  refine Rn_getR hc rfl tgc_177 (by decide) rfl prc_177_1 ?_
  show Rn rom (d + 4) 11 (108, [some (vR 177), none, none, some (vI v3), some (vI v4), some (vI v5)], [vR 179, vI v5], (G0, M)) out
  refine Rn_alen hc rfl rfl tgc_179 (by decide) zsc_179 ?_
  show Rn rom (d + 4) 11 (109, [some (vR 177), none, none, some (vI v3), some (vI v4), some (vI v5)], [vI 6, vI v5], (G0, M)) out
  refine R_ite e (fun b4 e => ?_) (fun b4 e => ?_)
  · refine Rn_icT (tgt := 141) hc rfl rfl (by decide) b4 ?_
    refine Rn_ms (σ' := (143, [some (vR 177), none, none, some (vI v3), some (vI v4), some (vI v5)], [vI v4], (G0, M))) hc 1 rfl ?_
    cases e
    exact R_end (Rn_iret hc rfl rfl (xretI rfl rfl)) hK
  · refine Rn_icF hc rfl rfl (by decide) b4 ?_
    refine Rn_ms (σ' := (113, [some (vR 177), none, none, some (vI v3), some (vI v4), some (vI v5)], [vR 177], (G0, M))) hc 1 rfl ?_
    refine Rn_getR hc rfl tgc_177 (by decide) rfl prc_177_1 ?_
    refine Rn_ms (σ' := (118, [some (vR 177), none, none, some (vI v3), some (vI v4), some (vI v5)], [vI v5, vR 179], (G0, M))) hc 1 rfl ?_
    refine R_gd e (fun g5 e => ?_)
    refine Rn_iald hc rfl rfl tgc_179 zsc_179 g5 rfl ?_
    refine Rn_ms (σ' := (120, [some (vR 177), none, none, some (vI v3), some (vI v4), some (vI v5)], [vI v3, vI (M 179 (wr v5).toNat)], (G0, M))) hc 1 rfl ?_
    refine R_ite e (fun b6 e => ?_) (fun b6 e => ?_)
    · refine Rn_icT (tgt := 135) hc rfl rfl (by decide) b6 ?_
      refine Rn_ms (σ' := (102, [some (vR 177), none, none, some (vI v3), some (vI v4), some (vI (v5 + 1))], [], (G0, M))) hc 2 rfl ?_
      cases e
      exact Rn_weak (xle_s (xle_s (xle_s (xle_s (xle_s (xle_s xle_0)))))) hK
    · refine Rn_icF hc rfl rfl (by decide) b6 ?_
      refine Rn_ms (σ' := (124, [some (vR 177), none, none, some (vI v3), some (vI v4), some (vI v5)], [vR 177], (G0, M))) hc 1 rfl ?_
      refine Rn_getR hc rfl tgc_177 (by decide) rfl prc_177_1 ?_
      refine Rn_ms (σ' := (129, [some (vR 177), none, none, some (vI v3), some (vI v4), some (vI v5)], [vI v5, vR 179], (G0, M))) hc 1 rfl ?_
      refine R_gd e (fun g7 e => ?_)
      refine Rn_iald hc rfl rfl tgc_179 zsc_179 g7 rfl ?_
      refine Rn_ms (σ' := (102, [some (vR 177), none, none, some (vI (M 179 (wr v5).toNat)), some (vI v5), some (vI (v5 + 1))], [], (G0, M))) hc 5 rfl ?_
      cases e
      exact Rn_weak (xle_s (xle_s (xle_s (xle_s (xle_s (xle_s xle_0)))))) hK
def f_11_L102 (M : xM) (a1 : Nat) (s : Int × Int × Int) : Option (Int × xM) := loop NF (fun s => f_11_L102b M a1 s.1 s.2.1 s.2.2) s
theorem t_11_L102 {rom : xRom} {d : Nat} {a1 : Nat} {M : xM} (h1 : Tg a1 = 7) {s : Int × Int × Int} {r : Int × xM} {out : Option xV × xH} (e : f_11_L102 M a1 s = some r) (hK : (eIW out) r) : Rn rom (d + 4) 11 (102, [some (vR 177), none, none, some (vI s.1), some (vI s.2.1), some (vI s.2.2)], [], (G0, M)) out := by
  unfold f_11_L102 at e
  revert e hK
  exact R_loop (b := fun s => f_11_L102b M a1 s.1 s.2.1 s.2.2) (G := fun s => Rn rom (d + 4) 11 (102, [some (vR 177), none, none, some (vI s.1), some (vI s.2.1), some (vI s.2.2)], [], (G0, M)) out) (K := eIW out) (fun s r e hK => t_11_L102b h1 e hK) NF s r
def f_11_L53b (a1 : Nat) (c2 : Int) (c3 : Int) (v4 : Int) (M : xM) : Option ((Int × xM) ⊕ ((Int × xM) ⊕ (Int × xM))) :=
  if 6 ≤ wr v4 then
    some (.inr (.inl ((c3 + 1), M)))
  else
    gd (0 ≤ wr v4 ∧ wr v4 < 6) (
    (f_12 M a1 v4 c3).bind (fun k11 =>
    gd (0 ≤ wr v4 ∧ wr v4 < 6) (
    bnd (xset M 179 (wr v4).toNat ((M 179 (wr v4).toNat) + k11)) (fun M13 =>
    some (.inl ((v4 + 1), M13))
    ))))
theorem t_11_L53b {rom : xRom} {d : Nat} {a1 : Nat} {c2 : Int} {c3 : Int} {v4 : Int} {M : xM} (h1 : Tg a1 = 7) {r : (Int × xM) ⊕ ((Int × xM) ⊕ (Int × xM))} {out : Option xV × xH} (e : f_11_L53b a1 c2 c3 v4 M = some r) (hK : ((Sum.elim (fun s => Rn rom (d + 4) 11 (53, [some (vR 177), some (vR a1), some (vI c2), some (vI c3), some (vI s.1), none], [], (G0, s.2)) out) ((Sum.elim (fun s => Rn rom (d + 4) 11 (35, [some (vR 177), some (vR a1), some (vI c2), some (vI s.1), none, none], [], (G0, s.2)) out) (eIW out))))) r) : Rn rom (d + 4) 11 (53, [some (vR 177), some (vR a1), some (vI c2), some (vI c3), some (vI v4), none], [], (G0, M)) out := by
  have hc : xkall.getD 11 [] = xk_11 := rfl
  unfold f_11_L53b at e
  refine Rn_ms (σ' := (56, [some (vR 177), some (vR a1), some (vI c2), some (vI c3), some (vI v4), none], [vR 177, vI v4], (G0, M))) hc 2 rfl ?_
  refine Rn_getR hc rfl tgc_177 (by decide) rfl prc_177_1 ?_
  show Rn rom (d + 4) 11 (59, [some (vR 177), some (vR a1), some (vI c2), some (vI c3), some (vI v4), none], [vR 179, vI v4], (G0, M)) out
  refine Rn_alen hc rfl rfl tgc_179 (by decide) zsc_179 ?_
  show Rn rom (d + 4) 11 (60, [some (vR 177), some (vR a1), some (vI c2), some (vI c3), some (vI v4), none], [vI 6, vI v4], (G0, M)) out
  refine R_ite e (fun b9 e => ?_) (fun b9 e => ?_)
  · refine Rn_icT (tgt := 87) hc rfl rfl (by decide) b9 ?_
    refine Rn_ms (σ' := (35, [some (vR 177), some (vR a1), some (vI c2), some (vI (c3 + 1)), some (vI v4), none], [], (G0, M))) hc 2 rfl ?_
    cases e
    exact Rn_weak (xle_s (xle_s (xle_s (xle_s (xle_n (xle_s xle_0)))))) hK
  · refine Rn_icF hc rfl rfl (by decide) b9 ?_
    refine Rn_ms (σ' := (64, [some (vR 177), some (vR a1), some (vI c2), some (vI c3), some (vI v4), none], [vR 177], (G0, M))) hc 1 rfl ?_
    refine Rn_getR hc rfl tgc_177 (by decide) rfl prc_177_1 ?_
    refine Rn_ms (σ' := (70, [some (vR 177), some (vR a1), some (vI c2), some (vI c3), some (vI v4), none], [vI v4, vR 179, vI v4, vR 179], (G0, M))) hc 2 rfl ?_
    refine R_gd e (fun g10 e => ?_)
    refine Rn_iald hc rfl rfl tgc_179 zsc_179 g10 rfl ?_
    refine Rn_ms (σ' := (76, [some (vR 177), some (vR a1), some (vI c2), some (vI c3), some (vI v4), none], [vI c3, vI v4, vR a1, vR 177, vI (M 179 (wr v4).toNat), vI v4, vR 179], (G0, M))) hc 4 rfl ?_
    refine R_bind e (fun k11 hk11 e => ?_)
    refine Rn_cv hc rfl rfl (by decide) (ii := xi_12) rfl rfl rfl (tgc_177 : Tg _ = 0) (by decide) rfl (le := [some (vR 177), some (vR a1), some (vI v4), some (vI c3), none, none, none, none, none, none]) rfl (v := some (vI k11)) (M' := M) (t_12 h1 (d := d + 0) hk11 rfl) ?_
    refine Rn_ms (σ' := (80, [some (vR 177), some (vR a1), some (vI c2), some (vI c3), some (vI v4), none], [vI ((M 179 (wr v4).toNat) + k11), vI v4, vR 179], (G0, M))) hc 1 rfl ?_
    refine R_gd e (fun g12 e => ?_)
    refine R_bnd e (fun M13 hM13 e => ?_)
    refine Rn_iast' hM13 hc rfl rfl tgc_179 zsc_179 g12 rfl ?_
    refine Rn_ms (σ' := (53, [some (vR 177), some (vR a1), some (vI c2), some (vI c3), some (vI (v4 + 1)), none], [], (G0, M13))) hc 2 rfl ?_
    cases e
    exact Rn_weak (xle_s (xle_s (xle_s (xle_s (xle_s (xle_s xle_0)))))) hK
def f_11_L53 (a1 : Nat) (c2 : Int) (c3 : Int) (s : Int × xM) : Option ((Int × xM) ⊕ (Int × xM)) := loop NF (fun s => f_11_L53b a1 c2 c3 s.1 s.2) s
theorem t_11_L53 {rom : xRom} {d : Nat} {a1 : Nat} {c2 : Int} {c3 : Int} (h1 : Tg a1 = 7) {s : Int × xM} {r : (Int × xM) ⊕ (Int × xM)} {out : Option xV × xH} (e : f_11_L53 a1 c2 c3 s = some r) (hK : ((Sum.elim (fun s => Rn rom (d + 4) 11 (35, [some (vR 177), some (vR a1), some (vI c2), some (vI s.1), none, none], [], (G0, s.2)) out) (eIW out))) r) : Rn rom (d + 4) 11 (53, [some (vR 177), some (vR a1), some (vI c2), some (vI c3), some (vI s.1), none], [], (G0, s.2)) out := by
  unfold f_11_L53 at e
  revert e hK
  exact R_loop (b := fun s => f_11_L53b a1 c2 c3 s.1 s.2) (G := fun s => Rn rom (d + 4) 11 (53, [some (vR 177), some (vR a1), some (vI c2), some (vI c3), some (vI s.1), none], [], (G0, s.2)) out) (K := (Sum.elim (fun s => Rn rom (d + 4) 11 (35, [some (vR 177), some (vR a1), some (vI c2), some (vI s.1), none, none], [], (G0, s.2)) out) (eIW out))) (fun s r e hK => t_11_L53b h1 e hK) NF s r
def f_11_L35b (a1 : Nat) (c2 : Int) (v3 : Int) (M : xM) : Option ((Int × xM) ⊕ (Int × xM)) :=
  if wr c2 ≤ wr v3 then
    (f_11_L102 M a1 (0, (-4), 0)).bind (fun o => some (.inr (o)))
  else
    (f_1 M a1 (M a1 5) v3).bind (fun k8 =>
    f_11_L53 a1 c2 v3 (0, k8)
    )
theorem t_11_L35b {rom : xRom} {d : Nat} {a1 : Nat} {c2 : Int} {v3 : Int} {M : xM} (h1 : Tg a1 = 7) {r : (Int × xM) ⊕ (Int × xM)} {out : Option xV × xH} (e : f_11_L35b a1 c2 v3 M = some r) (hK : ((Sum.elim (fun s => Rn rom (d + 4) 11 (35, [some (vR 177), some (vR a1), some (vI c2), some (vI s.1), none, none], [], (G0, s.2)) out) (eIW out))) r) : Rn rom (d + 4) 11 (35, [some (vR 177), some (vR a1), some (vI c2), some (vI v3), none, none], [], (G0, M)) out := by
  have hc : xkall.getD 11 [] = xk_11 := rfl
  unfold f_11_L35b at e
  refine Rn_ms (σ' := (37, [some (vR 177), some (vR a1), some (vI c2), some (vI v3), none, none], [vI c2, vI v3], (G0, M))) hc 2 rfl ?_
  refine R_ite e (fun b3 e => ?_) (fun b3 e => ?_)
  · refine Rn_icT (tgt := 93) hc rfl rfl (by decide) b3 ?_
    refine Rn_ms (σ' := (102, [some (vR 177), some (vR a1), some (vI c2), some (vI 0), some (vI (-4)), some (vI 0)], [], (G0, M))) hc 6 rfl ?_
    refine R_bind e (fun o ho e => ?_)
    cases e
    exact Rn_weak (xle_s (xle_n (xle_n (xle_s (xle_s (xle_s xle_0)))))) (t_11_L102 h1 ho hK)
  · refine Rn_icF hc rfl rfl (by decide) b3 ?_
    refine Rn_ms (σ' := (43, [some (vR 177), some (vR a1), some (vI c2), some (vI v3), none, none], [vR a1, vR a1, vR 177], (G0, M))) hc 3 rfl ?_
    refine Rn_getI hc rfl h1 (by decide) (by decide) ?_
    refine Rn_ms (σ' := (47, [some (vR 177), some (vR a1), some (vI c2), some (vI v3), none, none], [vI v3, vI (M a1 5), vR a1, vR 177], (G0, M))) hc 1 rfl ?_
    refine R_bind e (fun k8 hk8 e => ?_)
    refine Rn_cv hc rfl rfl (by decide) (ii := xi_1) rfl rfl rfl (tgc_177 : Tg _ = 0) (by decide) rfl (le := [some (vR 177), some (vR a1), some (vI (M a1 5)), some (vI v3), none, none, none, none, none]) rfl (v := none) (M' := k8) (t_1 h1 (d := d + 0) hk8 rfl) ?_
    refine Rn_ms (σ' := (53, [some (vR 177), some (vR a1), some (vI c2), some (vI v3), some (vI 0), none], [], (G0, k8))) hc 2 rfl ?_
    exact Rn_weak (xle_s (xle_s (xle_s (xle_s (xle_s (xle_s xle_0)))))) (t_11_L53 h1 e hK)
def f_11_L35 (a1 : Nat) (c2 : Int) (s : Int × xM) : Option (Int × xM) := loop NF (fun s => f_11_L35b a1 c2 s.1 s.2) s
theorem t_11_L35 {rom : xRom} {d : Nat} {a1 : Nat} {c2 : Int} (h1 : Tg a1 = 7) {s : Int × xM} {r : Int × xM} {out : Option xV × xH} (e : f_11_L35 a1 c2 s = some r) (hK : (eIW out) r) : Rn rom (d + 4) 11 (35, [some (vR 177), some (vR a1), some (vI c2), some (vI s.1), none, none], [], (G0, s.2)) out := by
  unfold f_11_L35 at e
  revert e hK
  exact R_loop (b := fun s => f_11_L35b a1 c2 s.1 s.2) (G := fun s => Rn rom (d + 4) 11 (35, [some (vR 177), some (vR a1), some (vI c2), some (vI s.1), none, none], [], (G0, s.2)) out) (K := eIW out) (fun s r e hK => t_11_L35b h1 e hK) NF s r
def f_11_L2b (a1 : Nat) (v2 : Int) (M : xM) : Option ((Int × xM) ⊕ (Int × xM)) :=
  if 6 ≤ wr v2 then
    (f_62 M a1 (M a1 5)).bind (fun k2 =>
    (f_11_L35 a1 k2 (0, M)).bind (fun o => some (.inr (o)))
    )
  else
    gd (0 ≤ wr v2 ∧ wr v2 < 6) (
    bnd (xset M 179 (wr v2).toNat 0) (fun M15 =>
    some (.inl ((v2 + 1), M15))
    ))
theorem t_11_L2b {rom : xRom} {d : Nat} {a1 : Nat} {v2 : Int} {M : xM} (h1 : Tg a1 = 7) {r : (Int × xM) ⊕ (Int × xM)} {out : Option xV × xH} (e : f_11_L2b a1 v2 M = some r) (hK : ((Sum.elim (fun s => Rn rom (d + 4) 11 (2, [some (vR 177), some (vR a1), some (vI s.1), none, none, none], [], (G0, s.2)) out) (eIW out))) r) : Rn rom (d + 4) 11 (2, [some (vR 177), some (vR a1), some (vI v2), none, none, none], [], (G0, M)) out := by
  have hc : xkall.getD 11 [] = xk_11 := rfl
  unfold f_11_L2b at e
  refine Rn_ms (σ' := (4, [some (vR 177), some (vR a1), some (vI v2), none, none, none], [vR 177, vI v2], (G0, M))) hc 2 rfl ?_
  refine Rn_getR hc rfl tgc_177 (by decide) rfl prc_177_1 ?_
  show Rn rom (d + 4) 11 (7, [some (vR 177), some (vR a1), some (vI v2), none, none, none], [vR 179, vI v2], (G0, M)) out
  refine Rn_alen hc rfl rfl tgc_179 (by decide) zsc_179 ?_
  show Rn rom (d + 4) 11 (8, [some (vR 177), some (vR a1), some (vI v2), none, none, none], [vI 6, vI v2], (G0, M)) out
  refine R_ite e (fun b1 e => ?_) (fun b1 e => ?_)
  · refine Rn_icT (tgt := 24) hc rfl rfl (by decide) b1 ?_
    refine Rn_ms (σ' := (26, [some (vR 177), some (vR a1), some (vI v2), none, none, none], [vR a1, vR a1], (G0, M))) hc 2 rfl ?_
    refine Rn_getI hc rfl h1 (by decide) (by decide) ?_
    show Rn rom (d + 4) 11 (29, [some (vR 177), some (vR a1), some (vI v2), none, none, none], [vI (M a1 5), vR a1], (G0, M)) out
    refine R_bind e (fun k2 hk2 e => ?_)
    refine Rn_cv hc rfl rfl (by decide) (ii := xi_62) rfl rfl rfl (h1 : Tg _ = 7) (by decide) rfl (le := [some (vR a1), some (vI (M a1 5)), none, none, none]) rfl (v := some (vI k2)) (M' := M) (t_62 h1 (d := d + 2) hk2 rfl) ?_
    refine Rn_ms (σ' := (35, [some (vR 177), some (vR a1), some (vI k2), some (vI 0), none, none], [], (G0, M))) hc 3 rfl ?_
    refine R_bind e (fun o ho e => ?_)
    cases e
    exact Rn_weak (xle_s (xle_s (xle_s (xle_s (xle_s (xle_s xle_0)))))) (t_11_L35 h1 ho hK)
  · refine Rn_icF hc rfl rfl (by decide) b1 ?_
    refine Rn_ms (σ' := (12, [some (vR 177), some (vR a1), some (vI v2), none, none, none], [vR 177], (G0, M))) hc 1 rfl ?_
    refine Rn_getR hc rfl tgc_177 (by decide) rfl prc_177_1 ?_
    refine Rn_ms (σ' := (17, [some (vR 177), some (vR a1), some (vI v2), none, none, none], [vI 0, vI v2, vR 179], (G0, M))) hc 2 rfl ?_
    refine R_gd e (fun g14 e => ?_)
    refine R_bnd e (fun M15 hM15 e => ?_)
    refine Rn_iast' hM15 hc rfl rfl tgc_179 zsc_179 g14 rfl ?_
    refine Rn_ms (σ' := (2, [some (vR 177), some (vR a1), some (vI (v2 + 1)), none, none, none], [], (G0, M15))) hc 2 rfl ?_
    cases e
    exact Rn_weak (xle_s (xle_s (xle_s (xle_s (xle_s (xle_s xle_0)))))) hK
def f_11_L2 (a1 : Nat) (s : Int × xM) : Option (Int × xM) := loop NF (fun s => f_11_L2b a1 s.1 s.2) s
theorem t_11_L2 {rom : xRom} {d : Nat} {a1 : Nat} (h1 : Tg a1 = 7) {s : Int × xM} {r : Int × xM} {out : Option xV × xH} (e : f_11_L2 a1 s = some r) (hK : (eIW out) r) : Rn rom (d + 4) 11 (2, [some (vR 177), some (vR a1), some (vI s.1), none, none, none], [], (G0, s.2)) out := by
  unfold f_11_L2 at e
  revert e hK
  exact R_loop (b := fun s => f_11_L2b a1 s.1 s.2) (G := fun s => Rn rom (d + 4) 11 (2, [some (vR 177), some (vR a1), some (vI s.1), none, none, none], [], (G0, s.2)) out) (K := eIW out) (fun s r e hK => t_11_L2b h1 e hK) NF s r
/-- PedalLayers$Ear.mostBuriedLayer -/
def f_11 (M : xM) (a1 : Nat) : Option (Int × xM) :=
  f_11_L2 a1 (0, M)
theorem t_11 {rom : xRom} {d : Nat} {M : xM} {a1 : Nat} (h1 : Tg a1 = 7) {r : Int × xM} {out : Option xV × xH} (e : f_11 M a1 = some r) (hK : eIW out r) : Rn rom (d + 4) 11 (0, [some (vR 177), some (vR a1), none, none, none, none], [], (G0, M)) out := by
  have hc : xkall.getD 11 [] = xk_11 := rfl
  unfold f_11 at e
  refine Rn_ms (σ' := (2, [some (vR 177), some (vR a1), some (vI 0), none, none, none], [], (G0, M))) hc 2 rfl ?_
  exact Rn_weak (xle_s (xle_s (xle_s (xle_s (xle_s (xle_s xle_0)))))) (t_11_L2 h1 e hK)
/-- PedalLayers$Pad.signAt -/
def f_47 (M : xM) (a1 : Int) : Option (Int) :=
  if wr a1 < 0 then
    some (0)
  else
    if wr (M 172 1) ≤ wr a1 then
      some (0)
    else
      if 60 ≤ wr a1 then
        some (0)
      else
        gd (0 ≤ wr (M 173 (wr a1).toNat) ∧ wr (M 173 (wr a1).toNat) < 65536) (
        some (M 173 (wr a1).toNat)
        )
theorem t_47 {rom : xRom} {d : Nat} {M : xM} {a1 : Int} {r : Int} {out : Option xV × xH} (e : f_47 M a1 = some r) (hK : eI M out r) : Rn rom (d + 0) 47 (0, [some (vR 172), some (vI a1)], [], (G0, M)) out := by
  have hc : xkall.getD 47 [] = xk_47 := rfl
  unfold f_47 at e
  refine Rn_ms (σ' := (1, [some (vR 172), some (vI a1)], [vI a1], (G0, M))) hc 1 rfl ?_
  refine R_ite e (fun b1 e => ?_) (fun b1 e => ?_)
  · refine Rn_ifT (tgt := 30) hc rfl rfl (by decide) b1 ?_
    refine Rn_ms (σ' := (31, [some (vR 172), some (vI a1)], [vI 0], (G0, M))) hc 1 rfl ?_
    cases e
    exact R_end (Rn_iret hc rfl rfl (xretC rfl rfl (by decide))) hK
  · refine Rn_ifF hc rfl rfl (by decide) b1 ?_
    refine Rn_ms (σ' := (6, [some (vR 172), some (vI a1)], [vR 172, vI a1], (G0, M))) hc 2 rfl ?_
    refine Rn_getI hc rfl tgc_172 (by decide) (by decide) ?_
    show Rn rom (d + 0) 47 (9, [some (vR 172), some (vI a1)], [vI (M 172 1), vI a1], (G0, M)) out
    refine R_ite e (fun b2 e => ?_) (fun b2 e => ?_)
    · refine Rn_icT (tgt := 30) hc rfl rfl (by decide) b2 ?_
      refine Rn_ms (σ' := (31, [some (vR 172), some (vI a1)], [vI 0], (G0, M))) hc 1 rfl ?_
      cases e
      exact R_end (Rn_iret hc rfl rfl (xretC rfl rfl (by decide))) hK
    · refine Rn_icF hc rfl rfl (by decide) b2 ?_
      refine Rn_ms (σ' := (14, [some (vR 172), some (vI a1)], [vR 172, vI a1], (G0, M))) hc 2 rfl ?_
      refine Rn_getR hc rfl tgc_172 (by decide) rfl prc_172_0 ?_
      show Rn rom (d + 0) 47 (17, [some (vR 172), some (vI a1)], [vR 173, vI a1], (G0, M)) out
      refine Rn_alen hc rfl rfl tgc_173 (by decide) zsc_173 ?_
      show Rn rom (d + 0) 47 (18, [some (vR 172), some (vI a1)], [vI 60, vI a1], (G0, M)) out
      refine R_ite e (fun b3 e => ?_) (fun b3 e => ?_)
      · refine Rn_icT (tgt := 30) hc rfl rfl (by decide) b3 ?_
        refine Rn_ms (σ' := (31, [some (vR 172), some (vI a1)], [vI 0], (G0, M))) hc 1 rfl ?_
        cases e
        exact R_end (Rn_iret hc rfl rfl (xretC rfl rfl (by decide))) hK
      · refine Rn_icF hc rfl rfl (by decide) b3 ?_
        refine Rn_ms (σ' := (22, [some (vR 172), some (vI a1)], [vR 172], (G0, M))) hc 1 rfl ?_
        refine Rn_getR hc rfl tgc_172 (by decide) rfl prc_172_0 ?_
        refine Rn_ms (σ' := (26, [some (vR 172), some (vI a1)], [vI a1, vR 173], (G0, M))) hc 1 rfl ?_
        refine Rn_cald hc rfl rfl tgc_173 zsc_173 (by omega) rfl ?_
        refine Rn_ms (σ' := (31, [some (vR 172), some (vI a1)], [vI (M 173 (wr a1).toNat)], (G0, M))) hc 1 rfl ?_
        refine R_gd e (fun g4 e => ?_)
        cases e
        exact R_end (Rn_iret hc rfl rfl (xretC rfl rfl g4)) hK
/-- PedalLayers$Pad.isDigit -/
def f_53 (a0 : Int) : Int :=
  if wr a0 < 48 then
    0
  else
    if 57 < wr a0 then
      0
    else
      1
theorem t_53 {rom : xRom} {d : Nat} {M : xM} {a0 : Int} {r : Int} {out : Option xV × xH} (e : f_53 a0 = r) (hK : eI M out r) : Rn rom (d + 0) 53 (0, [some (vI a0)], [], (G0, M)) out := by
  have hc : xkall.getD 53 [] = xk_53 := rfl
  unfold f_53 at e
  refine Rn_ms (σ' := (3, [some (vI a0)], [vI 48, vI a0], (G0, M))) hc 2 rfl ?_
  refine R_ite e (fun b1 e => ?_) (fun b1 e => ?_)
  · refine Rn_icT (tgt := 16) hc rfl rfl (by decide) b1 ?_
    refine Rn_ms (σ' := (17, [some (vI a0)], [vI 0], (G0, M))) hc 1 rfl ?_
    cases e
    exact R_end (Rn_iret hc rfl rfl (xretB rfl rfl (by decide))) hK
  · refine Rn_icF hc rfl rfl (by decide) b1 ?_
    refine Rn_ms (σ' := (9, [some (vI a0)], [vI 57, vI a0], (G0, M))) hc 2 rfl ?_
    refine R_ite e (fun b2 e => ?_) (fun b2 e => ?_)
    · refine Rn_icT (tgt := 16) hc rfl rfl (by decide) b2 ?_
      refine Rn_ms (σ' := (17, [some (vI a0)], [vI 0], (G0, M))) hc 1 rfl ?_
      cases e
      exact R_end (Rn_iret hc rfl rfl (xretB rfl rfl (by decide))) hK
    · refine Rn_icF hc rfl rfl (by decide) b2 ?_
      refine Rn_ms (σ' := (17, [some (vI a0)], [vI 1], (G0, M))) hc 2 rfl ?_
      cases e
      exact R_end (Rn_iret hc rfl rfl (xretB rfl rfl (by decide))) hK
def f_49_L2b (M : xM) (v2 : Int) : Option ((Int) ⊕ (Int)) :=
  if wr (M 172 1) ≤ wr v2 then
    some (.inr (v2))
  else
    (f_47 M v2).bind (fun k2 =>
    if wr (f_53 k2) = 0 then
      some (.inr (v2))
    else
      some (.inl (v2 + 1))
    )
theorem t_49_L2b {rom : xRom} {d : Nat} {v2 : Int} {M : xM} {r : (Int) ⊕ (Int)} {out : Option xV × xH} (e : f_49_L2b M v2 = some r) (hK : ((Sum.elim (fun s => Rn rom (d + 1) 49 (2, [some (vR 172), none, some (vI s)], [], (G0, M)) out) (eI M out))) r) : Rn rom (d + 1) 49 (2, [some (vR 172), none, some (vI v2)], [], (G0, M)) out := by
  have hc : xkall.getD 49 [] = xk_49 := rfl
  unfold f_49_L2b at e
  refine Rn_ms (σ' := (4, [some (vR 172), none, some (vI v2)], [vR 172, vI v2], (G0, M))) hc 2 rfl ?_
  refine Rn_getI hc rfl tgc_172 (by decide) (by decide) ?_
  show Rn rom (d + 1) 49 (7, [some (vR 172), none, some (vI v2)], [vI (M 172 1), vI v2], (G0, M)) out
  refine R_ite e (fun b1 e => ?_) (fun b1 e => ?_)
  · refine Rn_icT (tgt := 27) hc rfl rfl (by decide) b1 ?_
    refine Rn_ms (σ' := (28, [some (vR 172), none, some (vI v2)], [vI v2], (G0, M))) hc 1 rfl ?_
    cases e
    exact R_end (Rn_iret hc rfl rfl (xretI rfl rfl)) hK
  · refine Rn_icF hc rfl rfl (by decide) b1 ?_
    refine Rn_ms (σ' := (12, [some (vR 172), none, some (vI v2)], [vI v2, vR 172], (G0, M))) hc 2 rfl ?_
    refine R_bind e (fun k2 hk2 e => ?_)
    refine Rn_cv hc rfl rfl (by decide) (ii := xi_47) rfl rfl rfl (tgc_172 : Tg _ = 6) (by decide) rfl (le := [some (vR 172), some (vI v2)]) rfl (v := some (vI k2)) (M' := M) (t_47  (d := d + 0) hk2 rfl) ?_
    show Rn rom (d + 1) 49 (15, [some (vR 172), none, some (vI v2)], [vI k2], (G0, M)) out
    refine Rn_cs hc rfl rfl (by decide) (ii := xi_53) rfl rfl rfl (le := [some (vI k2)]) rfl (v := some (vI (f_53 k2))) (M' := M) (t_53  (d := d + 0) rfl rfl) ?_
    show Rn rom (d + 1) 49 (18, [some (vR 172), none, some (vI v2)], [vI (f_53 k2)], (G0, M)) out
    refine R_ite e (fun b3 e => ?_) (fun b3 e => ?_)
    · refine Rn_ifT (tgt := 27) hc rfl rfl (by decide) b3 ?_
      refine Rn_ms (σ' := (28, [some (vR 172), none, some (vI v2)], [vI v2], (G0, M))) hc 1 rfl ?_
      cases e
      exact R_end (Rn_iret hc rfl rfl (xretI rfl rfl)) hK
    · refine Rn_ifF hc rfl rfl (by decide) b3 ?_
      refine Rn_ms (σ' := (2, [some (vR 172), none, some (vI (v2 + 1))], [], (G0, M))) hc 2 rfl ?_
      cases e
      exact Rn_weak (xle_s (xle_s (xle_s xle_0))) hK
def f_49_L2 (M : xM) (s : Int) : Option (Int) := loop NF (fun s => f_49_L2b M s) s
theorem t_49_L2 {rom : xRom} {d : Nat}  {M : xM} {s : Int} {r : Int} {out : Option xV × xH} (e : f_49_L2 M s = some r) (hK : (eI M out) r) : Rn rom (d + 1) 49 (2, [some (vR 172), none, some (vI s)], [], (G0, M)) out := by
  unfold f_49_L2 at e
  revert e hK
  exact R_loop (b := fun s => f_49_L2b M s) (G := fun s => Rn rom (d + 1) 49 (2, [some (vR 172), none, some (vI s)], [], (G0, M)) out) (K := eI M out) (fun s r e hK => t_49_L2b  e hK) NF s r
/-- PedalLayers$Pad.behindNumber -/
def f_49 (M : xM) (a1 : Int) : Option (Int) :=
  f_49_L2 M (a1)
theorem t_49 {rom : xRom} {d : Nat} {M : xM} {a1 : Int} {r : Int} {out : Option xV × xH} (e : f_49 M a1 = some r) (hK : eI M out r) : Rn rom (d + 1) 49 (0, [some (vR 172), some (vI a1), none], [], (G0, M)) out := by
  have hc : xkall.getD 49 [] = xk_49 := rfl
  unfold f_49 at e
  refine Rn_ms (σ' := (2, [some (vR 172), some (vI a1), some (vI a1)], [], (G0, M))) hc 2 rfl ?_
  exact Rn_weak (xle_s (xle_n (xle_s xle_0))) (t_49_L2  e hK)
def f_50_L11b (M : xM) (c3 : Int) (v2 : Int) (v4 : Int) : Option ((Int × Int) ⊕ (Int)) :=
  if wr c3 ≤ wr v4 then
    some (.inr (v2))
  else
    (f_47 M v4).bind (fun k3 =>
    some (.inl ((((10 * v2) + k3) - 48), (v4 + 1)))
    )
theorem t_50_L11b {rom : xRom} {d : Nat} {c3 : Int} {v2 : Int} {v4 : Int} {M : xM} {r : (Int × Int) ⊕ (Int)} {out : Option xV × xH} (e : f_50_L11b M c3 v2 v4 = some r) (hK : ((Sum.elim (fun s => Rn rom (d + 2) 50 (11, [some (vR 172), none, some (vI s.1), some (vI c3), some (vI s.2)], [], (G0, M)) out) (eI M out))) r) : Rn rom (d + 2) 50 (11, [some (vR 172), none, some (vI v2), some (vI c3), some (vI v4)], [], (G0, M)) out := by
  have hc : xkall.getD 50 [] = xk_50 := rfl
  unfold f_50_L11b at e
  refine Rn_ms (σ' := (14, [some (vR 172), none, some (vI v2), some (vI c3), some (vI v4)], [vI c3, vI v4], (G0, M))) hc 2 rfl ?_
  refine R_ite e (fun b2 e => ?_) (fun b2 e => ?_)
  · refine Rn_icT (tgt := 38) hc rfl rfl (by decide) b2 ?_
    refine Rn_ms (σ' := (39, [some (vR 172), none, some (vI v2), some (vI c3), some (vI v4)], [vI v2], (G0, M))) hc 1 rfl ?_
    cases e
    exact R_end (Rn_iret hc rfl rfl (xretI rfl rfl)) hK
  · refine Rn_icF hc rfl rfl (by decide) b2 ?_
    refine Rn_ms (σ' := (24, [some (vR 172), none, some (vI v2), some (vI c3), some (vI v4)], [vI v4, vR 172, vI (10 * v2)], (G0, M))) hc 5 rfl ?_
    refine R_bind e (fun k3 hk3 e => ?_)
    refine Rn_cv hc rfl rfl (by decide) (ii := xi_47) rfl rfl rfl (tgc_172 : Tg _ = 6) (by decide) rfl (le := [some (vR 172), some (vI v4)]) rfl (v := some (vI k3)) (M' := M) (t_47  (d := d + 1) hk3 rfl) ?_
    refine Rn_ms (σ' := (11, [some (vR 172), none, some (vI (((10 * v2) + k3) - 48)), some (vI c3), some (vI (v4 + 1))], [], (G0, M))) hc 6 rfl ?_
    cases e
    exact Rn_weak (xle_s (xle_s (xle_s (xle_s (xle_s xle_0))))) hK
def f_50_L11 (M : xM) (c3 : Int) (s : Int × Int) : Option (Int) := loop NF (fun s => f_50_L11b M c3 s.1 s.2) s
theorem t_50_L11 {rom : xRom} {d : Nat} {c3 : Int} {M : xM} {s : Int × Int} {r : Int} {out : Option xV × xH} (e : f_50_L11 M c3 s = some r) (hK : (eI M out) r) : Rn rom (d + 2) 50 (11, [some (vR 172), none, some (vI s.1), some (vI c3), some (vI s.2)], [], (G0, M)) out := by
  unfold f_50_L11 at e
  revert e hK
  exact R_loop (b := fun s => f_50_L11b M c3 s.1 s.2) (G := fun s => Rn rom (d + 2) 50 (11, [some (vR 172), none, some (vI s.1), some (vI c3), some (vI s.2)], [], (G0, M)) out) (K := eI M out) (fun s r e hK => t_50_L11b  e hK) NF s r
/-- PedalLayers$Pad.numberAt -/
def f_50 (M : xM) (a1 : Int) : Option (Int) :=
  (f_49 M a1).bind (fun k1 =>
  f_50_L11 M k1 (0, a1)
  )
theorem t_50 {rom : xRom} {d : Nat} {M : xM} {a1 : Int} {r : Int} {out : Option xV × xH} (e : f_50 M a1 = some r) (hK : eI M out r) : Rn rom (d + 2) 50 (0, [some (vR 172), some (vI a1), none, none, none], [], (G0, M)) out := by
  have hc : xkall.getD 50 [] = xk_50 := rfl
  unfold f_50 at e
  refine Rn_ms (σ' := (4, [some (vR 172), some (vI a1), some (vI 0), none, none], [vI a1, vR 172], (G0, M))) hc 4 rfl ?_
  refine R_bind e (fun k1 hk1 e => ?_)
  refine Rn_cv hc rfl rfl (by decide) (ii := xi_49) rfl rfl rfl (tgc_172 : Tg _ = 6) (by decide) rfl (le := [some (vR 172), some (vI a1), none]) rfl (v := some (vI k1)) (M' := M) (t_49  (d := d + 0) hk1 rfl) ?_
  refine Rn_ms (σ' := (11, [some (vR 172), some (vI a1), some (vI 0), some (vI k1), some (vI a1)], [], (G0, M))) hc 3 rfl ?_
  exact Rn_weak (xle_s (xle_n (xle_s (xle_s (xle_s xle_0))))) (t_50_L11  e hK)
