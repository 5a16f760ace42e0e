/-! functions for methods, by program (wip/whole/gen/dec.py) -/
/-- PedalLayers$Pedal.lowestHeardKey -/
def f_65 (M : xM) (a0 : Nat) : Int :=
  if wr (M a0 3) = 0 then
    0
  else
    12
theorem t_65 {rom : xRom} {d : Nat} {M : xM} {a0 : Nat} (h0 : Tg a0 = 7) {r : Int} {out : Option xV × xH} (e : f_65 M a0 = r) (hK : eI M out r) : Rn rom (d + 0) 45 (0, [some (vR a0)], [], (G0, M)) out := by
  have hc : xkall.getD 45 [] = xk_45 := rfl
  unfold f_65 at e
  refine Rn_ms (σ' := (1, [some (vR a0)], [vR a0], (G0, M))) hc 1 rfl ?_
  refine Rn_getI hc rfl h0 (by decide) (by decide) ?_
  show Rn rom (d + 0) 45 (4, [some (vR a0)], [vI (M a0 3)], (G0, M)) out
  refine R_ite e (fun b1 e => ?_) (fun b1 e => ?_)
  · refine Rn_ifT (tgt := 12) hc rfl rfl (by decide) b1 ?_
    refine Rn_ms (σ' := (13, [some (vR a0)], [vI 0], (G0, M))) hc 1 rfl ?_
    cases e
    exact R_end (Rn_iret hc rfl rfl (xretI rfl rfl)) hK
  · refine Rn_ifF hc rfl rfl (by decide) b1 ?_
    refine Rn_ms (σ' := (13, [some (vR a0)], [vI 12], (G0, M))) hc 2 rfl ?_
    cases e
    exact R_end (Rn_iret hc rfl rfl (xretI rfl rfl)) hK
/-- PedalLayers$Pedal.layerAt -/
def f_57 (a0 : Nat) (a1 : Int) : Nat :=
  if wr a1 < 0 then
    0
  else
    if 6 ≤ wr a1 then
      0
    else
      (a0 + 6 + 3 * ((wr a1).toNat))
theorem t_57 {rom : xRom} {d : Nat} {M : xM} {a0 : Nat} {a1 : Int} (h0 : Tg a0 = 7) {r : Nat} {out : Option xV × xH} (e : f_57 a0 a1 = r) (hK : eR M out r) : Rn rom (d + 0) 37 (0, [some (vR a0), some (vI a1)], [], (G0, M)) out := by
  have hc : xkall.getD 37 [] = xk_37 := rfl
  unfold f_57 at e
  refine Rn_ms (σ' := (1, [some (vR a0), some (vI a1)], [vI a1], (G0, M))) hc 1 rfl ?_
  refine R_ite e (fun b1 e => ?_) (fun b1 e => ?_)
  · refine Rn_ifT (tgt := 22) hc rfl rfl (by decide) b1 ?_
    refine Rn_ms (σ' := (23, [some (vR a0), some (vI a1)], [vR 0], (G0, M))) hc 1 rfl ?_
    cases e
    exact R_end (Rn_aret hc rfl rfl rfl rfl) hK
  · refine Rn_ifF hc rfl rfl (by decide) b1 ?_
    refine Rn_ms (σ' := (6, [some (vR a0), some (vI a1)], [vR a0, vI a1], (G0, M))) hc 2 rfl ?_
    refine Rn_getR hc rfl h0 (by decide) rfl (gP7_0_1 h0) ?_
    show Rn rom (d + 0) 37 (9, [some (vR a0), some (vI a1)], [vR (a0 + 2), vI a1], (G0, M)) out
    refine Rn_alen hc rfl rfl (gT7_2 h0) (by decide) (gZ7_2 h0) ?_
    show Rn rom (d + 0) 37 (10, [some (vR a0), some (vI a1)], [vI 6, vI a1], (G0, M)) out
    refine R_ite e (fun b2 e => ?_) (fun b2 e => ?_)
    · refine Rn_icT (tgt := 22) hc rfl rfl (by decide) b2 ?_
      refine Rn_ms (σ' := (23, [some (vR a0), some (vI a1)], [vR 0], (G0, M))) hc 1 rfl ?_
      cases e
      exact R_end (Rn_aret hc rfl rfl rfl rfl) hK
    · refine Rn_icF hc rfl rfl (by decide) b2 ?_
      refine Rn_ms (σ' := (14, [some (vR a0), some (vI a1)], [vR a0], (G0, M))) hc 1 rfl ?_
      refine Rn_getR hc rfl h0 (by decide) rfl (gP7_0_1 h0) ?_
      refine Rn_ms (σ' := (18, [some (vR a0), some (vI a1)], [vI a1, vR (a0 + 2)], (G0, M))) hc 1 rfl ?_
      refine Rn_aald' (gE7 h0 _ (by omega)) hc rfl rfl (Or.inr (gT7_2 h0)) (gZ7_2 h0) (by omega) rfl ?_
      refine Rn_ms (σ' := (23, [some (vR a0), some (vI a1)], [vR (a0 + 6 + 3 * ((wr a1).toNat))], (G0, M))) hc 1 rfl ?_
      cases e
      exact R_end (Rn_aret hc rfl rfl rfl rfl) hK
/-- PedalLayers$Pedal.layerOnLoop -/
def f_58 (M : xM) (a0 : Nat) (a1 : Int) : Nat :=
  if wr (M a0 5) ≤ wr a1 then
    0
  else
    (f_57 a0 a1)
theorem t_58 {rom : xRom} {d : Nat} {M : xM} {a0 : Nat} {a1 : Int} (h0 : Tg a0 = 7) {r : Nat} {out : Option xV × xH} (e : f_58 M a0 a1 = r) (hK : eR M out r) : Rn rom (d + 1) 38 (0, [some (vR a0), some (vI a1)], [], (G0, M)) out := by
  have hc : xkall.getD 38 [] = xk_38 := rfl
  unfold f_58 at e
  refine Rn_ms (σ' := (2, [some (vR a0), some (vI a1)], [vR a0, vI a1], (G0, M))) hc 2 rfl ?_
  refine Rn_getI hc rfl h0 (by decide) (by decide) ?_
  show Rn rom (d + 1) 38 (5, [some (vR a0), some (vI a1)], [vI (M a0 5), vI a1], (G0, M)) out
  refine R_ite e (fun b1 e => ?_) (fun b1 e => ?_)
  · refine Rn_icT (tgt := 16) hc rfl rfl (by decide) b1 ?_
    refine Rn_ms (σ' := (17, [some (vR a0), some (vI a1)], [vR 0], (G0, M))) hc 1 rfl ?_
    cases e
    exact R_end (Rn_aret hc rfl rfl rfl rfl) hK
  · refine Rn_icF hc rfl rfl (by decide) b1 ?_
    refine Rn_ms (σ' := (10, [some (vR a0), some (vI a1)], [vI a1, vR a0], (G0, M))) hc 2 rfl ?_
    refine Rn_cv hc rfl rfl (by decide) (ii := xi_37) rfl rfl rfl (h0 : Tg _ = 7) (by decide) rfl (le := [some (vR a0), some (vI a1)]) rfl (v := some (vR (f_57 a0 a1))) (M' := M) (t_57 h0 (d := d + 0) rfl rfl) ?_
    refine Rn_ms (σ' := (17, [some (vR a0), some (vI a1)], [vR (f_57 a0 a1)], (G0, M))) hc 1 rfl ?_
    cases e
    exact R_end (Rn_aret hc rfl rfl rfl rfl) hK
/-- PedalLayers$Pedal.soundingLayer -/
def f_66 (M : xM) (a0 : Nat) (a1 : Int) : Option (Nat) :=
  if (f_58 M a0 a1) = 0 then
    some (0)
  else
    gd (Tg (f_58 M a0 a1) = 3) (
    if wr (M (f_58 M a0 a1) 1) = 0 then
      some (f_58 M a0 a1)
    else
      some (0)
    )
theorem t_66 {rom : xRom} {d : Nat} {M : xM} {a0 : Nat} {a1 : Int} (h0 : Tg a0 = 7) {r : Nat} {out : Option xV × xH} (e : f_66 M a0 a1 = some r) (hK : eR M out r) : Rn rom (d + 2) 46 (0, [some (vR a0), some (vI a1), none], [], (G0, M)) out := by
  have hc : xkall.getD 46 [] = xk_46 := rfl
  unfold f_66 at e
  refine Rn_ms (σ' := (2, [some (vR a0), some (vI a1), none], [vI a1, vR a0], (G0, M))) hc 2 rfl ?_
  refine Rn_cv hc rfl rfl (by decide) (ii := xi_38) rfl rfl rfl (h0 : Tg _ = 7) (by decide) rfl (le := [some (vR a0), some (vI a1)]) rfl (v := some (vR (f_58 M a0 a1))) (M' := M) (t_58 h0 (d := d + 0) rfl rfl) ?_
  refine Rn_ms (σ' := (7, [some (vR a0), some (vI a1), some (vR (f_58 M a0 a1))], [vR (f_58 M a0 a1)], (G0, M))) hc 2 rfl ?_
  refine R_ite e (fun b1 e => ?_) (fun b1 e => ?_)
  · refine Rn_nuT (tgt := 17) hc rfl rfl (by decide) b1 ?_
    refine Rn_ms (σ' := (22, [some (vR a0), some (vI a1), some (vR (f_58 M a0 a1))], [vR 0], (G0, M))) hc 2 rfl ?_
    cases e
    exact R_end (Rn_aret hc rfl rfl rfl rfl) hK
  · refine Rn_nuF hc rfl rfl (by decide) b1 ?_
    refine Rn_ms (σ' := (11, [some (vR a0), some (vI a1), some (vR (f_58 M a0 a1))], [vR (f_58 M a0 a1)], (G0, M))) hc 1 rfl ?_
    refine R_gd e (fun g2 e => ?_)
    refine Rn_getI hc rfl g2 (by decide) (by decide) ?_
    show Rn rom (d + 2) 46 (14, [some (vR a0), some (vI a1), some (vR (f_58 M a0 a1))], [vI (M (f_58 M a0 a1) 1)], (G0, M)) out
    refine R_ite e (fun b3 e => ?_) (fun b3 e => ?_)
    · refine Rn_ifT (tgt := 21) hc rfl rfl (by decide) b3 ?_
      refine Rn_ms (σ' := (22, [some (vR a0), some (vI a1), some (vR (f_58 M a0 a1))], [vR (f_58 M a0 a1)], (G0, M))) hc 1 rfl ?_
      cases e
      exact R_end (Rn_aret hc rfl rfl rfl rfl) hK
    · refine Rn_ifF hc rfl rfl (by decide) b3 ?_
      refine Rn_ms (σ' := (22, [some (vR a0), some (vI a1), some (vR (f_58 M a0 a1))], [vR 0], (G0, M))) hc 2 rfl ?_
      cases e
      exact R_end (Rn_aret hc rfl rfl rfl rfl) hK
/-- PedalLayers$Notes.cells -/
def f_29 (M : xM) (a0 : Nat) : Int :=
  (M a0 1)
theorem t_29 {rom : xRom} {d : Nat} {M : xM} {a0 : Nat} (h0 : Tg a0 = 4) {r : Int} {out : Option xV × xH} (e : f_29 M a0 = r) (hK : eI M out r) : Rn rom (d + 0) 21 (0, [some (vR a0)], [], (G0, M)) out := by
  have hc : xkall.getD 21 [] = xk_21 := rfl
  unfold f_29 at e
  refine Rn_ms (σ' := (1, [some (vR a0)], [vR a0], (G0, M))) hc 1 rfl ?_
  refine Rn_getI hc rfl h0 (by decide) (by decide) ?_
  show Rn rom (d + 0) 21 (4, [some (vR a0)], [vI (M a0 1)], (G0, M)) out
  cases e
  exact R_end (Rn_iret hc rfl rfl (xretI rfl rfl)) hK
/-- PedalLayers.rest -/
def f_134 (a0 : Int) (a1 : Int) : Int :=
  if wr a1 ≤ 0 then
    0
  else
    ((wr a0).tmod (wr a1))
theorem t_134 {rom : xRom} {d : Nat} {M : xM} {a0 : Int} {a1 : Int} {r : Int} {out : Option xV × xH} (e : f_134 a0 a1 = r) (hK : eI M out r) : Rn rom (d + 0) 103 (0, [some (vI a0), some (vI a1)], [], (G0, M)) out := by
  have hc : xkall.getD 103 [] = xk_103 := rfl
  unfold f_134 at e
  refine Rn_ms (σ' := (1, [some (vI a0), some (vI a1)], [vI a1], (G0, M))) hc 1 rfl ?_
  refine R_ite e (fun b1 e => ?_) (fun b1 e => ?_)
  · refine Rn_ifT (tgt := 10) hc rfl rfl (by decide) b1 ?_
    refine Rn_ms (σ' := (11, [some (vI a0), some (vI a1)], [vI 0], (G0, M))) hc 1 rfl ?_
    cases e
    exact R_end (Rn_iret hc rfl rfl (xretI rfl rfl)) hK
  · refine Rn_ifF hc rfl rfl (by decide) b1 ?_
    refine Rn_ms (σ' := (6, [some (vI a0), some (vI a1)], [vI a1, vI a0], (G0, M))) hc 2 rfl ?_
    refine Rn_rem hc rfl ⟨rfl, rfl⟩ (z' := (wr a1)) rfl (by omega) ?_
    refine Rn_ms (σ' := (11, [some (vI a0), some (vI a1)], [vI ((wr a0).tmod (wr a1))], (G0, M))) hc 1 rfl ?_
    cases e
    exact R_end (Rn_iret hc rfl rfl (xretI rfl rfl)) hK
/-- PedalLayers.isKey -/
def f_132 (a0 : Int) : Int :=
  if wr a0 < 0 then
    0
  else
    if 36 ≤ wr a0 then
      0
    else
      1
theorem t_132 {rom : xRom} {d : Nat} {M : xM} {a0 : Int} {r : Int} {out : Option xV × xH} (e : f_132 a0 = r) (hK : eI M out r) : Rn rom (d + 0) 101 (0, [some (vI a0)], [], (G0, M)) out := by
  have hc : xkall.getD 101 [] = xk_101 := rfl
  unfold f_132 at e
  refine Rn_ms (σ' := (1, [some (vI a0)], [vI a0], (G0, M))) hc 1 rfl ?_
  refine R_ite e (fun b1 e => ?_) (fun b1 e => ?_)
  · refine Rn_ifT (tgt := 14) hc rfl rfl (by decide) b1 ?_
    refine Rn_ms (σ' := (15, [some (vI a0)], [vI 0], (G0, M))) hc 1 rfl ?_
    cases e
    exact R_end (Rn_iret hc rfl rfl (xretB rfl rfl (by decide))) hK
  · refine Rn_ifF hc rfl rfl (by decide) b1 ?_
    refine Rn_ms (σ' := (7, [some (vI a0)], [vI 36, vI a0], (G0, M))) hc 2 rfl ?_
    refine R_ite e (fun b2 e => ?_) (fun b2 e => ?_)
    · refine Rn_icT (tgt := 14) hc rfl rfl (by decide) b2 ?_
      refine Rn_ms (σ' := (15, [some (vI a0)], [vI 0], (G0, M))) hc 1 rfl ?_
      cases e
      exact R_end (Rn_iret hc rfl rfl (xretB rfl rfl (by decide))) hK
    · refine Rn_icF hc rfl rfl (by decide) b2 ?_
      refine Rn_ms (σ' := (15, [some (vI a0)], [vI 1], (G0, M))) hc 2 rfl ?_
      cases e
      exact R_end (Rn_iret hc rfl rfl (xretB rfl rfl (by decide))) hK
/-- PedalLayers$Notes.at -/
def f_30 (M : xM) (a0 : Nat) (a1 : Int) (a2 : Int) : Int :=
  if wr (f_132 a2) = 0 then
    0
  else
    if wr ((a1 * 36) + a2) < 0 then
      0
    else
      if 1728 ≤ wr ((a1 * 36) + a2) then
        0
      else
        (M (a0 + 1) (wr ((a1 * 36) + a2)).toNat)
theorem t_30 {rom : xRom} {d : Nat} {M : xM} {a0 : Nat} {a1 : Int} {a2 : Int} (h0 : Tg a0 = 4) {r : Int} {out : Option xV × xH} (e : f_30 M a0 a1 a2 = r) (hK : eI M out r) : Rn rom (d + 1) 22 (0, [some (vR a0), some (vI a1), some (vI a2), none], [], (G0, M)) out := by
  have hc : xkall.getD 22 [] = xk_22 := rfl
  unfold f_30 at e
  refine Rn_ms (σ' := (8, [some (vR a0), some (vI a1), some (vI a2), some (vI ((a1 * 36) + a2))], [vI a2], (G0, M))) hc 7 rfl ?_
  refine Rn_cs hc rfl rfl (by decide) (ii := xi_101) rfl rfl rfl (le := [some (vI a2)]) rfl (v := some (vI (f_132 a2))) (M' := M) (t_132  (d := d + 0) rfl rfl) ?_
  show Rn rom (d + 1) 22 (11, [some (vR a0), some (vI a1), some (vI a2), some (vI ((a1 * 36) + a2))], [vI (f_132 a2)], (G0, M)) out
  refine R_ite e (fun b1 e => ?_) (fun b1 e => ?_)
  · refine Rn_ifT (tgt := 36) hc rfl rfl (by decide) b1 ?_
    refine Rn_ms (σ' := (37, [some (vR a0), some (vI a1), some (vI a2), some (vI ((a1 * 36) + a2))], [vI 0], (G0, M))) hc 1 rfl ?_
    cases e
    exact R_end (Rn_iret hc rfl rfl (xretI rfl rfl)) hK
  · refine Rn_ifF hc rfl rfl (by decide) b1 ?_
    refine Rn_ms (σ' := (15, [some (vR a0), some (vI a1), some (vI a2), some (vI ((a1 * 36) + a2))], [vI ((a1 * 36) + a2)], (G0, M))) hc 1 rfl ?_
    refine R_ite e (fun b2 e => ?_) (fun b2 e => ?_)
    · refine Rn_ifT (tgt := 36) hc rfl rfl (by decide) b2 ?_
      refine Rn_ms (σ' := (37, [some (vR a0), some (vI a1), some (vI a2), some (vI ((a1 * 36) + a2))], [vI 0], (G0, M))) hc 1 rfl ?_
      cases e
      exact R_end (Rn_iret hc rfl rfl (xretI rfl rfl)) hK
    · refine Rn_ifF hc rfl rfl (by decide) b2 ?_
      refine Rn_ms (σ' := (20, [some (vR a0), some (vI a1), some (vI a2), some (vI ((a1 * 36) + a2))], [vR a0, vI ((a1 * 36) + a2)], (G0, M))) hc 2 rfl ?_
      refine Rn_getR hc rfl h0 (by decide) rfl (gP4_0_0 h0) ?_
      show Rn rom (d + 1) 22 (23, [some (vR a0), some (vI a1), some (vI a2), some (vI ((a1 * 36) + a2))], [vR (a0 + 1), vI ((a1 * 36) + a2)], (G0, M)) out
      refine Rn_alen hc rfl rfl (gT4_1 h0) (by decide) (gZ4_1 h0) ?_
      show Rn rom (d + 1) 22 (24, [some (vR a0), some (vI a1), some (vI a2), some (vI ((a1 * 36) + a2))], [vI 1728, vI ((a1 * 36) + a2)], (G0, M)) out
      refine R_ite e (fun b3 e => ?_) (fun b3 e => ?_)
      · refine Rn_icT (tgt := 36) hc rfl rfl (by decide) b3 ?_
        refine Rn_ms (σ' := (37, [some (vR a0), some (vI a1), some (vI a2), some (vI ((a1 * 36) + a2))], [vI 0], (G0, M))) hc 1 rfl ?_
        cases e
        exact R_end (Rn_iret hc rfl rfl (xretI rfl rfl)) hK
      · refine Rn_icF hc rfl rfl (by decide) b3 ?_
        refine Rn_ms (σ' := (28, [some (vR a0), some (vI a1), some (vI a2), some (vI ((a1 * 36) + a2))], [vR a0], (G0, M))) hc 1 rfl ?_
        refine Rn_getR hc rfl h0 (by decide) rfl (gP4_0_0 h0) ?_
        refine Rn_ms (σ' := (32, [some (vR a0), some (vI a1), some (vI a2), some (vI ((a1 * 36) + a2))], [vI ((a1 * 36) + a2), vR (a0 + 1)], (G0, M))) hc 1 rfl ?_
        refine Rn_iald hc rfl rfl (gT4_1 h0) (gZ4_1 h0) (by omega) rfl ?_
        refine Rn_ms (σ' := (37, [some (vR a0), some (vI a1), some (vI a2), some (vI ((a1 * 36) + a2))], [vI (M (a0 + 1) (wr ((a1 * 36) + a2)).toNat)], (G0, M))) hc 1 rfl ?_
        cases e
        exact R_end (Rn_iret hc rfl rfl (xretI rfl rfl)) hK
def f_1_L75b (a1 : Nat) (c2 : Int) (c3 : Int) (c4 : Int) (c5 : Int) (r6 : Nat) (c7 : Int) (v8 : Int) (M : xM) : Option ((Int × xM) ⊕ ((Int × xM) ⊕ (xM))) :=
  if 36 ≤ wr v8 then
    some (.inr (.inl ((c5 + 1), M)))
  else
    gd (0 ≤ wr v8 ∧ wr v8 < 36) (
    gd (0 ≤ wr v8 ∧ wr v8 < 36) (
    bnd (xset M 178 (wr v8).toNat ((M 178 (wr v8).toNat) + (f_30 M (r6 + 1) c7 (v8 + c4)))) (fun M9 =>
    some (.inl ((v8 + 1), M9))
    )))
theorem t_1_L75b {rom : xRom} {d : Nat} {a1 : Nat} {c2 : Int} {c3 : Int} {c4 : Int} {c5 : Int} {r6 : Nat} {c7 : Int} {v8 : Int} {M : xM} (h1 : Tg a1 = 7) (hr6 : Tg r6 = 3) {r : (Int × xM) ⊕ ((Int × xM) ⊕ (xM))} {out : Option xV × xH} (e : f_1_L75b a1 c2 c3 c4 c5 r6 c7 v8 M = some r) (hK : ((Sum.elim (fun s => Rn rom (d + 3) 1 (75, [some (vR 177), some (vR a1), some (vI c2), some (vI c3), some (vI c4), some (vI c5), some (vR r6), some (vI c7), some (vI s.1)], [], (G0, s.2)) out) ((Sum.elim (fun s => Rn rom (d + 3) 1 (36, [some (vR 177), some (vR a1), some (vI c2), some (vI c3), some (vI c4), some (vI s.1), none, none, none], [], (G0, s.2)) out) (eVW out))))) r) : Rn rom (d + 3) 1 (75, [some (vR 177), some (vR a1), some (vI c2), some (vI c3), some (vI c4), some (vI c5), some (vR r6), some (vI c7), some (vI v8)], [], (G0, M)) out := by
  have hc : xkall.getD 1 [] = xk_1 := rfl
  unfold f_1_L75b at e
  refine Rn_ms (σ' := (78, [some (vR 177), some (vR a1), some (vI c2), some (vI c3), some (vI c4), some (vI c5), some (vR r6), some (vI c7), some (vI v8)], [vR 177, vI v8], (G0, M))) hc 2 rfl ?_
  refine Rn_getR hc rfl tgc_177 (by decide) rfl prc_177_0 ?_
  show Rn rom (d + 3) 1 (81, [some (vR 177), some (vR a1), some (vI c2), some (vI c3), some (vI c4), some (vI c5), some (vR r6), some (vI c7), some (vI v8)], [vR 178, vI v8], (G0, M)) out
  refine Rn_alen hc rfl rfl tgc_178 (by decide) zsc_178 ?_
  show Rn rom (d + 3) 1 (82, [some (vR 177), some (vR a1), some (vI c2), some (vI c3), some (vI c4), some (vI c5), some (vR r6), some (vI c7), some (vI v8)], [vI 36, vI v8], (G0, M)) out
  refine R_ite e (fun b6 e => ?_) (fun b6 e => ?_)
  · refine Rn_icT (tgt := 116) hc rfl rfl (by decide) b6 ?_
    refine Rn_ms (σ' := (36, [some (vR 177), some (vR a1), some (vI c2), some (vI c3), some (vI c4), some (vI (c5 + 1)), some (vR r6), some (vI c7), some (vI v8)], [], (G0, M))) hc 2 rfl ?_
    cases e
    exact Rn_weak (xle_s (xle_s (xle_s (xle_s (xle_s (xle_s (xle_n (xle_n (xle_n xle_0))))))))) hK
  · refine Rn_icF hc rfl rfl (by decide) b6 ?_
    refine Rn_ms (σ' := (86, [some (vR 177), some (vR a1), some (vI c2), some (vI c3), some (vI c4), some (vI c5), some (vR r6), some (vI c7), some (vI v8)], [vR 177], (G0, M))) hc 1 rfl ?_
    refine Rn_getR hc rfl tgc_177 (by decide) rfl prc_177_0 ?_
    refine Rn_ms (σ' := (92, [some (vR 177), some (vR a1), some (vI c2), some (vI c3), some (vI c4), some (vI c5), some (vR r6), some (vI c7), some (vI v8)], [vI v8, vR 178, vI v8, vR 178], (G0, M))) hc 2 rfl ?_
    refine R_gd e (fun g7 e => ?_)
    refine Rn_iald hc rfl rfl tgc_178 zsc_178 g7 rfl ?_
    refine Rn_ms (σ' := (95, [some (vR 177), some (vR a1), some (vI c2), some (vI c3), some (vI c4), some (vI c5), some (vR r6), some (vI c7), some (vI v8)], [vR r6, vI (M 178 (wr v8).toNat), vI v8, vR 178], (G0, M))) hc 1 rfl ?_
    refine Rn_getR hc rfl hr6 (by decide) rfl (gP3_0_0 hr6) ?_
    refine Rn_ms (σ' := (105, [some (vR 177), some (vR a1), some (vI c2), some (vI c3), some (vI c4), some (vI c5), some (vR r6), some (vI c7), some (vI v8)], [vI (v8 + c4), vI c7, vR (r6 + 1), vI (M 178 (wr v8).toNat), vI v8, vR 178], (G0, M))) hc 4 rfl ?_
    refine Rn_cv hc rfl rfl (by decide) (ii := xi_22) rfl rfl rfl ((gT3_1 hr6) : Tg _ = 4) (by decide) rfl (le := [some (vR (r6 + 1)), some (vI c7), some (vI (v8 + c4)), none]) rfl (v := some (vI (f_30 M (r6 + 1) c7 (v8 + c4)))) (M' := M) (t_30 (gT3_1 hr6) (d := d + 1) rfl rfl) ?_
    refine Rn_ms (σ' := (109, [some (vR 177), some (vR a1), some (vI c2), some (vI c3), some (vI c4), some (vI c5), some (vR r6), some (vI c7), some (vI v8)], [vI ((M 178 (wr v8).toNat) + (f_30 M (r6 + 1) c7 (v8 + c4))), vI v8, vR 178], (G0, M))) hc 1 rfl ?_
    refine R_gd e (fun g8 e => ?_)
    refine R_bnd e (fun M9 hM9 e => ?_)
    refine Rn_iast' hM9 hc rfl rfl tgc_178 zsc_178 g8 rfl ?_
    refine Rn_ms (σ' := (75, [some (vR 177), some (vR a1), some (vI c2), some (vI c3), some (vI c4), some (vI c5), some (vR r6), some (vI c7), some (vI (v8 + 1))], [], (G0, M9))) hc 2 rfl ?_
    cases e
    exact Rn_weak (xle_s (xle_s (xle_s (xle_s (xle_s (xle_s (xle_s (xle_s (xle_s xle_0))))))))) hK
def f_1_L75 (a1 : Nat) (c2 : Int) (c3 : Int) (c4 : Int) (c5 : Int) (r6 : Nat) (c7 : Int) (s : Int × xM) : Option ((Int × xM) ⊕ (xM)) := loop NF (fun s => f_1_L75b a1 c2 c3 c4 c5 r6 c7 s.1 s.2) s
theorem t_1_L75 {rom : xRom} {d : Nat} {a1 : Nat} {c2 : Int} {c3 : Int} {c4 : Int} {c5 : Int} {r6 : Nat} {c7 : Int} (h1 : Tg a1 = 7) (hr6 : Tg r6 = 3) {s : Int × xM} {r : (Int × xM) ⊕ (xM)} {out : Option xV × xH} (e : f_1_L75 a1 c2 c3 c4 c5 r6 c7 s = some r) (hK : ((Sum.elim (fun s => Rn rom (d + 3) 1 (36, [some (vR 177), some (vR a1), some (vI c2), some (vI c3), some (vI c4), some (vI s.1), none, none, none], [], (G0, s.2)) out) (eVW out))) r) : Rn rom (d + 3) 1 (75, [some (vR 177), some (vR a1), some (vI c2), some (vI c3), some (vI c4), some (vI c5), some (vR r6), some (vI c7), some (vI s.1)], [], (G0, s.2)) out := by
  unfold f_1_L75 at e
  revert e hK
  exact R_loop (b := fun s => f_1_L75b a1 c2 c3 c4 c5 r6 c7 s.1 s.2) (G := fun s => Rn rom (d + 3) 1 (75, [some (vR 177), some (vR a1), some (vI c2), some (vI c3), some (vI c4), some (vI c5), some (vR r6), some (vI c7), some (vI s.1)], [], (G0, s.2)) out) (K := (Sum.elim (fun s => Rn rom (d + 3) 1 (36, [some (vR 177), some (vR a1), some (vI c2), some (vI c3), some (vI c4), some (vI s.1), none, none, none], [], (G0, s.2)) out) (eVW out))) (fun s r e hK => t_1_L75b h1 hr6 e hK) NF s r
def f_1_L36b (a1 : Nat) (c2 : Int) (c3 : Int) (c4 : Int) (v5 : Int) (M : xM) : Option ((Int × xM) ⊕ (xM)) :=
  if wr c2 ≤ wr v5 then
    some (.inr (M))
  else
    (f_66 M a1 v5).bind (fun k3 =>
    if k3 = 0 then
      some (.inl ((v5 + 1), M))
    else
      gd (Tg k3 = 3) (
      f_1_L75 a1 c2 c3 c4 v5 k3 (f_134 c3 (f_29 M (k3 + 1))) (0, M)
      )
    )
theorem t_1_L36b {rom : xRom} {d : Nat} {a1 : Nat} {c2 : Int} {c3 : Int} {c4 : Int} {v5 : Int} {M : xM} (h1 : Tg a1 = 7) {r : (Int × xM) ⊕ (xM)} {out : Option xV × xH} (e : f_1_L36b a1 c2 c3 c4 v5 M = some r) (hK : ((Sum.elim (fun s => Rn rom (d + 3) 1 (36, [some (vR 177), some (vR a1), some (vI c2), some (vI c3), some (vI c4), some (vI s.1), none, none, none], [], (G0, s.2)) out) (eVW out))) r) : Rn rom (d + 3) 1 (36, [some (vR 177), some (vR a1), some (vI c2), some (vI c3), some (vI c4), some (vI v5), none, none, none], [], (G0, M)) out := by
  have hc : xkall.getD 1 [] = xk_1 := rfl
  unfold f_1_L36b at e
  refine Rn_ms (σ' := (39, [some (vR 177), some (vR a1), some (vI c2), some (vI c3), some (vI c4), some (vI v5), none, none, none], [vI c2, vI v5], (G0, M))) hc 2 rfl ?_
  refine R_ite e (fun b2 e => ?_) (fun b2 e => ?_)
  · refine Rn_icT (tgt := 122) hc rfl rfl (by decide) b2 ?_
    show Rn rom (d + 3) 1 (122, [some (vR 177), some (vR a1), some (vI c2), some (vI c3), some (vI c4), some (vI v5), none, none, none], [], (G0, M)) out
    cases e
    exact R_end (Rn_vret hc rfl rfl rfl rfl) hK
  · refine Rn_icF hc rfl rfl (by decide) b2 ?_
    refine Rn_ms (σ' := (45, [some (vR 177), some (vR a1), some (vI c2), some (vI c3), some (vI c4), some (vI v5), none, none, none], [vI v5, vR a1], (G0, M))) hc 2 rfl ?_
    refine R_bind e (fun k3 hk3 e => ?_)
    refine Rn_cv hc rfl rfl (by decide) (ii := xi_46) rfl rfl rfl (h1 : Tg _ = 7) (by decide) rfl (le := [some (vR a1), some (vI v5), none]) rfl (v := some (vR k3)) (M' := M) (t_66 h1 (d := d + 0) hk3 rfl) ?_
    refine Rn_ms (σ' := (52, [some (vR 177), some (vR a1), some (vI c2), some (vI c3), some (vI c4), some (vI v5), some (vR k3), none, none], [vR k3], (G0, M))) hc 2 rfl ?_
    refine R_ite e (fun b4 e => ?_) (fun b4 e => ?_)
    · refine Rn_nnF hc rfl rfl (by decide) b4 ?_
      refine Rn_ms (σ' := (36, [some (vR 177), some (vR a1), some (vI c2), some (vI c3), some (vI c4), some (vI (v5 + 1)), some (vR k3), none, none], [], (G0, M))) hc 3 rfl ?_
      cases e
      exact Rn_weak (xle_s (xle_s (xle_s (xle_s (xle_s (xle_s (xle_n (xle_s (xle_s xle_0))))))))) hK
    · refine Rn_nnT (tgt := 58) hc rfl rfl (by decide) b4 ?_
      refine Rn_ms (σ' := (61, [some (vR 177), some (vR a1), some (vI c2), some (vI c3), some (vI c4), some (vI v5), some (vR k3), none, none], [vR k3, vI c3], (G0, M))) hc 2 rfl ?_
      refine R_gd e (fun g5 e => ?_)
      refine Rn_getR hc rfl g5 (by decide) rfl (gP3_0_0 g5) ?_
      show Rn rom (d + 3) 1 (64, [some (vR 177), some (vR a1), some (vI c2), some (vI c3), some (vI c4), some (vI v5), some (vR k3), none, none], [vR (k3 + 1), vI c3], (G0, M)) out
      refine Rn_cv hc rfl rfl (by decide) (ii := xi_21) rfl rfl rfl ((gT3_1 g5) : Tg _ = 4) (by decide) rfl (le := [some (vR (k3 + 1))]) rfl (v := some (vI (f_29 M (k3 + 1)))) (M' := M) (t_29 (gT3_1 g5) (d := d + 2) rfl rfl) ?_
      show Rn rom (d + 3) 1 (67, [some (vR 177), some (vR a1), some (vI c2), some (vI c3), some (vI c4), some (vI v5), some (vR k3), none, none], [vI (f_29 M (k3 + 1)), vI c3], (G0, M)) out
      refine Rn_cs hc rfl rfl (by decide) (ii := xi_103) rfl rfl rfl (le := [some (vI c3), some (vI (f_29 M (k3 + 1)))]) rfl (v := some (vI (f_134 c3 (f_29 M (k3 + 1))))) (M' := M) (t_134  (d := d + 2) rfl rfl) ?_
      refine Rn_ms (σ' := (75, [some (vR 177), some (vR a1), some (vI c2), some (vI c3), some (vI c4), some (vI v5), some (vR k3), some (vI (f_134 c3 (f_29 M (k3 + 1)))), some (vI 0)], [], (G0, M))) hc 3 rfl ?_
      exact Rn_weak (xle_s (xle_s (xle_s (xle_s (xle_s (xle_s (xle_s (xle_s (xle_s xle_0))))))))) (t_1_L75 h1 g5 e hK)
def f_1_L36 (a1 : Nat) (c2 : Int) (c3 : Int) (c4 : Int) (s : Int × xM) : Option (xM) := loop NF (fun s => f_1_L36b a1 c2 c3 c4 s.1 s.2) s
theorem t_1_L36 {rom : xRom} {d : Nat} {a1 : Nat} {c2 : Int} {c3 : Int} {c4 : Int} (h1 : Tg a1 = 7) {s : Int × xM} {r : xM} {out : Option xV × xH} (e : f_1_L36 a1 c2 c3 c4 s = some r) (hK : (eVW out) r) : Rn rom (d + 3) 1 (36, [some (vR 177), some (vR a1), some (vI c2), some (vI c3), some (vI c4), some (vI s.1), none, none, none], [], (G0, s.2)) out := by
  unfold f_1_L36 at e
  revert e hK
  exact R_loop (b := fun s => f_1_L36b a1 c2 c3 c4 s.1 s.2) (G := fun s => Rn rom (d + 3) 1 (36, [some (vR 177), some (vR a1), some (vI c2), some (vI c3), some (vI c4), some (vI s.1), none, none, none], [], (G0, s.2)) out) (K := eVW out) (fun s r e hK => t_1_L36b h1 e hK) NF s r
def f_1_L3b (a1 : Nat) (c2 : Int) (c3 : Int) (v4 : Int) (M : xM) : Option ((Int × xM) ⊕ (xM)) :=
  if 36 ≤ wr v4 then
    (f_1_L36 a1 c2 c3 (f_65 M a1) (0, M)).bind (fun o => some (.inr (o)))
  else
    gd (0 ≤ wr v4 ∧ wr v4 < 36) (
    bnd (xset M 178 (wr v4).toNat 0) (fun M11 =>
    some (.inl ((v4 + 1), M11))
    ))
theorem t_1_L3b {rom : xRom} {d : Nat} {a1 : Nat} {c2 : Int} {c3 : Int} {v4 : Int} {M : xM} (h1 : Tg a1 = 7) {r : (Int × xM) ⊕ (xM)} {out : Option xV × xH} (e : f_1_L3b a1 c2 c3 v4 M = some r) (hK : ((Sum.elim (fun s => Rn rom (d + 3) 1 (3, [some (vR 177), some (vR a1), some (vI c2), some (vI c3), some (vI s.1), none, none, none, none], [], (G0, s.2)) out) (eVW out))) r) : Rn rom (d + 3) 1 (3, [some (vR 177), some (vR a1), some (vI c2), some (vI c3), some (vI v4), none, none, none, none], [], (G0, M)) out := by
  have hc : xkall.getD 1 [] = xk_1 := rfl
  unfold f_1_L3b at e
  refine Rn_ms (σ' := (6, [some (vR 177), some (vR a1), some (vI c2), some (vI c3), some (vI v4), none, none, none, none], [vR 177, vI v4], (G0, M))) hc 2 rfl ?_
  refine Rn_getR hc rfl tgc_177 (by decide) rfl prc_177_0 ?_
  show Rn rom (d + 3) 1 (9, [some (vR 177), some (vR a1), some (vI c2), some (vI c3), some (vI v4), none, none, none, none], [vR 178, vI v4], (G0, M)) out
  refine Rn_alen hc rfl rfl tgc_178 (by decide) zsc_178 ?_
  show Rn rom (d + 3) 1 (10, [some (vR 177), some (vR a1), some (vI c2), some (vI c3), some (vI v4), none, none, none, none], [vI 36, vI v4], (G0, M)) out
  refine R_ite e (fun b1 e => ?_) (fun b1 e => ?_)
  · refine Rn_icT (tgt := 27) hc rfl rfl (by decide) b1 ?_
    refine Rn_ms (σ' := (28, [some (vR 177), some (vR a1), some (vI c2), some (vI c3), some (vI v4), none, none, none, none], [vR a1], (G0, M))) hc 1 rfl ?_
    refine Rn_cv hc rfl rfl (by decide) (ii := xi_45) rfl rfl rfl (h1 : Tg _ = 7) (by decide) rfl (le := [some (vR a1)]) rfl (v := some (vI (f_65 M a1))) (M' := M) (t_65 h1 (d := d + 2) rfl rfl) ?_
    refine Rn_ms (σ' := (36, [some (vR 177), some (vR a1), some (vI c2), some (vI c3), some (vI (f_65 M a1)), some (vI 0), none, none, none], [], (G0, M))) hc 3 rfl ?_
    refine R_bind e (fun o ho e => ?_)
    cases e
    exact Rn_weak (xle_s (xle_s (xle_s (xle_s (xle_s (xle_s (xle_s (xle_s (xle_s xle_0))))))))) (t_1_L36 h1 ho hK)
  · refine Rn_icF hc rfl rfl (by decide) b1 ?_
    refine Rn_ms (σ' := (14, [some (vR 177), some (vR a1), some (vI c2), some (vI c3), some (vI v4), none, none, none, none], [vR 177], (G0, M))) hc 1 rfl ?_
    refine Rn_getR hc rfl tgc_177 (by decide) rfl prc_177_0 ?_
    refine Rn_ms (σ' := (20, [some (vR 177), some (vR a1), some (vI c2), some (vI c3), some (vI v4), none, none, none, none], [vI 0, vI v4, vR 178], (G0, M))) hc 2 rfl ?_
    refine R_gd e (fun g10 e => ?_)
    refine R_bnd e (fun M11 hM11 e => ?_)
    refine Rn_iast' hM11 hc rfl rfl tgc_178 zsc_178 g10 rfl ?_
    refine Rn_ms (σ' := (3, [some (vR 177), some (vR a1), some (vI c2), some (vI c3), some (vI (v4 + 1)), none, none, none, none], [], (G0, M11))) hc 2 rfl ?_
    cases e
    exact Rn_weak (xle_s (xle_s (xle_s (xle_s (xle_s (xle_s (xle_s (xle_s (xle_s xle_0))))))))) hK
def f_1_L3 (a1 : Nat) (c2 : Int) (c3 : Int) (s : Int × xM) : Option (xM) := loop NF (fun s => f_1_L3b a1 c2 c3 s.1 s.2) s
theorem t_1_L3 {rom : xRom} {d : Nat} {a1 : Nat} {c2 : Int} {c3 : Int} (h1 : Tg a1 = 7) {s : Int × xM} {r : xM} {out : Option xV × xH} (e : f_1_L3 a1 c2 c3 s = some r) (hK : (eVW out) r) : Rn rom (d + 3) 1 (3, [some (vR 177), some (vR a1), some (vI c2), some (vI c3), some (vI s.1), none, none, none, none], [], (G0, s.2)) out := by
  unfold f_1_L3 at e
  revert e hK
  exact R_loop (b := fun s => f_1_L3b a1 c2 c3 s.1 s.2) (G := fun s => Rn rom (d + 3) 1 (3, [some (vR 177), some (vR a1), some (vI c2), some (vI c3), some (vI s.1), none, none, none, none], [], (G0, s.2)) out) (K := eVW out) (fun s r e hK => t_1_L3b h1 e hK) NF s r
/-- PedalLayers$Ear.listen -/
def f_1 (M : xM) (a1 : Nat) (a2 : Int) (a3 : Int) : Option (xM) :=
  f_1_L3 a1 a2 a3 (0, M)
theorem t_1 {rom : xRom} {d : Nat} {M : xM} {a1 : Nat} {a2 : Int} {a3 : Int} (h1 : Tg a1 = 7) {r : xM} {out : Option xV × xH} (e : f_1 M a1 a2 a3 = some r) (hK : eVW out r) : Rn rom (d + 3) 1 (0, [some (vR 177), some (vR a1), some (vI a2), some (vI a3), none, none, none, none, none], [], (G0, M)) out := by
  have hc : xkall.getD 1 [] = xk_1 := rfl
  unfold f_1 at e
  refine Rn_ms (σ' := (3, [some (vR 177), some (vR a1), some (vI a2), some (vI a3), some (vI 0), none, none, none, none], [], (G0, M))) hc 2 rfl ?_
  exact Rn_weak (xle_s (xle_s (xle_s (xle_s (xle_s (xle_s (xle_s (xle_s (xle_s xle_0))))))))) (t_1_L3 h1 e hK)
/-- PedalLayers$Ear.ringOf -/
def f_2 (M : xM) (a1 : Int) : Int :=
  if wr a1 < 0 then
    0
  else
    if 36 ≤ wr a1 then
      0
    else
      (M 178 (wr a1).toNat)
theorem t_2 {rom : xRom} {d : Nat} {M : xM} {a1 : Int} {r : Int} {out : Option xV × xH} (e : f_2 M a1 = r) (hK : eI M out r) : Rn rom (d + 0) 2 (0, [some (vR 177), some (vI a1)], [], (G0, M)) out := by
  have hc : xkall.getD 2 [] = xk_2 := rfl
  unfold f_2 at e
  refine Rn_ms (σ' := (1, [some (vR 177), some (vI a1)], [vI a1], (G0, M))) hc 1 rfl ?_
  refine R_ite e (fun b1 e => ?_) (fun b1 e => ?_)
  · refine Rn_ifT (tgt := 22) hc rfl rfl (by decide) b1 ?_
    refine Rn_ms (σ' := (23, [some (vR 177), some (vI a1)], [vI 0], (G0, M))) hc 1 rfl ?_
    cases e
    exact R_end (Rn_iret hc rfl rfl (xretI rfl rfl)) hK
  · refine Rn_ifF hc rfl rfl (by decide) b1 ?_
    refine Rn_ms (σ' := (6, [some (vR 177), some (vI a1)], [vR 177, vI a1], (G0, M))) hc 2 rfl ?_
    refine Rn_getR hc rfl tgc_177 (by decide) rfl prc_177_0 ?_
    show Rn rom (d + 0) 2 (9, [some (vR 177), some (vI a1)], [vR 178, vI a1], (G0, M)) out
    refine Rn_alen hc rfl rfl tgc_178 (by decide) zsc_178 ?_
    show Rn rom (d + 0) 2 (10, [some (vR 177), some (vI a1)], [vI 36, vI a1], (G0, M)) out
    refine R_ite e (fun b2 e => ?_) (fun b2 e => ?_)
    · refine Rn_icT (tgt := 22) hc rfl rfl (by decide) b2 ?_
      refine Rn_ms (σ' := (23, [some (vR 177), some (vI a1)], [vI 0], (G0, M))) hc 1 rfl ?_
      cases e
      exact R_end (Rn_iret hc rfl rfl (xretI rfl rfl)) hK
    · refine Rn_icF hc rfl rfl (by decide) b2 ?_
      refine Rn_ms (σ' := (14, [some (vR 177), some (vI a1)], [vR 177], (G0, M))) hc 1 rfl ?_
      refine Rn_getR hc rfl tgc_177 (by decide) rfl prc_177_0 ?_
      refine Rn_ms (σ' := (18, [some (vR 177), some (vI a1)], [vI a1, vR 178], (G0, M))) hc 1 rfl ?_
      refine Rn_iald hc rfl rfl tgc_178 zsc_178 (by omega) rfl ?_
      refine Rn_ms (σ' := (23, [some (vR 177), some (vI a1)], [vI (M 178 (wr a1).toNat)], (G0, M))) hc 1 rfl ?_
      cases e
      exact R_end (Rn_iret hc rfl rfl (xretI rfl rfl)) hK
def f_3_L13b (M : xM) (c3 : Int) (v1 : Int) (v4 : Int) : Option ((Int × Int) ⊕ (Int)) :=
  if wr c3 ≤ wr v4 then
    some (.inr (v1))
  else
    gd (0 ≤ wr v4 ∧ wr v4 < 36) (
    if wr (M 178 (wr v4).toNat) ≤ 0 then
      some (.inl (v1, (v4 + 1)))
    else
      some (.inl ((v1 + 1), (v4 + 1)))
    )
theorem t_3_L13b {rom : xRom} {d : Nat} {c3 : Int} {v1 : Int} {v4 : Int} {M : xM} {r : (Int × Int) ⊕ (Int)} {out : Option xV × xH} (e : f_3_L13b M c3 v1 v4 = some r) (hK : ((Sum.elim (fun s => Rn rom (d + 0) 3 (13, [none, some (vI s.1), some (vR 178), some (vI c3), some (vI s.2), none], [], (G0, M)) out) (eI M out))) r) : Rn rom (d + 0) 3 (13, [none, some (vI v1), some (vR 178), some (vI c3), some (vI v4), none], [], (G0, M)) out := by
  have hc : xkall.getD 3 [] = xk_3 := rfl
  unfold f_3_L13b at e
  refine Rn_ms (σ' := (16, [none, some (vI v1), some (vR 178), some (vI c3), some (vI v4), none], [vI c3, vI v4], (G0, M))) hc 2 rfl ?_
  refine R_ite e (fun b1 e => ?_) (fun b1 e => ?_)
  · refine Rn_icT (tgt := 39) hc rfl rfl (by decide) b1 ?_
    refine Rn_ms (σ' := (40, [none, some (vI v1), some (vR 178), some (vI c3), some (vI v4), none], [vI v1], (G0, M))) hc 1 rfl ?_
    cases e
    exact R_end (Rn_iret hc rfl rfl (xretI rfl rfl)) hK
  · refine Rn_icF hc rfl rfl (by decide) b1 ?_
    refine Rn_ms (σ' := (22, [none, some (vI v1), some (vR 178), some (vI c3), some (vI v4), none], [vI v4, vR 178], (G0, M))) hc 2 rfl ?_
    refine R_gd e (fun g2 e => ?_)
    refine Rn_iald hc rfl rfl tgc_178 zsc_178 g2 rfl ?_
    refine Rn_ms (σ' := (27, [none, some (vI v1), some (vR 178), some (vI c3), some (vI v4), some (vI (M 178 (wr v4).toNat))], [vI (M 178 (wr v4).toNat)], (G0, M))) hc 2 rfl ?_
    refine R_ite e (fun b3 e => ?_) (fun b3 e => ?_)
    · refine Rn_ifT (tgt := 33) hc rfl rfl (by decide) b3 ?_
      refine Rn_ms (σ' := (13, [none, some (vI v1), some (vR 178), some (vI c3), some (vI (v4 + 1)), some (vI (M 178 (wr v4).toNat))], [], (G0, M))) hc 2 rfl ?_
      cases e
      exact Rn_weak (xle_s (xle_s (xle_s (xle_s (xle_s (xle_n xle_0)))))) hK
    · refine Rn_ifF hc rfl rfl (by decide) b3 ?_
      refine Rn_ms (σ' := (13, [none, some (vI (v1 + 1)), some (vR 178), some (vI c3), some (vI (v4 + 1)), some (vI (M 178 (wr v4).toNat))], [], (G0, M))) hc 3 rfl ?_
      cases e
      exact Rn_weak (xle_s (xle_s (xle_s (xle_s (xle_s (xle_n xle_0)))))) hK
def f_3_L13 (M : xM) (c3 : Int) (s : Int × Int) : Option (Int) := loop NF (fun s => f_3_L13b M c3 s.1 s.2) s
theorem t_3_L13 {rom : xRom} {d : Nat} {c3 : Int} {M : xM} {s : Int × Int} {r : Int} {out : Option xV × xH} (e : f_3_L13 M c3 s = some r) (hK : (eI M out) r) : Rn rom (d + 0) 3 (13, [none, some (vI s.1), some (vR 178), some (vI c3), some (vI s.2), none], [], (G0, M)) out := by
  unfold f_3_L13 at e
  revert e hK
  exact R_loop (b := fun s => f_3_L13b M c3 s.1 s.2) (G := fun s => Rn rom (d + 0) 3 (13, [none, some (vI s.1), some (vR 178), some (vI c3), some (vI s.2), none], [], (G0, M)) out) (K := eI M out) (fun s r e hK => t_3_L13b  e hK) NF s r
/-- PedalLayers$Ear.howManyKeys -/
def f_3 (M : xM) : Option (Int) :=
  f_3_L13 M 36 (0, 0)
theorem t_3 {rom : xRom} {d : Nat} {M : xM}  {r : Int} {out : Option xV × xH} (e : f_3 M = some r) (hK : eI M out r) : Rn rom (d + 0) 3 (0, [some (vR 177), none, none, none, none, none], [], (G0, M)) out := by
  have hc : xkall.getD 3 [] = xk_3 := rfl
  unfold f_3 at e
  refine Rn_ms (σ' := (3, [some (vR 177), some (vI 0), none, none, none, none], [vR 177], (G0, M))) hc 3 rfl ?_
  refine Rn_getR hc rfl tgc_177 (by decide) rfl prc_177_0 ?_
  refine Rn_ms (σ' := (8, [some (vR 177), some (vI 0), some (vR 178), none, none, none], [vR 178], (G0, M))) hc 2 rfl ?_
  refine Rn_alen hc rfl rfl tgc_178 (by decide) zsc_178 ?_
  refine Rn_ms (σ' := (13, [some (vR 177), some (vI 0), some (vR 178), some (vI 36), some (vI 0), none], [], (G0, M))) hc 3 rfl ?_
  exact Rn_weak (xle_n (xle_s (xle_s (xle_s (xle_s (xle_s xle_0)))))) (t_3_L13  e hK)
def f_4_L13b (M : xM) (c3 : Int) (v1 : Int) (v4 : Int) : Option ((Int × Int) ⊕ (Int)) :=
  if wr c3 ≤ wr v4 then
    some (.inr (v1))
  else
    gd (0 ≤ wr v4 ∧ wr v4 < 36) (
    some (.inl ((v1 + (M 178 (wr v4).toNat)), (v4 + 1)))
    )
theorem t_4_L13b {rom : xRom} {d : Nat} {c3 : Int} {v1 : Int} {v4 : Int} {M : xM} {r : (Int × Int) ⊕ (Int)} {out : Option xV × xH} (e : f_4_L13b M c3 v1 v4 = some r) (hK : ((Sum.elim (fun s => Rn rom (d + 0) 4 (13, [none, some (vI s.1), some (vR 178), some (vI c3), some (vI s.2), none], [], (G0, M)) out) (eI M out))) r) : Rn rom (d + 0) 4 (13, [none, some (vI v1), some (vR 178), some (vI c3), some (vI v4), none], [], (G0, M)) out := by
  have hc : xkall.getD 4 [] = xk_4 := rfl
  unfold f_4_L13b at e
  refine Rn_ms (σ' := (16, [none, some (vI v1), some (vR 178), some (vI c3), some (vI v4), none], [vI c3, vI v4], (G0, M))) hc 2 rfl ?_
  refine R_ite e (fun b1 e => ?_) (fun b1 e => ?_)
  · refine Rn_icT (tgt := 36) hc rfl rfl (by decide) b1 ?_
    refine Rn_ms (σ' := (37, [none, some (vI v1), some (vR 178), some (vI c3), some (vI v4), none], [vI v1], (G0, M))) hc 1 rfl ?_
    cases e
    exact R_end (Rn_iret hc rfl rfl (xretI rfl rfl)) hK
  · refine Rn_icF hc rfl rfl (by decide) b1 ?_
    refine Rn_ms (σ' := (22, [none, some (vI v1), some (vR 178), some (vI c3), some (vI v4), none], [vI v4, vR 178], (G0, M))) hc 2 rfl ?_
    refine R_gd e (fun g2 e => ?_)
    refine Rn_iald hc rfl rfl tgc_178 zsc_178 g2 rfl ?_
    refine Rn_ms (σ' := (13, [none, some (vI (v1 + (M 178 (wr v4).toNat))), some (vR 178), some (vI c3), some (vI (v4 + 1)), some (vI (M 178 (wr v4).toNat))], [], (G0, M))) hc 7 rfl ?_
    cases e
    exact Rn_weak (xle_s (xle_s (xle_s (xle_s (xle_s (xle_n xle_0)))))) hK
def f_4_L13 (M : xM) (c3 : Int) (s : Int × Int) : Option (Int) := loop NF (fun s => f_4_L13b M c3 s.1 s.2) s
theorem t_4_L13 {rom : xRom} {d : Nat} {c3 : Int} {M : xM} {s : Int × Int} {r : Int} {out : Option xV × xH} (e : f_4_L13 M c3 s = some r) (hK : (eI M out) r) : Rn rom (d + 0) 4 (13, [none, some (vI s.1), some (vR 178), some (vI c3), some (vI s.2), none], [], (G0, M)) out := by
  unfold f_4_L13 at e
  revert e hK
  exact R_loop (b := fun s => f_4_L13b M c3 s.1 s.2) (G := fun s => Rn rom (d + 0) 4 (13, [none, some (vI s.1), some (vR 178), some (vI c3), some (vI s.2), none], [], (G0, M)) out) (K := eI M out) (fun s r e hK => t_4_L13b  e hK) NF s r
/-- PedalLayers$Ear.sum -/
def f_4 (M : xM) : Option (Int) :=
  f_4_L13 M 36 (0, 0)
theorem t_4 {rom : xRom} {d : Nat} {M : xM}  {r : Int} {out : Option xV × xH} (e : f_4 M = some r) (hK : eI M out r) : Rn rom (d + 0) 4 (0, [some (vR 177), none, none, none, none, none], [], (G0, M)) out := by
  have hc : xkall.getD 4 [] = xk_4 := rfl
  unfold f_4 at e
  refine Rn_ms (σ' := (3, [some (vR 177), some (vI 0), none, none, none, none], [vR 177], (G0, M))) hc 3 rfl ?_
  refine Rn_getR hc rfl tgc_177 (by decide) rfl prc_177_0 ?_
  refine Rn_ms (σ' := (8, [some (vR 177), some (vI 0), some (vR 178), none, none, none], [vR 178], (G0, M))) hc 2 rfl ?_
  refine Rn_alen hc rfl rfl tgc_178 (by decide) zsc_178 ?_
  refine Rn_ms (σ' := (13, [some (vR 177), some (vI 0), some (vR 178), some (vI 36), some (vI 0), none], [], (G0, M))) hc 3 rfl ?_
  exact Rn_weak (xle_n (xle_s (xle_s (xle_s (xle_s (xle_s xle_0)))))) (t_4_L13  e hK)
def f_5_L8b (M : xM) (v1 : Int) : Option ((Int) ⊕ (Int)) :=
  if wr v1 < 0 then
    some (.inr ((-4)))
  else
    if wr (f_2 M v1) ≤ 0 then
      some (.inl (v1 + (-1)))
    else
      some (.inr (v1))
theorem t_5_L8b {rom : xRom} {d : Nat} {v1 : Int} {M : xM} {r : (Int) ⊕ (Int)} {out : Option xV × xH} (e : f_5_L8b M v1 = some r) (hK : ((Sum.elim (fun s => Rn rom (d + 1) 5 (8, [some (vR 177), some (vI s)], [], (G0, M)) out) (eI M out))) r) : Rn rom (d + 1) 5 (8, [some (vR 177), some (vI v1)], [], (G0, M)) out := by
  have hc : xkall.getD 5 [] = xk_5 := rfl
  unfold f_5_L8b at e
  refine Rn_ms (σ' := (9, [some (vR 177), some (vI v1)], [vI v1], (G0, M))) hc 1 rfl ?_
  refine R_ite e (fun b1 e => ?_) (fun b1 e => ?_)
  · refine Rn_ifT (tgt := 28) hc rfl rfl (by decide) b1 ?_
    refine Rn_ms (σ' := (30, [some (vR 177), some (vI v1)], [vI (-4)], (G0, M))) hc 1 rfl ?_
    cases e
    exact R_end (Rn_iret hc rfl rfl (xretI rfl rfl)) hK
  · refine Rn_ifF hc rfl rfl (by decide) b1 ?_
    refine Rn_ms (σ' := (14, [some (vR 177), some (vI v1)], [vI v1, vR 177], (G0, M))) hc 2 rfl ?_
    refine Rn_cv hc rfl rfl (by decide) (ii := xi_2) rfl rfl rfl (tgc_177 : Tg _ = 0) (by decide) rfl (le := [some (vR 177), some (vI v1)]) rfl (v := some (vI (f_2 M v1))) (M' := M) (t_2  (d := d + 0) rfl rfl) ?_
    show Rn rom (d + 1) 5 (17, [some (vR 177), some (vI v1)], [vI (f_2 M v1)], (G0, M)) out
    refine R_ite e (fun b2 e => ?_) (fun b2 e => ?_)
    · refine Rn_ifT (tgt := 22) hc rfl rfl (by decide) b2 ?_
      refine Rn_ms (σ' := (8, [some (vR 177), some (vI (v1 + (-1)))], [], (G0, M))) hc 2 rfl ?_
      cases e
      exact Rn_weak (xle_s (xle_s xle_0)) hK
    · refine Rn_ifF hc rfl rfl (by decide) b2 ?_
      refine Rn_ms (σ' := (21, [some (vR 177), some (vI v1)], [vI v1], (G0, M))) hc 1 rfl ?_
      cases e
      exact R_end (Rn_iret hc rfl rfl (xretI rfl rfl)) hK
def f_5_L8 (M : xM) (s : Int) : Option (Int) := loop NF (fun s => f_5_L8b M s) s
theorem t_5_L8 {rom : xRom} {d : Nat}  {M : xM} {s : Int} {r : Int} {out : Option xV × xH} (e : f_5_L8 M s = some r) (hK : (eI M out) r) : Rn rom (d + 1) 5 (8, [some (vR 177), some (vI s)], [], (G0, M)) out := by
  unfold f_5_L8 at e
  revert e hK
  exact R_loop (b := fun s => f_5_L8b M s) (G := fun s => Rn rom (d + 1) 5 (8, [some (vR 177), some (vI s)], [], (G0, M)) out) (K := eI M out) (fun s r e hK => t_5_L8b  e hK) NF s r
/-- PedalLayers$Ear.highestKey -/
def f_5 (M : xM) : Option (Int) :=
  f_5_L8 M ((36 - 1))
theorem t_5 {rom : xRom} {d : Nat} {M : xM}  {r : Int} {out : Option xV × xH} (e : f_5 M = some r) (hK : eI M out r) : Rn rom (d + 1) 5 (0, [some (vR 177), none], [], (G0, M)) out := by
  have hc : xkall.getD 5 [] = xk_5 := rfl
  unfold f_5 at e
  refine Rn_ms (σ' := (1, [some (vR 177), none], [vR 177], (G0, M))) hc 1 rfl ?_
  refine Rn_getR hc rfl tgc_177 (by decide) rfl prc_177_0 ?_
  show Rn rom (d + 1) 5 (4, [some (vR 177), none], [vR 178], (G0, M)) out
  refine Rn_alen hc rfl rfl tgc_178 (by decide) zsc_178 ?_
  refine Rn_ms (σ' := (8, [some (vR 177), some (vI (36 - 1))], [], (G0, M))) hc 3 rfl ?_
  exact Rn_weak (xle_s (xle_s xle_0)) (t_5_L8  e hK)
def f_6_L2b (M : xM) (v1 : Int) : Option ((Int) ⊕ (Int)) :=
  if 36 ≤ wr v1 then
    some (.inr ((-4)))
  else
    gd (0 ≤ wr v1 ∧ wr v1 < 36) (
    if wr (M 178 (wr v1).toNat) ≤ 0 then
      some (.inl (v1 + 1))
    else
      some (.inr (v1))
    )
theorem t_6_L2b {rom : xRom} {d : Nat} {v1 : Int} {M : xM} {r : (Int) ⊕ (Int)} {out : Option xV × xH} (e : f_6_L2b M v1 = some r) (hK : ((Sum.elim (fun s => Rn rom (d + 0) 6 (2, [some (vR 177), some (vI s)], [], (G0, M)) out) (eI M out))) r) : Rn rom (d + 0) 6 (2, [some (vR 177), some (vI v1)], [], (G0, M)) out := by
  have hc : xkall.getD 6 [] = xk_6 := rfl
  unfold f_6_L2b at e
  refine Rn_ms (σ' := (4, [some (vR 177), some (vI v1)], [vR 177, vI v1], (G0, M))) hc 2 rfl ?_
  refine Rn_getR hc rfl tgc_177 (by decide) rfl prc_177_0 ?_
  show Rn rom (d + 0) 6 (7, [some (vR 177), some (vI v1)], [vR 178, vI v1], (G0, M)) out
  refine Rn_alen hc rfl rfl tgc_178 (by decide) zsc_178 ?_
  show Rn rom (d + 0) 6 (8, [some (vR 177), some (vI v1)], [vI 36, vI v1], (G0, M)) out
  refine R_ite e (fun b1 e => ?_) (fun b1 e => ?_)
  · refine Rn_icT (tgt := 28) hc rfl rfl (by decide) b1 ?_
    refine Rn_ms (σ' := (30, [some (vR 177), some (vI v1)], [vI (-4)], (G0, M))) hc 1 rfl ?_
    cases e
    exact R_end (Rn_iret hc rfl rfl (xretI rfl rfl)) hK
  · refine Rn_icF hc rfl rfl (by decide) b1 ?_
    refine Rn_ms (σ' := (12, [some (vR 177), some (vI v1)], [vR 177], (G0, M))) hc 1 rfl ?_
    refine Rn_getR hc rfl tgc_177 (by decide) rfl prc_177_0 ?_
    refine Rn_ms (σ' := (16, [some (vR 177), some (vI v1)], [vI v1, vR 178], (G0, M))) hc 1 rfl ?_
    refine R_gd e (fun g2 e => ?_)
    refine Rn_iald hc rfl rfl tgc_178 zsc_178 g2 rfl ?_
    show Rn rom (d + 0) 6 (17, [some (vR 177), some (vI v1)], [vI (M 178 (wr v1).toNat)], (G0, M)) out
    refine R_ite e (fun b3 e => ?_) (fun b3 e => ?_)
    · refine Rn_ifT (tgt := 22) hc rfl rfl (by decide) b3 ?_
      refine Rn_ms (σ' := (2, [some (vR 177), some (vI (v1 + 1))], [], (G0, M))) hc 2 rfl ?_
      cases e
      exact Rn_weak (xle_s (xle_s xle_0)) hK
    · refine Rn_ifF hc rfl rfl (by decide) b3 ?_
      refine Rn_ms (σ' := (21, [some (vR 177), some (vI v1)], [vI v1], (G0, M))) hc 1 rfl ?_
      cases e
      exact R_end (Rn_iret hc rfl rfl (xretI rfl rfl)) hK
def f_6_L2 (M : xM) (s : Int) : Option (Int) := loop NF (fun s => f_6_L2b M s) s
theorem t_6_L2 {rom : xRom} {d : Nat}  {M : xM} {s : Int} {r : Int} {out : Option xV × xH} (e : f_6_L2 M s = some r) (hK : (eI M out) r) : Rn rom (d + 0) 6 (2, [some (vR 177), some (vI s)], [], (G0, M)) out := by
  unfold f_6_L2 at e
  revert e hK
  exact R_loop (b := fun s => f_6_L2b M s) (G := fun s => Rn rom (d + 0) 6 (2, [some (vR 177), some (vI s)], [], (G0, M)) out) (K := eI M out) (fun s r e hK => t_6_L2b  e hK) NF s r
/-- PedalLayers$Ear.lowestKey -/
def f_6 (M : xM) : Option (Int) :=
  f_6_L2 M (0)
theorem t_6 {rom : xRom} {d : Nat} {M : xM}  {r : Int} {out : Option xV × xH} (e : f_6 M = some r) (hK : eI M out r) : Rn rom (d + 0) 6 (0, [some (vR 177), none], [], (G0, M)) out := by
  have hc : xkall.getD 6 [] = xk_6 := rfl
  unfold f_6 at e
  refine Rn_ms (σ' := (2, [some (vR 177), some (vI 0)], [], (G0, M))) hc 2 rfl ?_
  exact Rn_weak (xle_s (xle_s xle_0)) (t_6_L2  e hK)
def f_7_L7b (M : xM) (v1 : Int) (v2 : Int) (v3 : Int) : Option ((Int × Int × Int) ⊕ (Int)) :=
  if 36 ≤ wr v3 then
    some (.inr (v1))
  else
    gd (0 ≤ wr v3 ∧ wr v3 < 36) (
    if wr (M 178 (wr v3).toNat) ≤ wr v2 then
      some (.inl (v1, v2, (v3 + 1)))
    else
      gd (0 ≤ wr v3 ∧ wr v3 < 36) (
      some (.inl (v3, (M 178 (wr v3).toNat), (v3 + 1)))
      )
    )
theorem t_7_L7b {rom : xRom} {d : Nat} {v1 : Int} {v2 : Int} {v3 : Int} {M : xM} {r : (Int × Int × Int) ⊕ (Int)} {out : Option xV × xH} (e : f_7_L7b M v1 v2 v3 = some r) (hK : ((Sum.elim (fun s => Rn rom (d + 0) 7 (7, [some (vR 177), some (vI s.1), some (vI s.2.1), some (vI s.2.2)], [], (G0, M)) out) (eI M out))) r) : Rn rom (d + 0) 7 (7, [some (vR 177), some (vI v1), some (vI v2), some (vI v3)], [], (G0, M)) out := by
  have hc : xkall.getD 7 [] = xk_7 := rfl
  unfold f_7_L7b at e
  refine Rn_ms (σ' := (9, [some (vR 177), some (vI v1), some (vI v2), some (vI v3)], [vR 177, vI v3], (G0, M))) hc 2 rfl ?_
  refine Rn_getR hc rfl tgc_177 (by decide) rfl prc_177_0 ?_
  show Rn rom (d + 0) 7 (12, [some (vR 177), some (vI v1), some (vI v2), some (vI v3)], [vR 178, vI v3], (G0, M)) out
  refine Rn_alen hc rfl rfl tgc_178 (by decide) zsc_178 ?_
  show Rn rom (d + 0) 7 (13, [some (vR 177), some (vI v1), some (vI v2), some (vI v3)], [vI 36, vI v3], (G0, M)) out
  refine R_ite e (fun b1 e => ?_) (fun b1 e => ?_)
  · refine Rn_icT (tgt := 41) hc rfl rfl (by decide) b1 ?_
    refine Rn_ms (σ' := (42, [some (vR 177), some (vI v1), some (vI v2), some (vI v3)], [vI v1], (G0, M))) hc 1 rfl ?_
    cases e
    exact R_end (Rn_iret hc rfl rfl (xretI rfl rfl)) hK
  · refine Rn_icF hc rfl rfl (by decide) b1 ?_
    refine Rn_ms (σ' := (17, [some (vR 177), some (vI v1), some (vI v2), some (vI v3)], [vR 177], (G0, M))) hc 1 rfl ?_
    refine Rn_getR hc rfl tgc_177 (by decide) rfl prc_177_0 ?_
    refine Rn_ms (σ' := (21, [some (vR 177), some (vI v1), some (vI v2), some (vI v3)], [vI v3, vR 178], (G0, M))) hc 1 rfl ?_
    refine R_gd e (fun g2 e => ?_)
    refine Rn_iald hc rfl rfl tgc_178 zsc_178 g2 rfl ?_
    refine Rn_ms (σ' := (23, [some (vR 177), some (vI v1), some (vI v2), some (vI v3)], [vI v2, vI (M 178 (wr v3).toNat)], (G0, M))) hc 1 rfl ?_
    refine R_ite e (fun b3 e => ?_) (fun b3 e => ?_)
    · refine Rn_icT (tgt := 35) hc rfl rfl (by decide) b3 ?_
      refine Rn_ms (σ' := (7, [some (vR 177), some (vI v1), some (vI v2), some (vI (v3 + 1))], [], (G0, M))) hc 2 rfl ?_
      cases e
      exact Rn_weak (xle_s (xle_s (xle_s (xle_s xle_0)))) hK
    · refine Rn_icF hc rfl rfl (by decide) b3 ?_
      refine Rn_ms (σ' := (27, [some (vR 177), some (vI v1), some (vI v2), some (vI v3)], [vR 177], (G0, M))) hc 1 rfl ?_
      refine Rn_getR hc rfl tgc_177 (by decide) rfl prc_177_0 ?_
      refine Rn_ms (σ' := (31, [some (vR 177), some (vI v1), some (vI v2), some (vI v3)], [vI v3, vR 178], (G0, M))) hc 1 rfl ?_
      refine R_gd e (fun g4 e => ?_)
      refine Rn_iald hc rfl rfl tgc_178 zsc_178 g4 rfl ?_
      refine Rn_ms (σ' := (7, [some (vR 177), some (vI v3), some (vI (M 178 (wr v3).toNat)), some (vI (v3 + 1))], [], (G0, M))) hc 5 rfl ?_
      cases e
      exact Rn_weak (xle_s (xle_s (xle_s (xle_s xle_0)))) hK
def f_7_L7 (M : xM) (s : Int × Int × Int) : Option (Int) := loop NF (fun s => f_7_L7b M s.1 s.2.1 s.2.2) s
theorem t_7_L7 {rom : xRom} {d : Nat}  {M : xM} {s : Int × Int × Int} {r : Int} {out : Option xV × xH} (e : f_7_L7 M s = some r) (hK : (eI M out) r) : Rn rom (d + 0) 7 (7, [some (vR 177), some (vI s.1), some (vI s.2.1), some (vI s.2.2)], [], (G0, M)) out := by
  unfold f_7_L7 at e
  revert e hK
  exact R_loop (b := fun s => f_7_L7b M s.1 s.2.1 s.2.2) (G := fun s => Rn rom (d + 0) 7 (7, [some (vR 177), some (vI s.1), some (vI s.2.1), some (vI s.2.2)], [], (G0, M)) out) (K := eI M out) (fun s r e hK => t_7_L7b  e hK) NF s r
/-- PedalLayers$Ear.strongestKey -/
def f_7 (M : xM) : Option (Int) :=
  f_7_L7 M ((-4), 0, 0)
theorem t_7 {rom : xRom} {d : Nat} {M : xM}  {r : Int} {out : Option xV × xH} (e : f_7 M = some r) (hK : eI M out r) : Rn rom (d + 0) 7 (0, [some (vR 177), none, none, none], [], (G0, M)) out := by
  have hc : xkall.getD 7 [] = xk_7 := rfl
  unfold f_7 at e
  refine Rn_ms (σ' := (7, [some (vR 177), some (vI (-4)), some (vI 0), some (vI 0)], [], (G0, M))) hc 6 rfl ?_
  exact Rn_weak (xle_s (xle_s (xle_s (xle_s xle_0)))) (t_7_L7  e hK)
def f_62_L4b (M : xM) (a0 : Nat) (c1 : Int) (v2 : Int) (v3 : Int) : Option ((Int × Int) ⊕ (Int)) :=
  if wr c1 ≤ wr v3 then
    some (.inr (v2))
  else
    if (f_57 a0 v3) = 0 then
      some (.inl (v2, (v3 + 1)))
    else
      gd (Tg (f_57 a0 v3) = 3) (
      some (.inl ((xmax v2 (f_29 M ((f_57 a0 v3) + 1))), (v3 + 1)))
      )
theorem t_62_L4b {rom : xRom} {d : Nat} {a0 : Nat} {c1 : Int} {v2 : Int} {v3 : Int} {M : xM} (h0 : Tg a0 = 7) {r : (Int × Int) ⊕ (Int)} {out : Option xV × xH} (e : f_62_L4b M a0 c1 v2 v3 = some r) (hK : ((Sum.elim (fun s => Rn rom (d + 1) 42 (4, [some (vR a0), some (vI c1), some (vI s.1), some (vI s.2), none], [], (G0, M)) out) (eI M out))) r) : Rn rom (d + 1) 42 (4, [some (vR a0), some (vI c1), some (vI v2), some (vI v3), none], [], (G0, M)) out := by
  have hc : xkall.getD 42 [] = xk_42 := rfl
  unfold f_62_L4b at e
  refine Rn_ms (σ' := (6, [some (vR a0), some (vI c1), some (vI v2), some (vI v3), none], [vI c1, vI v3], (G0, M))) hc 2 rfl ?_
  refine R_ite e (fun b1 e => ?_) (fun b1 e => ?_)
  · refine Rn_icT (tgt := 40) hc rfl rfl (by decide) b1 ?_
    refine Rn_ms (σ' := (41, [some (vR a0), some (vI c1), some (vI v2), some (vI v3), none], [vI v2], (G0, M))) hc 1 rfl ?_
    cases e
    exact R_end (Rn_iret hc rfl rfl (xretI rfl rfl)) hK
  · refine Rn_icF hc rfl rfl (by decide) b1 ?_
    refine Rn_ms (σ' := (11, [some (vR a0), some (vI c1), some (vI v2), some (vI v3), none], [vI v3, vR a0], (G0, M))) hc 2 rfl ?_
    refine Rn_cv hc rfl rfl (by decide) (ii := xi_37) rfl rfl rfl (h0 : Tg _ = 7) (by decide) rfl (le := [some (vR a0), some (vI v3)]) rfl (v := some (vR (f_57 a0 v3))) (M' := M) (t_57 h0 (d := d + 0) rfl rfl) ?_
    refine Rn_ms (σ' := (18, [some (vR a0), some (vI c1), some (vI v2), some (vI v3), some (vR (f_57 a0 v3))], [vR (f_57 a0 v3)], (G0, M))) hc 2 rfl ?_
    refine R_ite e (fun b2 e => ?_) (fun b2 e => ?_)
    · refine Rn_nuT (tgt := 34) hc rfl rfl (by decide) b2 ?_
      refine Rn_ms (σ' := (4, [some (vR a0), some (vI c1), some (vI v2), some (vI (v3 + 1)), some (vR (f_57 a0 v3))], [], (G0, M))) hc 2 rfl ?_
      cases e
      exact Rn_weak (xle_s (xle_s (xle_s (xle_s (xle_n xle_0))))) hK
    · refine Rn_nuF hc rfl rfl (by decide) b2 ?_
      refine Rn_ms (σ' := (24, [some (vR a0), some (vI c1), some (vI v2), some (vI v3), some (vR (f_57 a0 v3))], [vR (f_57 a0 v3), vI v2], (G0, M))) hc 2 rfl ?_
      refine R_gd e (fun g3 e => ?_)
      refine Rn_getR hc rfl g3 (by decide) rfl (gP3_0_0 g3) ?_
      show Rn rom (d + 1) 42 (27, [some (vR a0), some (vI c1), some (vI v2), some (vI v3), some (vR (f_57 a0 v3))], [vR ((f_57 a0 v3) + 1), vI v2], (G0, M)) out
      refine Rn_cv hc rfl rfl (by decide) (ii := xi_21) rfl rfl rfl ((gT3_1 g3) : Tg _ = 4) (by decide) rfl (le := [some (vR ((f_57 a0 v3) + 1))]) rfl (v := some (vI (f_29 M ((f_57 a0 v3) + 1)))) (M' := M) (t_29 (gT3_1 g3) (d := d + 0) rfl rfl) ?_
      show Rn rom (d + 1) 42 (30, [some (vR a0), some (vI c1), some (vI v2), some (vI v3), some (vR (f_57 a0 v3))], [vI (f_29 M ((f_57 a0 v3) + 1)), vI v2], (G0, M)) out
      refine Rn_max hc rfl rfl (Nat.le_of_ble_eq_true rfl) ?_
      refine Rn_ms (σ' := (4, [some (vR a0), some (vI c1), some (vI (xmax v2 (f_29 M ((f_57 a0 v3) + 1)))), some (vI (v3 + 1)), some (vR (f_57 a0 v3))], [], (G0, M))) hc 3 rfl ?_
      cases e
      exact Rn_weak (xle_s (xle_s (xle_s (xle_s (xle_n xle_0))))) hK
def f_62_L4 (M : xM) (a0 : Nat) (c1 : Int) (s : Int × Int) : Option (Int) := loop NF (fun s => f_62_L4b M a0 c1 s.1 s.2) s
theorem t_62_L4 {rom : xRom} {d : Nat} {a0 : Nat} {c1 : Int} {M : xM} (h0 : Tg a0 = 7) {s : Int × Int} {r : Int} {out : Option xV × xH} (e : f_62_L4 M a0 c1 s = some r) (hK : (eI M out) r) : Rn rom (d + 1) 42 (4, [some (vR a0), some (vI c1), some (vI s.1), some (vI s.2), none], [], (G0, M)) out := by
  unfold f_62_L4 at e
  revert e hK
  exact R_loop (b := fun s => f_62_L4b M a0 c1 s.1 s.2) (G := fun s => Rn rom (d + 1) 42 (4, [some (vR a0), some (vI c1), some (vI s.1), some (vI s.2), none], [], (G0, M)) out) (K := eI M out) (fun s r e hK => t_62_L4b h0 e hK) NF s r
/-- PedalLayers$Pedal.loopLength -/
def f_62 (M : xM) (a0 : Nat) (a1 : Int) : Option (Int) :=
  f_62_L4 M a0 a1 (0, 0)
theorem t_62 {rom : xRom} {d : Nat} {M : xM} {a0 : Nat} {a1 : Int} (h0 : Tg a0 = 7) {r : Int} {out : Option xV × xH} (e : f_62 M a0 a1 = some r) (hK : eI M out r) : Rn rom (d + 1) 42 (0, [some (vR a0), some (vI a1), none, none, none], [], (G0, M)) out := by
  have hc : xkall.getD 42 [] = xk_42 := rfl
  unfold f_62 at e
  refine Rn_ms (σ' := (4, [some (vR a0), some (vI a1), some (vI 0), some (vI 0), none], [], (G0, M))) hc 4 rfl ?_
  exact Rn_weak (xle_s (xle_s (xle_s (xle_s (xle_s xle_0))))) (t_62_L4 h0 e hK)
def f_8_L12b (a1 : Nat) (c2 : Int) (c4 : Int) (v3 : Int) (v5 : Int) (M : xM) : Option ((Int × Int × xM) ⊕ (Int × xM)) :=
  if wr c4 ≤ wr v5 then
    some (.inr ((v3, M)))
  else
    (f_1 M a1 c2 v5).bind (fun k3 =>
    (f_4 k3).bind (fun k4 =>
    some (.inl ((v3 + k4), (v5 + 1), k3))
    ))
theorem t_8_L12b {rom : xRom} {d : Nat} {a1 : Nat} {c2 : Int} {c4 : Int} {v3 : Int} {v5 : Int} {M : xM} (h1 : Tg a1 = 7) {r : (Int × Int × xM) ⊕ (Int × xM)} {out : Option xV × xH} (e : f_8_L12b a1 c2 c4 v3 v5 M = some r) (hK : ((Sum.elim (fun s => Rn rom (d + 4) 8 (12, [some (vR 177), some (vR a1), some (vI c2), some (vI s.1), some (vI c4), some (vI s.2.1)], [], (G0, s.2.2)) out) (eIW out))) r) : Rn rom (d + 4) 8 (12, [some (vR 177), some (vR a1), some (vI c2), some (vI v3), some (vI c4), some (vI v5)], [], (G0, M)) out := by
  have hc : xkall.getD 8 [] = xk_8 := rfl
  unfold f_8_L12b at e
  refine Rn_ms (σ' := (16, [some (vR 177), some (vR a1), some (vI c2), some (vI v3), some (vI c4), some (vI v5)], [vI c4, vI v5], (G0, M))) hc 2 rfl ?_
  refine R_ite e (fun b2 e => ?_) (fun b2 e => ?_)
  · refine Rn_icT (tgt := 40) hc rfl rfl (by decide) b2 ?_
    refine Rn_ms (σ' := (41, [some (vR 177), some (vR a1), some (vI c2), some (vI v3), some (vI c4), some (vI v5)], [vI v3], (G0, M))) hc 1 rfl ?_
    cases e
    exact R_end (Rn_iret hc rfl rfl (xretI rfl rfl)) hK
  · refine Rn_icF hc rfl rfl (by decide) b2 ?_
    refine Rn_ms (σ' := (24, [some (vR 177), some (vR a1), some (vI c2), some (vI v3), some (vI c4), some (vI v5)], [vI v5, vI c2, vR a1, vR 177], (G0, M))) hc 4 rfl ?_
    refine R_bind e (fun k3 hk3 e => ?_)
    refine Rn_cv hc rfl rfl (by decide) (ii := xi_1) rfl rfl rfl (tgc_177 : Tg _ = 0) (by decide) rfl (le := [some (vR 177), some (vR a1), some (vI c2), some (vI v5), none, none, none, none, none]) rfl (v := none) (M' := k3) (t_1 h1 (d := d + 0) hk3 rfl) ?_
    refine Rn_ms (σ' := (29, [some (vR 177), some (vR a1), some (vI c2), some (vI v3), some (vI c4), some (vI v5)], [vR 177, vI v3], (G0, k3))) hc 2 rfl ?_
    refine R_bind e (fun k4 hk4 e => ?_)
    refine Rn_cv hc rfl rfl (by decide) (ii := xi_4) rfl rfl rfl (tgc_177 : Tg _ = 0) (by decide) rfl (le := [some (vR 177), none, none, none, none, none]) rfl (v := some (vI k4)) (M' := k3) (t_4  (d := d + 3) hk4 rfl) ?_
    refine Rn_ms (σ' := (12, [some (vR 177), some (vR a1), some (vI c2), some (vI (v3 + k4)), some (vI c4), some (vI (v5 + 1))], [], (G0, k3))) hc 4 rfl ?_
    cases e
    exact Rn_weak (xle_s (xle_s (xle_s (xle_s (xle_s (xle_s xle_0)))))) hK
def f_8_L12 (a1 : Nat) (c2 : Int) (c4 : Int) (s : Int × Int × xM) : Option (Int × xM) := loop NF (fun s => f_8_L12b a1 c2 c4 s.1 s.2.1 s.2.2) s
theorem t_8_L12 {rom : xRom} {d : Nat} {a1 : Nat} {c2 : Int} {c4 : Int} (h1 : Tg a1 = 7) {s : Int × Int × xM} {r : Int × xM} {out : Option xV × xH} (e : f_8_L12 a1 c2 c4 s = some r) (hK : (eIW out) r) : Rn rom (d + 4) 8 (12, [some (vR 177), some (vR a1), some (vI c2), some (vI s.1), some (vI c4), some (vI s.2.1)], [], (G0, s.2.2)) out := by
  unfold f_8_L12 at e
  revert e hK
  exact R_loop (b := fun s => f_8_L12b a1 c2 c4 s.1 s.2.1 s.2.2) (G := fun s => Rn rom (d + 4) 8 (12, [some (vR 177), some (vR a1), some (vI c2), some (vI s.1), some (vI c4), some (vI s.2.1)], [], (G0, s.2.2)) out) (K := eIW out) (fun s r e hK => t_8_L12b h1 e hK) NF s r
/-- PedalLayers$Ear.sumOfCells -/
def f_8 (M : xM) (a1 : Nat) (a2 : Int) : Option (Int × xM) :=
  (f_62 M a1 a2).bind (fun k1 =>
  f_8_L12 a1 a2 k1 (0, 0, M)
  )
theorem t_8 {rom : xRom} {d : Nat} {M : xM} {a1 : Nat} {a2 : Int} (h1 : Tg a1 = 7) {r : Int × xM} {out : Option xV × xH} (e : f_8 M a1 a2 = some r) (hK : eIW out r) : Rn rom (d + 4) 8 (0, [some (vR 177), some (vR a1), some (vI a2), none, none, none], [], (G0, M)) out := by
  have hc : xkall.getD 8 [] = xk_8 := rfl
  unfold f_8 at e
  refine Rn_ms (σ' := (4, [some (vR 177), some (vR a1), some (vI a2), some (vI 0), none, none], [vI a2, vR a1], (G0, M))) hc 4 rfl ?_
  refine R_bind e (fun k1 hk1 e => ?_)
  refine Rn_cv hc rfl rfl (by decide) (ii := xi_42) rfl rfl rfl (h1 : Tg _ = 7) (by decide) rfl (le := [some (vR a1), some (vI a2), none, none, none]) rfl (v := some (vI k1)) (M' := M) (t_62 h1 (d := d + 2) hk1 rfl) ?_
  refine Rn_ms (σ' := (12, [some (vR 177), some (vR a1), some (vI a2), some (vI 0), some (vI k1), some (vI 0)], [], (G0, M))) hc 3 rfl ?_
  exact Rn_weak (xle_s (xle_s (xle_s (xle_s (xle_s (xle_s xle_0)))))) (t_8_L12 h1 e hK)
def f_9_L12b (a1 : Nat) (c2 : Int) (c4 : Int) (v3 : Int) (v5 : Int) (M : xM) : Option ((Int × Int × xM) ⊕ (Int × xM)) :=
  if wr c4 ≤ wr v5 then
    some (.inr ((v3, M)))
  else
    (f_1 M a1 c2 v5).bind (fun k3 =>
    (f_4 k3).bind (fun k4 =>
    if wr k4 = 0 then
      some (.inl ((v3 + 1), (v5 + 1), k3))
    else
      some (.inl (v3, (v5 + 1), k3))
    ))
theorem t_9_L12b {rom : xRom} {d : Nat} {a1 : Nat} {c2 : Int} {c4 : Int} {v3 : Int} {v5 : Int} {M : xM} (h1 : Tg a1 = 7) {r : (Int × Int × xM) ⊕ (Int × xM)} {out : Option xV × xH} (e : f_9_L12b a1 c2 c4 v3 v5 M = some r) (hK : ((Sum.elim (fun s => Rn rom (d + 4) 9 (12, [some (vR 177), some (vR a1), some (vI c2), some (vI s.1), some (vI c4), some (vI s.2.1)], [], (G0, s.2.2)) out) (eIW out))) r) : Rn rom (d + 4) 9 (12, [some (vR 177), some (vR a1), some (vI c2), some (vI v3), some (vI c4), some (vI v5)], [], (G0, M)) out := by
  have hc : xkall.getD 9 [] = xk_9 := rfl
  unfold f_9_L12b at e
  refine Rn_ms (σ' := (16, [some (vR 177), some (vR a1), some (vI c2), some (vI v3), some (vI c4), some (vI v5)], [vI c4, vI v5], (G0, M))) hc 2 rfl ?_
  refine R_ite e (fun b2 e => ?_) (fun b2 e => ?_)
  · refine Rn_icT (tgt := 43) hc rfl rfl (by decide) b2 ?_
    refine Rn_ms (σ' := (44, [some (vR 177), some (vR a1), some (vI c2), some (vI v3), some (vI c4), some (vI v5)], [vI v3], (G0, M))) hc 1 rfl ?_
    cases e
    exact R_end (Rn_iret hc rfl rfl (xretI rfl rfl)) hK
  · refine Rn_icF hc rfl rfl (by decide) b2 ?_
    refine Rn_ms (σ' := (24, [some (vR 177), some (vR a1), some (vI c2), some (vI v3), some (vI c4), some (vI v5)], [vI v5, vI c2, vR a1, vR 177], (G0, M))) hc 4 rfl ?_
    refine R_bind e (fun k3 hk3 e => ?_)
    refine Rn_cv hc rfl rfl (by decide) (ii := xi_1) rfl rfl rfl (tgc_177 : Tg _ = 0) (by decide) rfl (le := [some (vR 177), some (vR a1), some (vI c2), some (vI v5), none, none, none, none, none]) rfl (v := none) (M' := k3) (t_1 h1 (d := d + 0) hk3 rfl) ?_
    refine Rn_ms (σ' := (28, [some (vR 177), some (vR a1), some (vI c2), some (vI v3), some (vI c4), some (vI v5)], [vR 177], (G0, k3))) hc 1 rfl ?_
    refine R_bind e (fun k4 hk4 e => ?_)
    refine Rn_cv hc rfl rfl (by decide) (ii := xi_4) rfl rfl rfl (tgc_177 : Tg _ = 0) (by decide) rfl (le := [some (vR 177), none, none, none, none, none]) rfl (v := some (vI k4)) (M' := k3) (t_4  (d := d + 3) hk4 rfl) ?_
    show Rn rom (d + 4) 9 (31, [some (vR 177), some (vR a1), some (vI c2), some (vI v3), some (vI c4), some (vI v5)], [vI k4], (G0, k3)) out
    refine R_ite e (fun b5 e => ?_) (fun b5 e => ?_)
    · refine Rn_ifF hc rfl rfl (by decide) (fun w => w b5) ?_
      refine Rn_ms (σ' := (12, [some (vR 177), some (vR a1), some (vI c2), some (vI (v3 + 1)), some (vI c4), some (vI (v5 + 1))], [], (G0, k3))) hc 3 rfl ?_
      cases e
      exact Rn_weak (xle_s (xle_s (xle_s (xle_s (xle_s (xle_s xle_0)))))) hK
    · refine Rn_ifT (tgt := 37) hc rfl rfl (by decide) (fun w => b5 w) ?_
      refine Rn_ms (σ' := (12, [some (vR 177), some (vR a1), some (vI c2), some (vI v3), some (vI c4), some (vI (v5 + 1))], [], (G0, k3))) hc 2 rfl ?_
      cases e
      exact Rn_weak (xle_s (xle_s (xle_s (xle_s (xle_s (xle_s xle_0)))))) hK
def f_9_L12 (a1 : Nat) (c2 : Int) (c4 : Int) (s : Int × Int × xM) : Option (Int × xM) := loop NF (fun s => f_9_L12b a1 c2 c4 s.1 s.2.1 s.2.2) s
theorem t_9_L12 {rom : xRom} {d : Nat} {a1 : Nat} {c2 : Int} {c4 : Int} (h1 : Tg a1 = 7) {s : Int × Int × xM} {r : Int × xM} {out : Option xV × xH} (e : f_9_L12 a1 c2 c4 s = some r) (hK : (eIW out) r) : Rn rom (d + 4) 9 (12, [some (vR 177), some (vR a1), some (vI c2), some (vI s.1), some (vI c4), some (vI s.2.1)], [], (G0, s.2.2)) out := by
  unfold f_9_L12 at e
  revert e hK
  exact R_loop (b := fun s => f_9_L12b a1 c2 c4 s.1 s.2.1 s.2.2) (G := fun s => Rn rom (d + 4) 9 (12, [some (vR 177), some (vR a1), some (vI c2), some (vI s.1), some (vI c4), some (vI s.2.1)], [], (G0, s.2.2)) out) (K := eIW out) (fun s r e hK => t_9_L12b h1 e hK) NF s r
/-- PedalLayers$Ear.silentCells -/
def f_9 (M : xM) (a1 : Nat) (a2 : Int) : Option (Int × xM) :=
  (f_62 M a1 a2).bind (fun k1 =>
  f_9_L12 a1 a2 k1 (0, 0, M)
  )
theorem t_9 {rom : xRom} {d : Nat} {M : xM} {a1 : Nat} {a2 : Int} (h1 : Tg a1 = 7) {r : Int × xM} {out : Option xV × xH} (e : f_9 M a1 a2 = some r) (hK : eIW out r) : Rn rom (d + 4) 9 (0, [some (vR 177), some (vR a1), some (vI a2), none, none, none], [], (G0, M)) out := by
  have hc : xkall.getD 9 [] = xk_9 := rfl
  unfold f_9 at e
  refine Rn_ms (σ' := (4, [some (vR 177), some (vR a1), some (vI a2), some (vI 0), none, none], [vI a2, vR a1], (G0, M))) hc 4 rfl ?_
  refine R_bind e (fun k1 hk1 e => ?_)
  refine Rn_cv hc rfl rfl (by decide) (ii := xi_42) rfl rfl rfl (h1 : Tg _ = 7) (by decide) rfl (le := [some (vR a1), some (vI a2), none, none, none]) rfl (v := some (vI k1)) (M' := M) (t_62 h1 (d := d + 2) hk1 rfl) ?_
  refine Rn_ms (σ' := (12, [some (vR 177), some (vR a1), some (vI a2), some (vI 0), some (vI k1), some (vI 0)], [], (G0, M))) hc 3 rfl ?_
  exact Rn_weak (xle_s (xle_s (xle_s (xle_s (xle_s (xle_s xle_0)))))) (t_9_L12 h1 e hK)
def f_10_L18b (a1 : Nat) (c4 : Int) (v2 : Int) (v3 : Int) (v5 : Int) (M : xM) : Option ((Int × Int × Int × xM) ⊕ (Int × xM)) :=
  if wr c4 ≤ wr v5 then
    some (.inr ((v2, M)))
  else
    (f_1 M a1 (M a1 5) v5).bind (fun k3 =>
    (f_4 k3).bind (fun k4 =>
    if wr k4 ≤ wr v3 then
      some (.inl (v2, v3, (v5 + 1), k3))
    else
      (f_4 k3).bind (fun k6 =>
      some (.inl (v5, k6, (v5 + 1), k3))
      )
    ))
theorem t_10_L18b {rom : xRom} {d : Nat} {a1 : Nat} {c4 : Int} {v2 : Int} {v3 : Int} {v5 : Int} {M : xM} (h1 : Tg a1 = 7) {r : (Int × Int × Int × xM) ⊕ (Int × xM)} {out : Option xV × xH} (e : f_10_L18b a1 c4 v2 v3 v5 M = some r) (hK : ((Sum.elim (fun s => Rn rom (d + 4) 10 (18, [some (vR 177), some (vR a1), some (vI s.1), some (vI s.2.1), some (vI c4), some (vI s.2.2.1)], [], (G0, s.2.2.2)) out) (eIW out))) r) : Rn rom (d + 4) 10 (18, [some (vR 177), some (vR a1), some (vI v2), some (vI v3), some (vI c4), some (vI v5)], [], (G0, M)) out := by
  have hc : xkall.getD 10 [] = xk_10 := rfl
  unfold f_10_L18b at e
  refine Rn_ms (σ' := (22, [some (vR 177), some (vR a1), some (vI v2), some (vI v3), some (vI c4), some (vI v5)], [vI c4, vI v5], (G0, M))) hc 2 rfl ?_
  refine R_ite e (fun b2 e => ?_) (fun b2 e => ?_)
  · refine Rn_icT (tgt := 58) hc rfl rfl (by decide) b2 ?_
    refine Rn_ms (σ' := (59, [some (vR 177), some (vR a1), some (vI v2), some (vI v3), some (vI c4), some (vI v5)], [vI v2], (G0, M))) hc 1 rfl ?_
    cases e
    exact R_end (Rn_iret hc rfl rfl (xretI rfl rfl)) hK
  · refine Rn_icF hc rfl rfl (by decide) b2 ?_
    refine Rn_ms (σ' := (28, [some (vR 177), some (vR a1), some (vI v2), some (vI v3), some (vI c4), some (vI v5)], [vR a1, vR a1, vR 177], (G0, M))) hc 3 rfl ?_
    refine Rn_getI hc rfl h1 (by decide) (by decide) ?_
    refine Rn_ms (σ' := (33, [some (vR 177), some (vR a1), some (vI v2), some (vI v3), some (vI c4), some (vI v5)], [vI v5, vI (M a1 5), vR a1, vR 177], (G0, M))) hc 1 rfl ?_
    refine R_bind e (fun k3 hk3 e => ?_)
    refine Rn_cv hc rfl rfl (by decide) (ii := xi_1) rfl rfl rfl (tgc_177 : Tg _ = 0) (by decide) rfl (le := [some (vR 177), some (vR a1), some (vI (M a1 5)), some (vI v5), none, none, none, none, none]) rfl (v := none) (M' := k3) (t_1 h1 (d := d + 0) hk3 rfl) ?_
    refine Rn_ms (σ' := (37, [some (vR 177), some (vR a1), some (vI v2), some (vI v3), some (vI c4), some (vI v5)], [vR 177], (G0, k3))) hc 1 rfl ?_
    refine R_bind e (fun k4 hk4 e => ?_)
    refine Rn_cv hc rfl rfl (by decide) (ii := xi_4) rfl rfl rfl (tgc_177 : Tg _ = 0) (by decide) rfl (le := [some (vR 177), none, none, none, none, none]) rfl (v := some (vI k4)) (M' := k3) (t_4  (d := d + 3) hk4 rfl) ?_
    refine Rn_ms (σ' := (41, [some (vR 177), some (vR a1), some (vI v2), some (vI v3), some (vI c4), some (vI v5)], [vI v3, vI k4], (G0, k3))) hc 1 rfl ?_
    refine R_ite e (fun b5 e => ?_) (fun b5 e => ?_)
    · refine Rn_icT (tgt := 52) hc rfl rfl (by decide) b5 ?_
      refine Rn_ms (σ' := (18, [some (vR 177), some (vR a1), some (vI v2), some (vI v3), some (vI c4), some (vI (v5 + 1))], [], (G0, k3))) hc 2 rfl ?_
      cases e
      exact Rn_weak (xle_s (xle_s (xle_s (xle_s (xle_s (xle_s xle_0)))))) hK
    · refine Rn_icF hc rfl rfl (by decide) b5 ?_
      refine Rn_ms (σ' := (45, [some (vR 177), some (vR a1), some (vI v2), some (vI v3), some (vI c4), some (vI v5)], [vR 177], (G0, k3))) hc 1 rfl ?_
      refine R_bind e (fun k6 hk6 e => ?_)
      refine Rn_cv hc rfl rfl (by decide) (ii := xi_4) rfl rfl rfl (tgc_177 : Tg _ = 0) (by decide) rfl (le := [some (vR 177), none, none, none, none, none]) rfl (v := some (vI k6)) (M' := k3) (t_4  (d := d + 3) hk6 rfl) ?_
      refine Rn_ms (σ' := (18, [some (vR 177), some (vR a1), some (vI v5), some (vI k6), some (vI c4), some (vI (v5 + 1))], [], (G0, k3))) hc 5 rfl ?_
      cases e
      exact Rn_weak (xle_s (xle_s (xle_s (xle_s (xle_s (xle_s xle_0)))))) hK
def f_10_L18 (a1 : Nat) (c4 : Int) (s : Int × Int × Int × xM) : Option (Int × xM) := loop NF (fun s => f_10_L18b a1 c4 s.1 s.2.1 s.2.2.1 s.2.2.2) s
theorem t_10_L18 {rom : xRom} {d : Nat} {a1 : Nat} {c4 : Int} (h1 : Tg a1 = 7) {s : Int × Int × Int × xM} {r : Int × xM} {out : Option xV × xH} (e : f_10_L18 a1 c4 s = some r) (hK : (eIW out) r) : Rn rom (d + 4) 10 (18, [some (vR 177), some (vR a1), some (vI s.1), some (vI s.2.1), some (vI c4), some (vI s.2.2.1)], [], (G0, s.2.2.2)) out := by
  unfold f_10_L18 at e
  revert e hK
  exact R_loop (b := fun s => f_10_L18b a1 c4 s.1 s.2.1 s.2.2.1 s.2.2.2) (G := fun s => Rn rom (d + 4) 10 (18, [some (vR 177), some (vR a1), some (vI s.1), some (vI s.2.1), some (vI c4), some (vI s.2.2.1)], [], (G0, s.2.2.2)) out) (K := eIW out) (fun s r e hK => t_10_L18b h1 e hK) NF s r
/-- PedalLayers$Ear.loudestCell -/
def f_10 (M : xM) (a1 : Nat) : Option (Int × xM) :=
  (f_62 M a1 (M a1 5)).bind (fun k1 =>
  f_10_L18 a1 k1 ((-4), 0, 0, M)
  )
theorem t_10 {rom : xRom} {d : Nat} {M : xM} {a1 : Nat} (h1 : Tg a1 = 7) {r : Int × xM} {out : Option xV × xH} (e : f_10 M a1 = some r) (hK : eIW out r) : Rn rom (d + 4) 10 (0, [some (vR 177), some (vR a1), none, none, none, none], [], (G0, M)) out := by
  have hc : xkall.getD 10 [] = xk_10 := rfl
  unfold f_10 at e
  refine Rn_ms (σ' := (7, [some (vR 177), some (vR a1), some (vI (-4)), some (vI 0), none, none], [vR a1, vR a1], (G0, M))) hc 6 rfl ?_
  refine Rn_getI hc rfl h1 (by decide) (by decide) ?_
  show Rn rom (d + 4) 10 (10, [some (vR 177), some (vR a1), some (vI (-4)), some (vI 0), none, none], [vI (M a1 5), vR a1], (G0, M)) out
  refine R_bind e (fun k1 hk1 e => ?_)
  refine Rn_cv hc rfl rfl (by decide) (ii := xi_42) rfl rfl rfl (h1 : Tg _ = 7) (by decide) rfl (le := [some (vR a1), some (vI (M a1 5)), none, none, none]) rfl (v := some (vI k1)) (M' := M) (t_62 h1 (d := d + 2) hk1 rfl) ?_
  refine Rn_ms (σ' := (18, [some (vR 177), some (vR a1), some (vI (-4)), some (vI 0), some (vI k1), some (vI 0)], [], (G0, M))) hc 3 rfl ?_
  exact Rn_weak (xle_s (xle_s (xle_s (xle_s (xle_s (xle_s xle_0)))))) (t_10_L18 h1 e hK)
/-- PedalLayers$History.size -/
def f_21 (M : xM) : Int :=
  (M 50 2)
theorem t_21 {rom : xRom} {d : Nat} {M : xM}  {r : Int} {out : Option xV × xH} (e : f_21 M = r) (hK : eI M out r) : Rn rom (d + 0) 13 (0, [some (vR 50)], [], (G0, M)) out := by
  have hc : xkall.getD 13 [] = xk_13 := rfl
  unfold f_21 at e
  refine Rn_ms (σ' := (1, [some (vR 50)], [vR 50], (G0, M))) hc 1 rfl ?_
  refine Rn_getI hc rfl tgc_50 (by decide) (by decide) ?_
  show Rn rom (d + 0) 13 (4, [some (vR 50)], [vI (M 50 2)], (G0, M)) out
  cases e
  exact R_end (Rn_iret hc rfl rfl (xretI rfl rfl)) hK
/-- PedalLayers$History.stateAt -/
def f_22 (M : xM) (a1 : Int) : Nat :=
  if wr (f_134 ((M 50 1) + a1) 5) < 0 then
    0
  else
    if 5 ≤ wr (f_134 ((M 50 1) + a1) 5) then
      0
    else
      (52 + 24 * ((wr (f_134 ((M 50 1) + a1) 5)).toNat))
theorem t_22 {rom : xRom} {d : Nat} {M : xM} {a1 : Int} {r : Nat} {out : Option xV × xH} (e : f_22 M a1 = r) (hK : eR M out r) : Rn rom (d + 1) 14 (0, [some (vR 50), some (vI a1), none], [], (G0, M)) out := by
  have hc : xkall.getD 14 [] = xk_14 := rfl
  unfold f_22 at e
  refine Rn_ms (σ' := (1, [some (vR 50), some (vI a1), none], [vR 50], (G0, M))) hc 1 rfl ?_
  refine Rn_getI hc rfl tgc_50 (by decide) (by decide) ?_
  refine Rn_ms (σ' := (7, [some (vR 50), some (vI a1), none], [vR 50, vI ((M 50 1) + a1)], (G0, M))) hc 3 rfl ?_
  refine Rn_getR hc rfl tgc_50 (by decide) rfl prc_50_0 ?_
  show Rn rom (d + 1) 14 (10, [some (vR 50), some (vI a1), none], [vR 51, vI ((M 50 1) + a1)], (G0, M)) out
  refine Rn_alen hc rfl rfl tgc_51 (by decide) zsc_51 ?_
  show Rn rom (d + 1) 14 (11, [some (vR 50), some (vI a1), none], [vI 5, vI ((M 50 1) + a1)], (G0, M)) out
  refine Rn_cs hc rfl rfl (by decide) (ii := xi_103) rfl rfl rfl (le := [some (vI ((M 50 1) + a1)), some (vI 5)]) rfl (v := some (vI (f_134 ((M 50 1) + a1) 5))) (M' := M) (t_134  (d := d + 0) rfl rfl) ?_
  refine Rn_ms (σ' := (16, [some (vR 50), some (vI a1), some (vI (f_134 ((M 50 1) + a1) 5))], [vI (f_134 ((M 50 1) + a1) 5)], (G0, M))) hc 2 rfl ?_
  refine R_ite e (fun b1 e => ?_) (fun b1 e => ?_)
  · refine Rn_ifT (tgt := 37) hc rfl rfl (by decide) b1 ?_
    refine Rn_ms (σ' := (38, [some (vR 50), some (vI a1), some (vI (f_134 ((M 50 1) + a1) 5))], [vR 0], (G0, M))) hc 1 rfl ?_
    cases e
    exact R_end (Rn_aret hc rfl rfl rfl rfl) hK
  · refine Rn_ifF hc rfl rfl (by decide) b1 ?_
    refine Rn_ms (σ' := (21, [some (vR 50), some (vI a1), some (vI (f_134 ((M 50 1) + a1) 5))], [vR 50, vI (f_134 ((M 50 1) + a1) 5)], (G0, M))) hc 2 rfl ?_
    refine Rn_getR hc rfl tgc_50 (by decide) rfl prc_50_0 ?_
    show Rn rom (d + 1) 14 (24, [some (vR 50), some (vI a1), some (vI (f_134 ((M 50 1) + a1) 5))], [vR 51, vI (f_134 ((M 50 1) + a1) 5)], (G0, M)) out
    refine Rn_alen hc rfl rfl tgc_51 (by decide) zsc_51 ?_
    show Rn rom (d + 1) 14 (25, [some (vR 50), some (vI a1), some (vI (f_134 ((M 50 1) + a1) 5))], [vI 5, vI (f_134 ((M 50 1) + a1) 5)], (G0, M)) out
    refine R_ite e (fun b2 e => ?_) (fun b2 e => ?_)
    · refine Rn_icT (tgt := 37) hc rfl rfl (by decide) b2 ?_
      refine Rn_ms (σ' := (38, [some (vR 50), some (vI a1), some (vI (f_134 ((M 50 1) + a1) 5))], [vR 0], (G0, M))) hc 1 rfl ?_
      cases e
      exact R_end (Rn_aret hc rfl rfl rfl rfl) hK
    · refine Rn_icF hc rfl rfl (by decide) b2 ?_
      refine Rn_ms (σ' := (29, [some (vR 50), some (vI a1), some (vI (f_134 ((M 50 1) + a1) 5))], [vR 50], (G0, M))) hc 1 rfl ?_
      refine Rn_getR hc rfl tgc_50 (by decide) rfl prc_50_0 ?_
      refine Rn_ms (σ' := (33, [some (vR 50), some (vI a1), some (vI (f_134 ((M 50 1) + a1) 5))], [vI (f_134 ((M 50 1) + a1) 5), vR 51], (G0, M))) hc 1 rfl ?_
      refine Rn_aald' (gE51 _ (by omega)) hc rfl rfl (Or.inl tgc_51) zsc_51 (by omega) rfl ?_
      refine Rn_ms (σ' := (38, [some (vR 50), some (vI a1), some (vI (f_134 ((M 50 1) + a1) 5))], [vR (52 + 24 * ((wr (f_134 ((M 50 1) + a1) 5)).toNat))], (G0, M))) hc 1 rfl ?_
      cases e
      exact R_end (Rn_aret hc rfl rfl rfl rfl) hK
/-- PedalLayers$Pedal.setting -/
def f_59 (M : xM) (a0 : Nat) (a1 : Int) : Int :=
  if wr a1 < 0 then
    0
  else
    if 3 ≤ wr a1 then
      0
    else
      (M (a0 + 1) (wr a1).toNat)
theorem t_59 {rom : xRom} {d : Nat} {M : xM} {a0 : Nat} {a1 : Int} (h0 : Tg a0 = 7) {r : Int} {out : Option xV × xH} (e : f_59 M a0 a1 = r) (hK : eI M out r) : Rn rom (d + 0) 39 (0, [some (vR a0), some (vI a1)], [], (G0, M)) out := by
  have hc : xkall.getD 39 [] = xk_39 := rfl
  unfold f_59 at e
  refine Rn_ms (σ' := (1, [some (vR a0), some (vI a1)], [vI a1], (G0, M))) hc 1 rfl ?_
  refine R_ite e (fun b1 e => ?_) (fun b1 e => ?_)
  · refine Rn_ifT (tgt := 22) hc rfl rfl (by decide) b1 ?_
    refine Rn_ms (σ' := (23, [some (vR a0), some (vI a1)], [vI 0], (G0, M))) hc 1 rfl ?_
    cases e
    exact R_end (Rn_iret hc rfl rfl (xretI rfl rfl)) hK
  · refine Rn_ifF hc rfl rfl (by decide) b1 ?_
    refine Rn_ms (σ' := (6, [some (vR a0), some (vI a1)], [vR a0, vI a1], (G0, M))) hc 2 rfl ?_
    refine Rn_getR hc rfl h0 (by decide) rfl (gP7_0_0 h0) ?_
    show Rn rom (d + 0) 39 (9, [some (vR a0), some (vI a1)], [vR (a0 + 1), vI a1], (G0, M)) out
    refine Rn_alen hc rfl rfl (gT7_1 h0) (by decide) (gZ7_1 h0) ?_
    show Rn rom (d + 0) 39 (10, [some (vR a0), some (vI a1)], [vI 3, vI a1], (G0, M)) out
    refine R_ite e (fun b2 e => ?_) (fun b2 e => ?_)
    · refine Rn_icT (tgt := 22) hc rfl rfl (by decide) b2 ?_
      refine Rn_ms (σ' := (23, [some (vR a0), some (vI a1)], [vI 0], (G0, M))) hc 1 rfl ?_
      cases e
      exact R_end (Rn_iret hc rfl rfl (xretI rfl rfl)) hK
    · refine Rn_icF hc rfl rfl (by decide) b2 ?_
      refine Rn_ms (σ' := (14, [some (vR a0), some (vI a1)], [vR a0], (G0, M))) hc 1 rfl ?_
      refine Rn_getR hc rfl h0 (by decide) rfl (gP7_0_0 h0) ?_
      refine Rn_ms (σ' := (18, [some (vR a0), some (vI a1)], [vI a1, vR (a0 + 1)], (G0, M))) hc 1 rfl ?_
      refine Rn_iald hc rfl rfl (gT7_1 h0) (gZ7_1 h0) (by omega) rfl ?_
      refine Rn_ms (σ' := (23, [some (vR a0), some (vI a1)], [vI (M (a0 + 1) (wr a1).toNat)], (G0, M))) hc 1 rfl ?_
      cases e
      exact R_end (Rn_iret hc rfl rfl (xretI rfl rfl)) hK
/-- PedalLayers$Pedal.takeRuns -/
def f_60 (M : xM) (a0 : Nat) : Int :=
  if wr (M a0 4) = 1 then
    1
  else
    if wr (M a0 4) = 3 then
      1
    else
      0
theorem t_60 {rom : xRom} {d : Nat} {M : xM} {a0 : Nat} (h0 : Tg a0 = 7) {r : Int} {out : Option xV × xH} (e : f_60 M a0 = r) (hK : eI M out r) : Rn rom (d + 0) 40 (0, [some (vR a0)], [], (G0, M)) out := by
  have hc : xkall.getD 40 [] = xk_40 := rfl
  unfold f_60 at e
  refine Rn_ms (σ' := (1, [some (vR a0)], [vR a0], (G0, M))) hc 1 rfl ?_
  refine Rn_getI hc rfl h0 (by decide) (by decide) ?_
  refine Rn_ms (σ' := (5, [some (vR a0)], [vI 1, vI (M a0 4)], (G0, M))) hc 1 rfl ?_
  refine R_ite e (fun b1 e => ?_) (fun b1 e => ?_)
  · refine Rn_icT (tgt := 16) hc rfl rfl (by decide) b1 ?_
    refine Rn_ms (σ' := (21, [some (vR a0)], [vI 1], (G0, M))) hc 2 rfl ?_
    cases e
    exact R_end (Rn_iret hc rfl rfl (xretB rfl rfl (by decide))) hK
  · refine Rn_icF hc rfl rfl (by decide) b1 ?_
    refine Rn_ms (σ' := (9, [some (vR a0)], [vR a0], (G0, M))) hc 1 rfl ?_
    refine Rn_getI hc rfl h0 (by decide) (by decide) ?_
    refine Rn_ms (σ' := (13, [some (vR a0)], [vI 3, vI (M a0 4)], (G0, M))) hc 1 rfl ?_
    refine R_ite e (fun b2 e => ?_) (fun b2 e => ?_)
    · refine Rn_icF hc rfl rfl (by decide) (fun w => w b2) ?_
      refine Rn_ms (σ' := (21, [some (vR a0)], [vI 1], (G0, M))) hc 2 rfl ?_
      cases e
      exact R_end (Rn_iret hc rfl rfl (xretB rfl rfl (by decide))) hK
    · refine Rn_icT (tgt := 20) hc rfl rfl (by decide) (fun w => b2 w) ?_
      refine Rn_ms (σ' := (21, [some (vR a0)], [vI 0], (G0, M))) hc 1 rfl ?_
      cases e
      exact R_end (Rn_iret hc rfl rfl (xretB rfl rfl (by decide))) hK
/-- PedalLayers$Notes.copyFrom -/
def f_33 (M : xM) (a0 : Nat) (a1 : Nat) (a2 : Int) : Option (xM) :=
  if wr (a2 * 36) < 0 then
    some (M)
  else
    if 1728 < wr (a2 * 36) then
      some (M)
    else
      if 1728 < wr (a2 * 36) then
        some (M)
      else
        gd (0 ≤ wr (a2 * 36) ∧ wr (a2 * 36) ≤ 1728 ∧ wr (a2 * 36) ≤ 1728) (
        bnd (xrow M (a0 + 1) (xcpy (M (a1 + 1)) (M (a0 + 1)) 0 0 (wr (a2 * 36)).toNat)) (fun M5 =>
        bnd (xset M5 a0 1 a2) (fun M6 =>
        some (M6)
        )))
theorem t_33 {rom : xRom} {d : Nat} {M : xM} {a0 : Nat} {a1 : Nat} {a2 : Int} (h0 : Tg a0 = 4) (h1 : Tg a1 = 4) {r : xM} {out : Option xV × xH} (e : f_33 M a0 a1 a2 = some r) (hK : eVW out r) : Rn rom (d + 1) 25 (0, [some (vR a0), some (vR a1), some (vI a2), none], [], (G0, M)) out := by
  have hc : xkall.getD 25 [] = xk_25 := rfl
  unfold f_33 at e
  refine Rn_ms (σ' := (6, [some (vR a0), some (vR a1), some (vI a2), some (vI (a2 * 36))], [vI (a2 * 36)], (G0, M))) hc 5 rfl ?_
  refine R_ite e (fun b1 e => ?_) (fun b1 e => ?_)
  · refine Rn_ifT (tgt := 46) hc rfl rfl (by decide) b1 ?_
    show Rn rom (d + 1) 25 (46, [some (vR a0), some (vR a1), some (vI a2), some (vI (a2 * 36))], [], (G0, M)) out
    cases e
    exact R_end (Rn_vret hc rfl rfl rfl rfl) hK
  · refine Rn_ifF hc rfl rfl (by decide) b1 ?_
    refine Rn_ms (σ' := (11, [some (vR a0), some (vR a1), some (vI a2), some (vI (a2 * 36))], [vR a1, vI (a2 * 36)], (G0, M))) hc 2 rfl ?_
    refine Rn_getR hc rfl h1 (by decide) rfl (gP4_0_0 h1) ?_
    show Rn rom (d + 1) 25 (14, [some (vR a0), some (vR a1), some (vI a2), some (vI (a2 * 36))], [vR (a1 + 1), vI (a2 * 36)], (G0, M)) out
    refine Rn_alen hc rfl rfl (gT4_1 h1) (by decide) (gZ4_1 h1) ?_
    show Rn rom (d + 1) 25 (15, [some (vR a0), some (vR a1), some (vI a2), some (vI (a2 * 36))], [vI 1728, vI (a2 * 36)], (G0, M)) out
    refine R_ite e (fun b2 e => ?_) (fun b2 e => ?_)
    · refine Rn_icT (tgt := 46) hc rfl rfl (by decide) b2 ?_
      show Rn rom (d + 1) 25 (46, [some (vR a0), some (vR a1), some (vI a2), some (vI (a2 * 36))], [], (G0, M)) out
      cases e
      exact R_end (Rn_vret hc rfl rfl rfl rfl) hK
    · refine Rn_icF hc rfl rfl (by decide) b2 ?_
      refine Rn_ms (σ' := (20, [some (vR a0), some (vR a1), some (vI a2), some (vI (a2 * 36))], [vR a0, vI (a2 * 36)], (G0, M))) hc 2 rfl ?_
      refine Rn_getR hc rfl h0 (by decide) rfl (gP4_0_0 h0) ?_
      show Rn rom (d + 1) 25 (23, [some (vR a0), some (vR a1), some (vI a2), some (vI (a2 * 36))], [vR (a0 + 1), vI (a2 * 36)], (G0, M)) out
      refine Rn_alen hc rfl rfl (gT4_1 h0) (by decide) (gZ4_1 h0) ?_
      show Rn rom (d + 1) 25 (24, [some (vR a0), some (vR a1), some (vI a2), some (vI (a2 * 36))], [vI 1728, vI (a2 * 36)], (G0, M)) out
      refine R_ite e (fun b3 e => ?_) (fun b3 e => ?_)
      · refine Rn_icT (tgt := 46) hc rfl rfl (by decide) b3 ?_
        show Rn rom (d + 1) 25 (46, [some (vR a0), some (vR a1), some (vI a2), some (vI (a2 * 36))], [], (G0, M)) out
        cases e
        exact R_end (Rn_vret hc rfl rfl rfl rfl) hK
      · refine Rn_icF hc rfl rfl (by decide) b3 ?_
        refine Rn_ms (σ' := (28, [some (vR a0), some (vR a1), some (vI a2), some (vI (a2 * 36))], [vR a1], (G0, M))) hc 1 rfl ?_
        refine Rn_getR hc rfl h1 (by decide) rfl (gP4_0_0 h1) ?_
        refine Rn_ms (σ' := (33, [some (vR a0), some (vR a1), some (vI a2), some (vI (a2 * 36))], [vR a0, vI 0, vR (a1 + 1)], (G0, M))) hc 2 rfl ?_
        refine Rn_getR hc rfl h0 (by decide) rfl (gP4_0_0 h0) ?_
        refine Rn_ms (σ' := (38, [some (vR a0), some (vR a1), some (vI a2), some (vI (a2 * 36))], [vI (a2 * 36), vI 0, vR (a0 + 1), vI 0, vR (a1 + 1)], (G0, M))) hc 2 rfl ?_
        refine R_gd e (fun g4 e => ?_)
        refine R_bnd e (fun M5 hM5 e => ?_)
        refine Rn_copy' hM5 hc rfl rfl (gT4_1 h0) (gT4_1 h1) (gZ4_1 h0) (gZ4_1 h1) g4 (Nat.le_of_ble_eq_true rfl) ?_
        refine Rn_ms (σ' := (43, [some (vR a0), some (vR a1), some (vI a2), some (vI (a2 * 36))], [vI a2, vR a0], (G0, M5))) hc 2 rfl ?_
        refine R_bnd e (fun M6 hM6 e => ?_)
        refine Rn_putI' hM6 hc rfl h0 (by decide) (Or.inl rfl) ?_
        show Rn rom (d + 1) 25 (46, [some (vR a0), some (vR a1), some (vI a2), some (vI (a2 * 36))], [], (G0, M6)) out
        cases e
        exact R_end (Rn_vret hc rfl rfl rfl rfl) hK
/-- PedalLayers$Take.copyFrom -/
def f_91 (M : xM) (a0 : Nat) (a1 : Nat) : Option (xM) :=
  (f_33 M (a0 + 1) (a1 + 1) (f_29 M (a1 + 1))).bind (fun k1 =>
  bnd (xset k1 a0 1 (k1 a1 1)) (fun M2 =>
  bnd (xset M2 a0 2 (M2 a1 2)) (fun M3 =>
  some (M3)
  )))
theorem t_91 {rom : xRom} {d : Nat} {M : xM} {a0 : Nat} {a1 : Nat} (h0 : Tg a0 = 8) (h1 : Tg a1 = 8) {r : xM} {out : Option xV × xH} (e : f_91 M a0 a1 = some r) (hK : eVW out r) : Rn rom (d + 2) 71 (0, [some (vR a0), some (vR a1)], [], (G0, M)) out := by
  have hc : xkall.getD 71 [] = xk_71 := rfl
  unfold f_91 at e
  refine Rn_ms (σ' := (1, [some (vR a0), some (vR a1)], [vR a0], (G0, M))) hc 1 rfl ?_
  refine Rn_getR hc rfl h0 (by decide) rfl (gP8_0_0 h0) ?_
  refine Rn_ms (σ' := (5, [some (vR a0), some (vR a1)], [vR a1, vR (a0 + 1)], (G0, M))) hc 1 rfl ?_
  refine Rn_getR hc rfl h1 (by decide) rfl (gP8_0_0 h1) ?_
  refine Rn_ms (σ' := (9, [some (vR a0), some (vR a1)], [vR a1, vR (a1 + 1), vR (a0 + 1)], (G0, M))) hc 1 rfl ?_
  refine Rn_getR hc rfl h1 (by decide) rfl (gP8_0_0 h1) ?_
  show Rn rom (d + 2) 71 (12, [some (vR a0), some (vR a1)], [vR (a1 + 1), vR (a1 + 1), vR (a0 + 1)], (G0, M)) out
  refine Rn_cv hc rfl rfl (by decide) (ii := xi_21) rfl rfl rfl ((gT8_1 h1) : Tg _ = 4) (by decide) rfl (le := [some (vR (a1 + 1))]) rfl (v := some (vI (f_29 M (a1 + 1)))) (M' := M) (t_29 (gT8_1 h1) (d := d + 1) rfl rfl) ?_
  show Rn rom (d + 2) 71 (15, [some (vR a0), some (vR a1)], [vI (f_29 M (a1 + 1)), vR (a1 + 1), vR (a0 + 1)], (G0, M)) out
  refine R_bind e (fun k1 hk1 e => ?_)
  refine Rn_cv hc rfl rfl (by decide) (ii := xi_25) rfl rfl rfl ((gT8_1 h0) : Tg _ = 4) (by decide) rfl (le := [some (vR (a0 + 1)), some (vR (a1 + 1)), some (vI (f_29 M (a1 + 1))), none]) rfl (v := none) (M' := k1) (t_33 (gT8_1 h0) (gT8_1 h1) (d := d + 0) hk1 rfl) ?_
  refine Rn_ms (σ' := (20, [some (vR a0), some (vR a1)], [vR a1, vR a0], (G0, k1))) hc 2 rfl ?_
  refine Rn_getI hc rfl h1 (by decide) (by decide) ?_
  show Rn rom (d + 2) 71 (23, [some (vR a0), some (vR a1)], [vI (k1 a1 1), vR a0], (G0, k1)) out
  refine R_bnd e (fun M2 hM2 e => ?_)
  refine Rn_putI' hM2 hc rfl h0 (by decide) (Or.inl rfl) ?_
  refine Rn_ms (σ' := (28, [some (vR a0), some (vR a1)], [vR a1, vR a0], (G0, M2))) hc 2 rfl ?_
  refine Rn_getI hc rfl h1 (by decide) (by decide) ?_
  show Rn rom (d + 2) 71 (31, [some (vR a0), some (vR a1)], [vI (M2 a1 2), vR a0], (G0, M2)) out
  refine R_bnd e (fun M3 hM3 e => ?_)
  refine Rn_putI' hM3 hc rfl h0 (by decide) (Or.inl rfl) ?_
  show Rn rom (d + 2) 71 (34, [some (vR a0), some (vR a1)], [], (G0, M3)) out
  cases e
  exact R_end (Rn_vret hc rfl rfl rfl rfl) hK
/-- PedalLayers$Layer.copyFrom -/
def f_27 (M : xM) (a0 : Nat) (a1 : Nat) : Option (xM) :=
  (f_33 M (a0 + 1) (a1 + 1) (f_29 M (a1 + 1))).bind (fun k1 =>
  gd (wr (k1 a1 1) = 0 ∨ wr (k1 a1 1) = 1) (
  bnd (xset k1 a0 1 (k1 a1 1)) (fun M3 =>
  bnd (xset M3 a0 2 (M3 a1 2)) (fun M4 =>
  some (M4)
  ))))
theorem t_27 {rom : xRom} {d : Nat} {M : xM} {a0 : Nat} {a1 : Nat} (h0 : Tg a0 = 3) (h1 : Tg a1 = 3) {r : xM} {out : Option xV × xH} (e : f_27 M a0 a1 = some r) (hK : eVW out r) : Rn rom (d + 2) 19 (0, [some (vR a0), some (vR a1)], [], (G0, M)) out := by
  have hc : xkall.getD 19 [] = xk_19 := rfl
  unfold f_27 at e
  refine Rn_ms (σ' := (1, [some (vR a0), some (vR a1)], [vR a0], (G0, M))) hc 1 rfl ?_
  refine Rn_getR hc rfl h0 (by decide) rfl (gP3_0_0 h0) ?_
  refine Rn_ms (σ' := (5, [some (vR a0), some (vR a1)], [vR a1, vR (a0 + 1)], (G0, M))) hc 1 rfl ?_
  refine Rn_getR hc rfl h1 (by decide) rfl (gP3_0_0 h1) ?_
  refine Rn_ms (σ' := (9, [some (vR a0), some (vR a1)], [vR a1, vR (a1 + 1), vR (a0 + 1)], (G0, M))) hc 1 rfl ?_
  refine Rn_getR hc rfl h1 (by decide) rfl (gP3_0_0 h1) ?_
  show Rn rom (d + 2) 19 (12, [some (vR a0), some (vR a1)], [vR (a1 + 1), vR (a1 + 1), vR (a0 + 1)], (G0, M)) out
  refine Rn_cv hc rfl rfl (by decide) (ii := xi_21) rfl rfl rfl ((gT3_1 h1) : Tg _ = 4) (by decide) rfl (le := [some (vR (a1 + 1))]) rfl (v := some (vI (f_29 M (a1 + 1)))) (M' := M) (t_29 (gT3_1 h1) (d := d + 1) rfl rfl) ?_
  show Rn rom (d + 2) 19 (15, [some (vR a0), some (vR a1)], [vI (f_29 M (a1 + 1)), vR (a1 + 1), vR (a0 + 1)], (G0, M)) out
  refine R_bind e (fun k1 hk1 e => ?_)
  refine Rn_cv hc rfl rfl (by decide) (ii := xi_25) rfl rfl rfl ((gT3_1 h0) : Tg _ = 4) (by decide) rfl (le := [some (vR (a0 + 1)), some (vR (a1 + 1)), some (vI (f_29 M (a1 + 1))), none]) rfl (v := none) (M' := k1) (t_33 (gT3_1 h0) (gT3_1 h1) (d := d + 0) hk1 rfl) ?_
  refine Rn_ms (σ' := (20, [some (vR a0), some (vR a1)], [vR a1, vR a0], (G0, k1))) hc 2 rfl ?_
  refine Rn_getI hc rfl h1 (by decide) (by decide) ?_
  show Rn rom (d + 2) 19 (23, [some (vR a0), some (vR a1)], [vI (k1 a1 1), vR a0], (G0, k1)) out
  refine R_gd e (fun g2 e => ?_)
  refine R_bnd e (fun M3 hM3 e => ?_)
  refine Rn_putI' hM3 hc rfl h0 (by decide) (Or.inr ⟨rfl, g2⟩) ?_
  refine Rn_ms (σ' := (28, [some (vR a0), some (vR a1)], [vR a1, vR a0], (G0, M3))) hc 2 rfl ?_
  refine Rn_getI hc rfl h1 (by decide) (by decide) ?_
  show Rn rom (d + 2) 19 (31, [some (vR a0), some (vR a1)], [vI (M3 a1 2), vR a0], (G0, M3)) out
  refine R_bnd e (fun M4 hM4 e => ?_)
  refine Rn_putI' hM4 hc rfl h0 (by decide) (Or.inl rfl) ?_
  show Rn rom (d + 2) 19 (34, [some (vR a0), some (vR a1)], [], (G0, M4)) out
  cases e
  exact R_end (Rn_vret hc rfl rfl rfl rfl) hK
/-- PedalLayers$Pedal.copyLayer -/
def f_56 (M : xM) (a0 : Nat) (a1 : Nat) : Option (xM) :=
  if a0 = 0 then
    some (M)
  else
    if a1 = 0 then
      some (M)
    else
      gd (Tg a0 = 3) (
      gd (Tg a1 = 3) (
      (f_27 M a0 a1).bind (fun k5 =>
      some (k5)
      )))
theorem t_56 {rom : xRom} {d : Nat} {M : xM} {a0 : Nat} {a1 : Nat} {r : xM} {out : Option xV × xH} (e : f_56 M a0 a1 = some r) (hK : eVW out r) : Rn rom (d + 3) 36 (0, [some (vR a0), some (vR a1)], [], (G0, M)) out := by
  have hc : xkall.getD 36 [] = xk_36 := rfl
  unfold f_56 at e
  refine Rn_ms (σ' := (1, [some (vR a0), some (vR a1)], [vR a0], (G0, M))) hc 1 rfl ?_
  refine R_ite e (fun b1 e => ?_) (fun b1 e => ?_)
  · refine Rn_nuT (tgt := 13) hc rfl rfl (by decide) b1 ?_
    show Rn rom (d + 3) 36 (13, [some (vR a0), some (vR a1)], [], (G0, M)) out
    cases e
    exact R_end (Rn_vret hc rfl rfl rfl rfl) hK
  · refine Rn_nuF hc rfl rfl (by decide) b1 ?_
    refine Rn_ms (σ' := (5, [some (vR a0), some (vR a1)], [vR a1], (G0, M))) hc 1 rfl ?_
    refine R_ite e (fun b2 e => ?_) (fun b2 e => ?_)
    · refine Rn_nuT (tgt := 13) hc rfl rfl (by decide) b2 ?_
      show Rn rom (d + 3) 36 (13, [some (vR a0), some (vR a1)], [], (G0, M)) out
      cases e
      exact R_end (Rn_vret hc rfl rfl rfl rfl) hK
    · refine Rn_nuF hc rfl rfl (by decide) b2 ?_
      refine Rn_ms (σ' := (10, [some (vR a0), some (vR a1)], [vR a1, vR a0], (G0, M))) hc 2 rfl ?_
      refine R_gd e (fun g3 e => ?_)
      refine R_gd e (fun g4 e => ?_)
      refine R_bind e (fun k5 hk5 e => ?_)
      refine Rn_cv hc rfl rfl (by decide) (ii := xi_19) rfl rfl rfl (g3 : Tg _ = 3) (by decide) rfl (le := [some (vR a0), some (vR a1)]) rfl (v := none) (M' := k5) (t_27 g3 g4 (d := d + 0) hk5 rfl) ?_
      show Rn rom (d + 3) 36 (13, [some (vR a0), some (vR a1)], [], (G0, k5)) out
      cases e
      exact R_end (Rn_vret hc rfl rfl rfl rfl) hK
def f_55_L112b (a0 : Nat) (a1 : Nat) (v2 : Int) (M : xM) : Option ((Int × xM) ⊕ (xM)) :=
  if wr ((M a0 5) + (M a0 6)) ≤ wr v2 then
    some (.inr (M))
  else
    (f_56 M (f_57 a0 v2) (f_57 a1 v2)).bind (fun k13 =>
    some (.inl ((v2 + 1), k13))
    )
theorem t_55_L112b {rom : xRom} {d : Nat} {a0 : Nat} {a1 : Nat} {v2 : Int} {M : xM} (h0 : Tg a0 = 7) (h1 : Tg a1 = 7) {r : (Int × xM) ⊕ (xM)} {out : Option xV × xH} (e : f_55_L112b a0 a1 v2 M = some r) (hK : ((Sum.elim (fun s => Rn rom (d + 4) 35 (112, [some (vR a0), some (vR a1), some (vI s.1)], [], (G0, s.2)) out) (eVW out))) r) : Rn rom (d + 4) 35 (112, [some (vR a0), some (vR a1), some (vI v2)], [], (G0, M)) out := by
  have hc : xkall.getD 35 [] = xk_35 := rfl
  unfold f_55_L112b at e
  refine Rn_ms (σ' := (114, [some (vR a0), some (vR a1), some (vI v2)], [vR a0, vI v2], (G0, M))) hc 2 rfl ?_
  refine Rn_getI hc rfl h0 (by decide) (by decide) ?_
  refine Rn_ms (σ' := (118, [some (vR a0), some (vR a1), some (vI v2)], [vR a0, vI (M a0 5), vI v2], (G0, M))) hc 1 rfl ?_
  refine Rn_getI hc rfl h0 (by decide) (by decide) ?_
  refine Rn_ms (σ' := (122, [some (vR a0), some (vR a1), some (vI v2)], [vI ((M a0 5) + (M a0 6)), vI v2], (G0, M))) hc 1 rfl ?_
  refine R_ite e (fun b12 e => ?_) (fun b12 e => ?_)
  · refine Rn_icT (tgt := 144) hc rfl rfl (by decide) b12 ?_
    show Rn rom (d + 4) 35 (144, [some (vR a0), some (vR a1), some (vI v2)], [], (G0, M)) out
    cases e
    exact R_end (Rn_vret hc rfl rfl rfl rfl) hK
  · refine Rn_icF hc rfl rfl (by decide) b12 ?_
    refine Rn_ms (σ' := (127, [some (vR a0), some (vR a1), some (vI v2)], [vI v2, vR a0], (G0, M))) hc 2 rfl ?_
    refine Rn_cv hc rfl rfl (by decide) (ii := xi_37) rfl rfl rfl (h0 : Tg _ = 7) (by decide) rfl (le := [some (vR a0), some (vI v2)]) rfl (v := some (vR (f_57 a0 v2))) (M' := M) (t_57 h0 (d := d + 3) rfl rfl) ?_
    refine Rn_ms (σ' := (132, [some (vR a0), some (vR a1), some (vI v2)], [vI v2, vR a1, vR (f_57 a0 v2)], (G0, M))) hc 2 rfl ?_
    refine Rn_cv hc rfl rfl (by decide) (ii := xi_37) rfl rfl rfl (h1 : Tg _ = 7) (by decide) rfl (le := [some (vR a1), some (vI v2)]) rfl (v := some (vR (f_57 a1 v2))) (M' := M) (t_57 h1 (d := d + 3) rfl rfl) ?_
    show Rn rom (d + 4) 35 (135, [some (vR a0), some (vR a1), some (vI v2)], [vR (f_57 a1 v2), vR (f_57 a0 v2)], (G0, M)) out
    refine R_bind e (fun k13 hk13 e => ?_)
    refine Rn_cs hc rfl rfl (by decide) (ii := xi_36) rfl rfl rfl (le := [some (vR (f_57 a0 v2)), some (vR (f_57 a1 v2))]) rfl (v := none) (M' := k13) (t_56  (d := d + 0) hk13 rfl) ?_
    refine Rn_ms (σ' := (112, [some (vR a0), some (vR a1), some (vI (v2 + 1))], [], (G0, k13))) hc 2 rfl ?_
    cases e
    exact Rn_weak (xle_s (xle_s (xle_s xle_0))) hK
def f_55_L112 (a0 : Nat) (a1 : Nat) (s : Int × xM) : Option (xM) := loop NF (fun s => f_55_L112b a0 a1 s.1 s.2) s
theorem t_55_L112 {rom : xRom} {d : Nat} {a0 : Nat} {a1 : Nat} (h0 : Tg a0 = 7) (h1 : Tg a1 = 7) {s : Int × xM} {r : xM} {out : Option xV × xH} (e : f_55_L112 a0 a1 s = some r) (hK : (eVW out) r) : Rn rom (d + 4) 35 (112, [some (vR a0), some (vR a1), some (vI s.1)], [], (G0, s.2)) out := by
  unfold f_55_L112 at e
  revert e hK
  exact R_loop (b := fun s => f_55_L112b a0 a1 s.1 s.2) (G := fun s => Rn rom (d + 4) 35 (112, [some (vR a0), some (vR a1), some (vI s.1)], [], (G0, s.2)) out) (K := eVW out) (fun s r e hK => t_55_L112b h0 h1 e hK) NF s r
def f_55_L2b (a0 : Nat) (a1 : Nat) (v2 : Int) (M : xM) : Option ((Int × xM) ⊕ (xM)) :=
  if 3 ≤ wr v2 then
    gd (wr (M a1 3) = 0 ∨ wr (M a1 3) = 1) (
    bnd (xset M a0 3 (M a1 3)) (fun M3 =>
    bnd (xset M3 a0 4 (M3 a1 4)) (fun M4 =>
    bnd (xset M4 a0 5 (M4 a1 5)) (fun M5 =>
    bnd (xset M5 a0 6 (M5 a1 6)) (fun M6 =>
    bnd (xset M6 a0 7 (M6 a1 7)) (fun M7 =>
    bnd (xset M7 a0 8 (M7 a1 8)) (fun M8 =>
    bnd (xset M8 a0 9 (M8 a1 9)) (fun M9 =>
    bnd (xset M9 a0 10 (M9 a1 10)) (fun M10 =>
    if wr (f_60 M10 a0) = 0 then
      (f_55_L112 a0 a1 (0, M10)).bind (fun o => some (.inr (o)))
    else
      (f_91 M10 (a0 + 3) (a1 + 3)).bind (fun k14 =>
      (f_55_L112 a0 a1 (0, k14)).bind (fun o => some (.inr (o)))
      )
    )))))))))
  else
    gd (0 ≤ wr v2 ∧ wr v2 < 3) (
    bnd (xset M (a0 + 1) (wr v2).toNat (f_59 M a1 v2)) (fun M16 =>
    some (.inl ((v2 + 1), M16))
    ))
theorem t_55_L2b {rom : xRom} {d : Nat} {a0 : Nat} {a1 : Nat} {v2 : Int} {M : xM} (h0 : Tg a0 = 7) (h1 : Tg a1 = 7) {r : (Int × xM) ⊕ (xM)} {out : Option xV × xH} (e : f_55_L2b a0 a1 v2 M = some r) (hK : ((Sum.elim (fun s => Rn rom (d + 4) 35 (2, [some (vR a0), some (vR a1), some (vI s.1)], [], (G0, s.2)) out) (eVW out))) r) : Rn rom (d + 4) 35 (2, [some (vR a0), some (vR a1), some (vI v2)], [], (G0, M)) out := by
  have hc : xkall.getD 35 [] = xk_35 := rfl
  unfold f_55_L2b at e
  refine Rn_ms (σ' := (4, [some (vR a0), some (vR a1), some (vI v2)], [vR a0, vI v2], (G0, M))) hc 2 rfl ?_
  refine Rn_getR hc rfl h0 (by decide) rfl (gP7_0_0 h0) ?_
  show Rn rom (d + 4) 35 (7, [some (vR a0), some (vR a1), some (vI v2)], [vR (a0 + 1), vI v2], (G0, M)) out
  refine Rn_alen hc rfl rfl (gT7_1 h0) (by decide) (gZ7_1 h0) ?_
  show Rn rom (d + 4) 35 (8, [some (vR a0), some (vR a1), some (vI v2)], [vI 3, vI v2], (G0, M)) out
  refine R_ite e (fun b1 e => ?_) (fun b1 e => ?_)
  · refine Rn_icT (tgt := 28) hc rfl rfl (by decide) b1 ?_
    refine Rn_ms (σ' := (30, [some (vR a0), some (vR a1), some (vI v2)], [vR a1, vR a0], (G0, M))) hc 2 rfl ?_
    refine Rn_getI hc rfl h1 (by decide) (by decide) ?_
    show Rn rom (d + 4) 35 (33, [some (vR a0), some (vR a1), some (vI v2)], [vI (M a1 3), vR a0], (G0, M)) out
    refine R_gd e (fun g2 e => ?_)
    refine R_bnd e (fun M3 hM3 e => ?_)
    refine Rn_putI' hM3 hc rfl h0 (by decide) (Or.inr ⟨rfl, g2⟩) ?_
    refine Rn_ms (σ' := (38, [some (vR a0), some (vR a1), some (vI v2)], [vR a1, vR a0], (G0, M3))) hc 2 rfl ?_
    refine Rn_getI hc rfl h1 (by decide) (by decide) ?_
    show Rn rom (d + 4) 35 (41, [some (vR a0), some (vR a1), some (vI v2)], [vI (M3 a1 4), vR a0], (G0, M3)) out
    refine R_bnd e (fun M4 hM4 e => ?_)
    refine Rn_putI' hM4 hc rfl h0 (by decide) (Or.inl rfl) ?_
    refine Rn_ms (σ' := (46, [some (vR a0), some (vR a1), some (vI v2)], [vR a1, vR a0], (G0, M4))) hc 2 rfl ?_
    refine Rn_getI hc rfl h1 (by decide) (by decide) ?_
    show Rn rom (d + 4) 35 (49, [some (vR a0), some (vR a1), some (vI v2)], [vI (M4 a1 5), vR a0], (G0, M4)) out
    refine R_bnd e (fun M5 hM5 e => ?_)
    refine Rn_putI' hM5 hc rfl h0 (by decide) (Or.inl rfl) ?_
    refine Rn_ms (σ' := (54, [some (vR a0), some (vR a1), some (vI v2)], [vR a1, vR a0], (G0, M5))) hc 2 rfl ?_
    refine Rn_getI hc rfl h1 (by decide) (by decide) ?_
    show Rn rom (d + 4) 35 (57, [some (vR a0), some (vR a1), some (vI v2)], [vI (M5 a1 6), vR a0], (G0, M5)) out
    refine R_bnd e (fun M6 hM6 e => ?_)
    refine Rn_putI' hM6 hc rfl h0 (by decide) (Or.inl rfl) ?_
    refine Rn_ms (σ' := (62, [some (vR a0), some (vR a1), some (vI v2)], [vR a1, vR a0], (G0, M6))) hc 2 rfl ?_
    refine Rn_getI hc rfl h1 (by decide) (by decide) ?_
    show Rn rom (d + 4) 35 (65, [some (vR a0), some (vR a1), some (vI v2)], [vI (M6 a1 7), vR a0], (G0, M6)) out
    refine R_bnd e (fun M7 hM7 e => ?_)
    refine Rn_putI' hM7 hc rfl h0 (by decide) (Or.inl rfl) ?_
    refine Rn_ms (σ' := (70, [some (vR a0), some (vR a1), some (vI v2)], [vR a1, vR a0], (G0, M7))) hc 2 rfl ?_
    refine Rn_getI hc rfl h1 (by decide) (by decide) ?_
    show Rn rom (d + 4) 35 (73, [some (vR a0), some (vR a1), some (vI v2)], [vI (M7 a1 8), vR a0], (G0, M7)) out
    refine R_bnd e (fun M8 hM8 e => ?_)
    refine Rn_putI' hM8 hc rfl h0 (by decide) (Or.inl rfl) ?_
    refine Rn_ms (σ' := (78, [some (vR a0), some (vR a1), some (vI v2)], [vR a1, vR a0], (G0, M8))) hc 2 rfl ?_
    refine Rn_getI hc rfl h1 (by decide) (by decide) ?_
    show Rn rom (d + 4) 35 (81, [some (vR a0), some (vR a1), some (vI v2)], [vI (M8 a1 9), vR a0], (G0, M8)) out
    refine R_bnd e (fun M9 hM9 e => ?_)
    refine Rn_putI' hM9 hc rfl h0 (by decide) (Or.inl rfl) ?_
    refine Rn_ms (σ' := (86, [some (vR a0), some (vR a1), some (vI v2)], [vR a1, vR a0], (G0, M9))) hc 2 rfl ?_
    refine Rn_getI hc rfl h1 (by decide) (by decide) ?_
    show Rn rom (d + 4) 35 (89, [some (vR a0), some (vR a1), some (vI v2)], [vI (M9 a1 10), vR a0], (G0, M9)) out
    refine R_bnd e (fun M10 hM10 e => ?_)
    refine Rn_putI' hM10 hc rfl h0 (by decide) (Or.inl rfl) ?_
    refine Rn_ms (σ' := (93, [some (vR a0), some (vR a1), some (vI v2)], [vR a0], (G0, M10))) hc 1 rfl ?_
    refine Rn_cv hc rfl rfl (by decide) (ii := xi_40) rfl rfl rfl (h0 : Tg _ = 7) (by decide) rfl (le := [some (vR a0)]) rfl (v := some (vI (f_60 M10 a0))) (M' := M10) (t_60 h0 (d := d + 3) rfl rfl) ?_
    show Rn rom (d + 4) 35 (96, [some (vR a0), some (vR a1), some (vI v2)], [vI (f_60 M10 a0)], (G0, M10)) out
    refine R_ite e (fun b11 e => ?_) (fun b11 e => ?_)
    · refine Rn_ifT (tgt := 110) hc rfl rfl (by decide) b11 ?_
      refine Rn_ms (σ' := (112, [some (vR a0), some (vR a1), some (vI 0)], [], (G0, M10))) hc 2 rfl ?_
      refine R_bind e (fun o ho e => ?_)
      cases e
      exact Rn_weak (xle_s (xle_s (xle_s xle_0))) (t_55_L112 h0 h1 ho hK)
    · refine Rn_ifF hc rfl rfl (by decide) b11 ?_
      refine Rn_ms (σ' := (100, [some (vR a0), some (vR a1), some (vI v2)], [vR a0], (G0, M10))) hc 1 rfl ?_
      refine Rn_getR hc rfl h0 (by decide) rfl (gP7_0_2 h0) ?_
      refine Rn_ms (σ' := (104, [some (vR a0), some (vR a1), some (vI v2)], [vR a1, vR (a0 + 3)], (G0, M10))) hc 1 rfl ?_
      refine Rn_getR hc rfl h1 (by decide) rfl (gP7_0_2 h1) ?_
      show Rn rom (d + 4) 35 (107, [some (vR a0), some (vR a1), some (vI v2)], [vR (a1 + 3), vR (a0 + 3)], (G0, M10)) out
      refine R_bind e (fun k14 hk14 e => ?_)
      refine Rn_cv hc rfl rfl (by decide) (ii := xi_71) rfl rfl rfl ((gT7_3 h0) : Tg _ = 8) (by decide) rfl (le := [some (vR (a0 + 3)), some (vR (a1 + 3))]) rfl (v := none) (M' := k14) (t_91 (gT7_3 h0) (gT7_3 h1) (d := d + 1) hk14 rfl) ?_
      refine Rn_ms (σ' := (112, [some (vR a0), some (vR a1), some (vI 0)], [], (G0, k14))) hc 2 rfl ?_
      refine R_bind e (fun o ho e => ?_)
      cases e
      exact Rn_weak (xle_s (xle_s (xle_s xle_0))) (t_55_L112 h0 h1 ho hK)
  · refine Rn_icF hc rfl rfl (by decide) b1 ?_
    refine Rn_ms (σ' := (12, [some (vR a0), some (vR a1), some (vI v2)], [vR a0], (G0, M))) hc 1 rfl ?_
    refine Rn_getR hc rfl h0 (by decide) rfl (gP7_0_0 h0) ?_
    refine Rn_ms (σ' := (18, [some (vR a0), some (vR a1), some (vI v2)], [vI v2, vR a1, vI v2, vR (a0 + 1)], (G0, M))) hc 3 rfl ?_
    refine Rn_cv hc rfl rfl (by decide) (ii := xi_39) rfl rfl rfl (h1 : Tg _ = 7) (by decide) rfl (le := [some (vR a1), some (vI v2)]) rfl (v := some (vI (f_59 M a1 v2))) (M' := M) (t_59 h1 (d := d + 3) rfl rfl) ?_
    show Rn rom (d + 4) 35 (21, [some (vR a0), some (vR a1), some (vI v2)], [vI (f_59 M a1 v2), vI v2, vR (a0 + 1)], (G0, M)) out
    refine R_gd e (fun g15 e => ?_)
    refine R_bnd e (fun M16 hM16 e => ?_)
    refine Rn_iast' hM16 hc rfl rfl (gT7_1 h0) (gZ7_1 h0) g15 rfl ?_
    refine Rn_ms (σ' := (2, [some (vR a0), some (vR a1), some (vI (v2 + 1))], [], (G0, M16))) hc 2 rfl ?_
    cases e
    exact Rn_weak (xle_s (xle_s (xle_s xle_0))) hK
def f_55_L2 (a0 : Nat) (a1 : Nat) (s : Int × xM) : Option (xM) := loop NF (fun s => f_55_L2b a0 a1 s.1 s.2) s
theorem t_55_L2 {rom : xRom} {d : Nat} {a0 : Nat} {a1 : Nat} (h0 : Tg a0 = 7) (h1 : Tg a1 = 7) {s : Int × xM} {r : xM} {out : Option xV × xH} (e : f_55_L2 a0 a1 s = some r) (hK : (eVW out) r) : Rn rom (d + 4) 35 (2, [some (vR a0), some (vR a1), some (vI s.1)], [], (G0, s.2)) out := by
  unfold f_55_L2 at e
  revert e hK
  exact R_loop (b := fun s => f_55_L2b a0 a1 s.1 s.2) (G := fun s => Rn rom (d + 4) 35 (2, [some (vR a0), some (vR a1), some (vI s.1)], [], (G0, s.2)) out) (K := eVW out) (fun s r e hK => t_55_L2b h0 h1 e hK) NF s r
/-- PedalLayers$Pedal.copyFrom -/
def f_55 (M : xM) (a0 : Nat) (a1 : Nat) : Option (xM) :=
  f_55_L2 a0 a1 (0, M)
theorem t_55 {rom : xRom} {d : Nat} {M : xM} {a0 : Nat} {a1 : Nat} (h0 : Tg a0 = 7) (h1 : Tg a1 = 7) {r : xM} {out : Option xV × xH} (e : f_55 M a0 a1 = some r) (hK : eVW out r) : Rn rom (d + 4) 35 (0, [some (vR a0), some (vR a1), none], [], (G0, M)) out := by
  have hc : xkall.getD 35 [] = xk_35 := rfl
  unfold f_55 at e
  refine Rn_ms (σ' := (2, [some (vR a0), some (vR a1), some (vI 0)], [], (G0, M))) hc 2 rfl ?_
  exact Rn_weak (xle_s (xle_s (xle_s xle_0))) (t_55_L2 h0 h1 e hK)
