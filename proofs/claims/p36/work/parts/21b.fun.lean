/-! functions for methods, by program (wip/whole/gen/dec.py) -/
/-- PedalLayers$History.prepare -/
def f_23 (M : xM) (a1 : Nat) : Option (xM) :=
  if (f_22 M (M 50 2)) = 0 then
    some (M)
  else
    gd (Tg (f_22 M (M 50 2)) = 7) (
    (f_55 M (f_22 M (M 50 2)) a1).bind (fun k3 =>
    some (k3)
    ))
theorem t_23 {rom : xRom} {d : Nat} {M : xM} {a1 : Nat} (h1 : Tg a1 = 7) {r : xM} {out : Option xV × xH} (e : f_23 M a1 = some r) (hK : eVW out r) : Rn rom (d + 5) 15 (0, [some (vR 50), some (vR a1), none], [], (G0, M)) out := by
  have hc : xkall.getD 15 [] = xk_15 := rfl
  unfold f_23 at e
  refine Rn_ms (σ' := (2, [some (vR 50), some (vR a1), none], [vR 50, vR 50], (G0, M))) hc 2 rfl ?_
  refine Rn_getI hc rfl tgc_50 (by decide) (by decide) ?_
  show Rn rom (d + 5) 15 (5, [some (vR 50), some (vR a1), none], [vI (M 50 2), vR 50], (G0, M)) out
  refine Rn_cv hc rfl rfl (by decide) (ii := xi_14) rfl rfl rfl (tgc_50 : Tg _ = 2) (by decide) rfl (le := [some (vR 50), some (vI (M 50 2)), none]) rfl (v := some (vR (f_22 M (M 50 2)))) (M' := M) (t_22  (d := d + 3) rfl rfl) ?_
  refine Rn_ms (σ' := (10, [some (vR 50), some (vR a1), some (vR (f_22 M (M 50 2)))], [vR (f_22 M (M 50 2))], (G0, M))) hc 2 rfl ?_
  refine R_ite e (fun b1 e => ?_) (fun b1 e => ?_)
  · refine Rn_nuT (tgt := 18) hc rfl rfl (by decide) b1 ?_
    show Rn rom (d + 5) 15 (18, [some (vR 50), some (vR a1), some (vR (f_22 M (M 50 2)))], [], (G0, M)) out
    cases e
    exact R_end (Rn_vret hc rfl rfl rfl rfl) hK
  · refine Rn_nuF hc rfl rfl (by decide) b1 ?_
    refine Rn_ms (σ' := (15, [some (vR 50), some (vR a1), some (vR (f_22 M (M 50 2)))], [vR a1, vR (f_22 M (M 50 2))], (G0, M))) hc 2 rfl ?_
    refine R_gd e (fun g2 e => ?_)
    refine R_bind e (fun k3 hk3 e => ?_)
    refine Rn_cv hc rfl rfl (by decide) (ii := xi_35) rfl rfl rfl (g2 : Tg _ = 7) (by decide) rfl (le := [some (vR (f_22 M (M 50 2))), some (vR a1), none]) rfl (v := none) (M' := k3) (t_55 g2 h1 (d := d + 0) hk3 rfl) ?_
    show Rn rom (d + 5) 15 (18, [some (vR 50), some (vR a1), some (vR (f_22 M (M 50 2)))], [], (G0, k3)) out
    cases e
    exact R_end (Rn_vret hc rfl rfl rfl rfl) hK
/-- PedalLayers$History.keep -/
def f_24 (M : xM) : xM :=
  if 4 ≤ wr (M 50 2) then
    bnd (xset M 50 1 (f_134 ((M 50 1) + 1) 5)) (fun M2 =>
    M2
    )
  else
    bnd (xset M 50 2 ((M 50 2) + 1)) (fun M3 =>
    M3
    )
theorem t_24 {rom : xRom} {d : Nat} {M : xM}  {r : xM} {out : Option xV × xH} (e : f_24 M = r) (hK : eVW out r) : Rn rom (d + 1) 16 (0, [some (vR 50)], [], (G0, M)) out := by
  have hc : xkall.getD 16 [] = xk_16 := rfl
  unfold f_24 at e
  refine Rn_ms (σ' := (1, [some (vR 50)], [vR 50], (G0, M))) hc 1 rfl ?_
  refine Rn_getI hc rfl tgc_50 (by decide) (by decide) ?_
  refine Rn_ms (σ' := (5, [some (vR 50)], [vI 4, vI (M 50 2)], (G0, M))) hc 1 rfl ?_
  refine R_ite e (fun b1 e => ?_) (fun b1 e => ?_)
  · refine Rn_icT (tgt := 21) hc rfl rfl (by decide) b1 ?_
    refine Rn_ms (σ' := (23, [some (vR 50)], [vR 50, vR 50], (G0, M))) hc 2 rfl ?_
    refine Rn_getI hc rfl tgc_50 (by decide) (by decide) ?_
    refine Rn_ms (σ' := (29, [some (vR 50)], [vR 50, vI ((M 50 1) + 1), vR 50], (G0, M))) hc 3 rfl ?_
    refine Rn_getR hc rfl tgc_50 (by decide) rfl prc_50_0 ?_
    show Rn rom (d + 1) 16 (32, [some (vR 50)], [vR 51, vI ((M 50 1) + 1), vR 50], (G0, M)) out
    refine Rn_alen hc rfl rfl tgc_51 (by decide) zsc_51 ?_
    show Rn rom (d + 1) 16 (33, [some (vR 50)], [vI 5, vI ((M 50 1) + 1), vR 50], (G0, M)) out
    refine Rn_cs hc rfl rfl (by decide) (ii := xi_103) rfl rfl rfl (le := [some (vI ((M 50 1) + 1)), some (vI 5)]) rfl (v := some (vI (f_134 ((M 50 1) + 1) 5))) (M' := M) (t_134  (d := d + 0) rfl rfl) ?_
    show Rn rom (d + 1) 16 (36, [some (vR 50)], [vI (f_134 ((M 50 1) + 1) 5), vR 50], (G0, M)) out
    refine R_bnd e (fun M2 hM2 e => ?_)
    refine Rn_putI' hM2 hc rfl tgc_50 (by decide) (Or.inl rfl) ?_
    show Rn rom (d + 1) 16 (39, [some (vR 50)], [], (G0, M2)) out
    cases e
    exact R_end (Rn_vret hc rfl rfl rfl rfl) hK
  · refine Rn_icF hc rfl rfl (by decide) b1 ?_
    refine Rn_ms (σ' := (10, [some (vR 50)], [vR 50, vR 50], (G0, M))) hc 2 rfl ?_
    refine Rn_getI hc rfl tgc_50 (by decide) (by decide) ?_
    refine Rn_ms (σ' := (15, [some (vR 50)], [vI ((M 50 2) + 1), vR 50], (G0, M))) hc 2 rfl ?_
    refine R_bnd e (fun M3 hM3 e => ?_)
    refine Rn_putI' hM3 hc rfl tgc_50 (by decide) (Or.inl rfl) ?_
    refine Rn_ms (σ' := (39, [some (vR 50)], [], (G0, M3))) hc 1 rfl ?_
    cases e
    exact R_end (Rn_vret hc rfl rfl rfl rfl) hK
/-- PedalLayers$History.takeLatest -/
def f_25 (M : xM) : Nat × xM :=
  if wr (M 50 2) = 0 then
    (0, M)
  else
    bnd (xset M 50 2 ((M 50 2) - 1)) (fun M2 =>
    ((f_22 M2 (M2 50 2)), M2)
    )
theorem t_25 {rom : xRom} {d : Nat} {M : xM}  {r : Nat × xM} {out : Option xV × xH} (e : f_25 M = r) (hK : eRW out r) : Rn rom (d + 2) 17 (0, [some (vR 50)], [], (G0, M)) out := by
  have hc : xkall.getD 17 [] = xk_17 := rfl
  unfold f_25 at e
  refine Rn_ms (σ' := (1, [some (vR 50)], [vR 50], (G0, M))) hc 1 rfl ?_
  refine Rn_getI hc rfl tgc_50 (by decide) (by decide) ?_
  show Rn rom (d + 2) 17 (4, [some (vR 50)], [vI (M 50 2)], (G0, M)) out
  refine R_ite e (fun b1 e => ?_) (fun b1 e => ?_)
  · refine Rn_ifF hc rfl rfl (by decide) (fun w => w b1) ?_
    refine Rn_ms (σ' := (8, [some (vR 50)], [vR 0], (G0, M))) hc 1 rfl ?_
    cases e
    exact R_end (Rn_aret hc rfl rfl rfl rfl) hK
  · refine Rn_ifT (tgt := 9) hc rfl rfl (by decide) (fun w => b1 w) ?_
    refine Rn_ms (σ' := (11, [some (vR 50)], [vR 50, vR 50], (G0, M))) hc 2 rfl ?_
    refine Rn_getI hc rfl tgc_50 (by decide) (by decide) ?_
    refine Rn_ms (σ' := (16, [some (vR 50)], [vI ((M 50 2) - 1), vR 50], (G0, M))) hc 2 rfl ?_
    refine R_bnd e (fun M2 hM2 e => ?_)
    refine Rn_putI' hM2 hc rfl tgc_50 (by decide) (Or.inl rfl) ?_
    refine Rn_ms (σ' := (21, [some (vR 50)], [vR 50, vR 50], (G0, M2))) hc 2 rfl ?_
    refine Rn_getI hc rfl tgc_50 (by decide) (by decide) ?_
    show Rn rom (d + 2) 17 (24, [some (vR 50)], [vI (M2 50 2), vR 50], (G0, M2)) out
    refine Rn_cv hc rfl rfl (by decide) (ii := xi_14) rfl rfl rfl (tgc_50 : Tg _ = 2) (by decide) rfl (le := [some (vR 50), some (vI (M2 50 2)), none]) rfl (v := some (vR (f_22 M2 (M2 50 2)))) (M' := M2) (t_22  (d := d + 0) rfl rfl) ?_
    show Rn rom (d + 2) 17 (27, [some (vR 50)], [vR (f_22 M2 (M2 50 2))], (G0, M2)) out
    cases e
    exact R_end (Rn_aret hc rfl rfl rfl rfl) hK
/-- PedalLayers$Notes.add -/
def f_31 (M : xM) (a0 : Nat) (a1 : Int) (a2 : Int) (a3 : Int) : Int × xM :=
  if wr (f_132 a2) = 0 then
    (0, M)
  else
    if wr ((a1 * 36) + a2) < 0 then
      (0, M)
    else
      if wr ((a1 * 36) + a2) < 1728 then
        bnd (xset M (a0 + 1) (wr ((a1 * 36) + a2)).toNat (xmin ((M (a0 + 1) (wr ((a1 * 36) + a2)).toNat) + a3) 99)) (fun M4 =>
        ((M4 (a0 + 1) (wr ((a1 * 36) + a2)).toNat), M4)
        )
      else
        (0, M)
theorem t_31 {rom : xRom} {d : Nat} {M : xM} {a0 : Nat} {a1 : Int} {a2 : Int} {a3 : Int} (h0 : Tg a0 = 4) {r : Int × xM} {out : Option xV × xH} (e : f_31 M a0 a1 a2 a3 = r) (hK : eIW out r) : Rn rom (d + 1) 23 (0, [some (vR a0), some (vI a1), some (vI a2), some (vI a3), none], [], (G0, M)) out := by
  have hc : xkall.getD 23 [] = xk_23 := rfl
  unfold f_31 at e
  refine Rn_ms (σ' := (9, [some (vR a0), some (vI a1), some (vI a2), some (vI a3), some (vI ((a1 * 36) + a2))], [vI a2], (G0, M))) hc 7 rfl ?_
  refine Rn_cs hc rfl rfl (by decide) (ii := xi_101) rfl rfl rfl (le := [some (vI a2)]) rfl (v := some (vI (f_132 a2))) (M' := M) (t_132  (d := d + 0) rfl rfl) ?_
  show Rn rom (d + 1) 23 (12, [some (vR a0), some (vI a1), some (vI a2), some (vI a3), some (vI ((a1 * 36) + a2))], [vI (f_132 a2)], (G0, M)) out
  refine R_ite e (fun b1 e => ?_) (fun b1 e => ?_)
  · refine Rn_ifT (tgt := 30) hc rfl rfl (by decide) b1 ?_
    refine Rn_ms (σ' := (31, [some (vR a0), some (vI a1), some (vI a2), some (vI a3), some (vI ((a1 * 36) + a2))], [vI 0], (G0, M))) hc 1 rfl ?_
    cases e
    exact R_end (Rn_iret hc rfl rfl (xretI rfl rfl)) hK
  · refine Rn_ifF hc rfl rfl (by decide) b1 ?_
    refine Rn_ms (σ' := (17, [some (vR a0), some (vI a1), some (vI a2), some (vI a3), some (vI ((a1 * 36) + a2))], [vI ((a1 * 36) + a2)], (G0, M))) hc 1 rfl ?_
    refine R_ite e (fun b2 e => ?_) (fun b2 e => ?_)
    · refine Rn_ifT (tgt := 30) hc rfl rfl (by decide) b2 ?_
      refine Rn_ms (σ' := (31, [some (vR a0), some (vI a1), some (vI a2), some (vI a3), some (vI ((a1 * 36) + a2))], [vI 0], (G0, M))) hc 1 rfl ?_
      cases e
      exact R_end (Rn_iret hc rfl rfl (xretI rfl rfl)) hK
    · refine Rn_ifF hc rfl rfl (by decide) b2 ?_
      refine Rn_ms (σ' := (23, [some (vR a0), some (vI a1), some (vI a2), some (vI a3), some (vI ((a1 * 36) + a2))], [vR a0, vI ((a1 * 36) + a2)], (G0, M))) hc 2 rfl ?_
      refine Rn_getR hc rfl h0 (by decide) rfl (gP4_0_0 h0) ?_
      show Rn rom (d + 1) 23 (26, [some (vR a0), some (vI a1), some (vI a2), some (vI a3), some (vI ((a1 * 36) + a2))], [vR (a0 + 1), vI ((a1 * 36) + a2)], (G0, M)) out
      refine Rn_alen hc rfl rfl (gT4_1 h0) (by decide) (gZ4_1 h0) ?_
      show Rn rom (d + 1) 23 (27, [some (vR a0), some (vI a1), some (vI a2), some (vI a3), some (vI ((a1 * 36) + a2))], [vI 1728, vI ((a1 * 36) + a2)], (G0, M)) out
      refine R_ite e (fun b3 e => ?_) (fun b3 e => ?_)
      · refine Rn_icT (tgt := 32) hc rfl rfl (by decide) b3 ?_
        refine Rn_ms (σ' := (33, [some (vR a0), some (vI a1), some (vI a2), some (vI a3), some (vI ((a1 * 36) + a2))], [vR a0], (G0, M))) hc 1 rfl ?_
        refine Rn_getR hc rfl h0 (by decide) rfl (gP4_0_0 h0) ?_
        refine Rn_ms (σ' := (39, [some (vR a0), some (vI a1), some (vI a2), some (vI a3), some (vI ((a1 * 36) + a2))], [vR a0, vI ((a1 * 36) + a2), vR (a0 + 1)], (G0, M))) hc 2 rfl ?_
        refine Rn_getR hc rfl h0 (by decide) rfl (gP4_0_0 h0) ?_
        refine Rn_ms (σ' := (44, [some (vR a0), some (vI a1), some (vI a2), some (vI a3), some (vI ((a1 * 36) + a2))], [vI ((a1 * 36) + a2), vR (a0 + 1), vI ((a1 * 36) + a2), vR (a0 + 1)], (G0, M))) hc 1 rfl ?_
        refine Rn_iald hc rfl rfl (gT4_1 h0) (gZ4_1 h0) (by omega) rfl ?_
        refine Rn_ms (σ' := (49, [some (vR a0), some (vI a1), some (vI a2), some (vI a3), some (vI ((a1 * 36) + a2))], [vI 99, vI ((M (a0 + 1) (wr ((a1 * 36) + a2)).toNat) + a3), vI ((a1 * 36) + a2), vR (a0 + 1)], (G0, M))) hc 3 rfl ?_
        refine Rn_min hc rfl rfl (Nat.le_of_ble_eq_true rfl) ?_
        show Rn rom (d + 1) 23 (52, [some (vR a0), some (vI a1), some (vI a2), some (vI a3), some (vI ((a1 * 36) + a2))], [vI (xmin ((M (a0 + 1) (wr ((a1 * 36) + a2)).toNat) + a3) 99), vI ((a1 * 36) + a2), vR (a0 + 1)], (G0, M)) out
        refine R_bnd e (fun M4 hM4 e => ?_)
        refine Rn_iast' hM4 hc rfl rfl (gT4_1 h0) (gZ4_1 h0) (by omega) rfl ?_
        refine Rn_ms (σ' := (54, [some (vR a0), some (vI a1), some (vI a2), some (vI a3), some (vI ((a1 * 36) + a2))], [vR a0], (G0, M4))) hc 1 rfl ?_
        refine Rn_getR hc rfl h0 (by decide) rfl (gP4_0_0 h0) ?_
        refine Rn_ms (σ' := (59, [some (vR a0), some (vI a1), some (vI a2), some (vI a3), some (vI ((a1 * 36) + a2))], [vI ((a1 * 36) + a2), vR (a0 + 1)], (G0, M4))) hc 1 rfl ?_
        refine Rn_iald hc rfl rfl (gT4_1 h0) (gZ4_1 h0) (by omega) rfl ?_
        show Rn rom (d + 1) 23 (60, [some (vR a0), some (vI a1), some (vI a2), some (vI a3), some (vI ((a1 * 36) + a2))], [vI (M4 (a0 + 1) (wr ((a1 * 36) + a2)).toNat)], (G0, M4)) out
        cases e
        exact R_end (Rn_iret hc rfl rfl (xretI rfl rfl)) hK
      · refine Rn_icF hc rfl rfl (by decide) b3 ?_
        refine Rn_ms (σ' := (31, [some (vR a0), some (vI a1), some (vI a2), some (vI a3), some (vI ((a1 * 36) + a2))], [vI 0], (G0, M))) hc 1 rfl ?_
        cases e
        exact R_end (Rn_iret hc rfl rfl (xretI rfl rfl)) hK
def f_32_L7b (a0 : Nat) (v2 : Int) (M : xM) : Option ((Int × xM) ⊕ (xM)) :=
  if wr ((M a0 1) * 36) ≤ wr v2 then
    some (.inr (M))
  else
    if 1728 ≤ wr v2 then
      some (.inr (M))
    else
      gd (0 ≤ wr v2 ∧ wr v2 < 1728) (
      bnd (xset M (a0 + 1) (wr v2).toNat 0) (fun M5 =>
      some (.inl ((v2 + 1), M5))
      ))
theorem t_32_L7b {rom : xRom} {d : Nat} {a0 : Nat} {v2 : Int} {M : xM} (h0 : Tg a0 = 4) {r : (Int × xM) ⊕ (xM)} {out : Option xV × xH} (e : f_32_L7b a0 v2 M = some r) (hK : ((Sum.elim (fun s => Rn rom (d + 0) 24 (7, [some (vR a0), none, some (vI s.1)], [], (G0, s.2)) out) (eVW out))) r) : Rn rom (d + 0) 24 (7, [some (vR a0), none, some (vI v2)], [], (G0, M)) out := by
  have hc : xkall.getD 24 [] = xk_24 := rfl
  unfold f_32_L7b at e
  refine Rn_ms (σ' := (9, [some (vR a0), none, some (vI v2)], [vR a0, vI v2], (G0, M))) hc 2 rfl ?_
  refine Rn_getI hc rfl h0 (by decide) (by decide) ?_
  refine Rn_ms (σ' := (15, [some (vR a0), none, some (vI v2)], [vI ((M a0 1) * 36), vI v2], (G0, M))) hc 2 rfl ?_
  refine R_ite e (fun b2 e => ?_) (fun b2 e => ?_)
  · refine Rn_icT (tgt := 40) hc rfl rfl (by decide) b2 ?_
    show Rn rom (d + 0) 24 (40, [some (vR a0), none, some (vI v2)], [], (G0, M)) out
    cases e
    exact R_end (Rn_vret hc rfl rfl rfl rfl) hK
  · refine Rn_icF hc rfl rfl (by decide) b2 ?_
    refine Rn_ms (σ' := (20, [some (vR a0), none, some (vI v2)], [vR a0, vI v2], (G0, M))) hc 2 rfl ?_
    refine Rn_getR hc rfl h0 (by decide) rfl (gP4_0_0 h0) ?_
    show Rn rom (d + 0) 24 (23, [some (vR a0), none, some (vI v2)], [vR (a0 + 1), vI v2], (G0, M)) out
    refine Rn_alen hc rfl rfl (gT4_1 h0) (by decide) (gZ4_1 h0) ?_
    show Rn rom (d + 0) 24 (24, [some (vR a0), none, some (vI v2)], [vI 1728, vI v2], (G0, M)) out
    refine R_ite e (fun b3 e => ?_) (fun b3 e => ?_)
    · refine Rn_icT (tgt := 40) hc rfl rfl (by decide) b3 ?_
      show Rn rom (d + 0) 24 (40, [some (vR a0), none, some (vI v2)], [], (G0, M)) out
      cases e
      exact R_end (Rn_vret hc rfl rfl rfl rfl) hK
    · refine Rn_icF hc rfl rfl (by decide) b3 ?_
      refine Rn_ms (σ' := (28, [some (vR a0), none, some (vI v2)], [vR a0], (G0, M))) hc 1 rfl ?_
      refine Rn_getR hc rfl h0 (by decide) rfl (gP4_0_0 h0) ?_
      refine Rn_ms (σ' := (33, [some (vR a0), none, some (vI v2)], [vI 0, vI v2, vR (a0 + 1)], (G0, M))) hc 2 rfl ?_
      refine R_gd e (fun g4 e => ?_)
      refine R_bnd e (fun M5 hM5 e => ?_)
      refine Rn_iast' hM5 hc rfl rfl (gT4_1 h0) (gZ4_1 h0) g4 rfl ?_
      refine Rn_ms (σ' := (7, [some (vR a0), none, some (vI (v2 + 1))], [], (G0, M5))) hc 2 rfl ?_
      cases e
      exact Rn_weak (xle_s (xle_s (xle_s xle_0))) hK
def f_32_L7 (a0 : Nat) (s : Int × xM) : Option (xM) := loop NF (fun s => f_32_L7b a0 s.1 s.2) s
theorem t_32_L7 {rom : xRom} {d : Nat} {a0 : Nat} (h0 : Tg a0 = 4) {s : Int × xM} {r : xM} {out : Option xV × xH} (e : f_32_L7 a0 s = some r) (hK : (eVW out) r) : Rn rom (d + 0) 24 (7, [some (vR a0), none, some (vI s.1)], [], (G0, s.2)) out := by
  unfold f_32_L7 at e
  revert e hK
  exact R_loop (b := fun s => f_32_L7b a0 s.1 s.2) (G := fun s => Rn rom (d + 0) 24 (7, [some (vR a0), none, some (vI s.1)], [], (G0, s.2)) out) (K := eVW out) (fun s r e hK => t_32_L7b h0 e hK) NF s r
/-- PedalLayers$Notes.clear -/
def f_32 (M : xM) (a0 : Nat) (a1 : Int) : Option (xM) :=
  bnd (xset M a0 1 a1) (fun M1 =>
  f_32_L7 a0 (0, M1)
  )
theorem t_32 {rom : xRom} {d : Nat} {M : xM} {a0 : Nat} {a1 : Int} (h0 : Tg a0 = 4) {r : xM} {out : Option xV × xH} (e : f_32 M a0 a1 = some r) (hK : eVW out r) : Rn rom (d + 0) 24 (0, [some (vR a0), some (vI a1), none], [], (G0, M)) out := by
  have hc : xkall.getD 24 [] = xk_24 := rfl
  unfold f_32 at e
  refine Rn_ms (σ' := (2, [some (vR a0), some (vI a1), none], [vI a1, vR a0], (G0, M))) hc 2 rfl ?_
  refine R_bnd e (fun M1 hM1 e => ?_)
  refine Rn_putI' hM1 hc rfl h0 (by decide) (Or.inl rfl) ?_
  refine Rn_ms (σ' := (7, [some (vR a0), some (vI a1), some (vI 0)], [], (G0, M1))) hc 2 rfl ?_
  exact Rn_weak (xle_s (xle_n (xle_s xle_0))) (t_32_L7 h0 e hK)
def f_34_L9b (a0 : Nat) (c1 : Int) (c2 : Int) (v3 : Int) (M : xM) : Option ((Int × xM) ⊕ ((Int × xM) ⊕ (xM))) :=
  if 36 ≤ wr v3 then
    some (.inr (.inl ((c2 + 1), M)))
  else
    bnd (f_31 M a0 c2 v3 (f_30 M a0 (c2 + c1) v3)) (fun k3 =>
    some (.inl ((v3 + 1), k3.2))
    )
theorem t_34_L9b {rom : xRom} {d : Nat} {a0 : Nat} {c1 : Int} {c2 : Int} {v3 : Int} {M : xM} (h0 : Tg a0 = 4) {r : (Int × xM) ⊕ ((Int × xM) ⊕ (xM))} {out : Option xV × xH} (e : f_34_L9b a0 c1 c2 v3 M = some r) (hK : ((Sum.elim (fun s => Rn rom (d + 2) 26 (9, [some (vR a0), some (vI c1), some (vI c2), some (vI s.1)], [], (G0, s.2)) out) ((Sum.elim (fun s => Rn rom (d + 2) 26 (2, [some (vR a0), some (vI c1), some (vI s.1), none], [], (G0, s.2)) out) (eVW out))))) r) : Rn rom (d + 2) 26 (9, [some (vR a0), some (vI c1), some (vI c2), some (vI v3)], [], (G0, M)) out := by
  have hc : xkall.getD 26 [] = xk_26 := rfl
  unfold f_34_L9b at e
  refine Rn_ms (σ' := (12, [some (vR a0), some (vI c1), some (vI c2), some (vI v3)], [vI 36, vI v3], (G0, M))) hc 2 rfl ?_
  refine R_ite e (fun b2 e => ?_) (fun b2 e => ?_)
  · refine Rn_icT (tgt := 36) hc rfl rfl (by decide) b2 ?_
    refine Rn_ms (σ' := (2, [some (vR a0), some (vI c1), some (vI (c2 + 1)), some (vI v3)], [], (G0, M))) hc 2 rfl ?_
    cases e
    exact Rn_weak (xle_s (xle_s (xle_s (xle_n xle_0)))) hK
  · refine Rn_icF hc rfl rfl (by decide) b2 ?_
    refine Rn_ms (σ' := (23, [some (vR a0), some (vI c1), some (vI c2), some (vI v3)], [vI v3, vI (c2 + c1), vR a0, vI v3, vI c2, vR a0], (G0, M))) hc 8 rfl ?_
    refine Rn_cv hc rfl rfl (by decide) (ii := xi_22) rfl rfl rfl (h0 : Tg _ = 4) (by decide) rfl (le := [some (vR a0), some (vI (c2 + c1)), some (vI v3), none]) rfl (v := some (vI (f_30 M a0 (c2 + c1) v3))) (M' := M) (t_30 h0 (d := d + 0) rfl rfl) ?_
    show Rn rom (d + 2) 26 (26, [some (vR a0), some (vI c1), some (vI c2), some (vI v3)], [vI (f_30 M a0 (c2 + c1) v3), vI v3, vI c2, vR a0], (G0, M)) out
    refine R_bnd e (fun k3 hk3 e => ?_)
    refine Rn_cv hc rfl rfl (by decide) (ii := xi_23) rfl rfl rfl (h0 : Tg _ = 4) (by decide) rfl (le := [some (vR a0), some (vI c2), some (vI v3), some (vI (f_30 M a0 (c2 + c1) v3)), none]) rfl (v := some (vI k3.1)) (M' := k3.2) (t_31 h0 (d := d + 0) hk3.symm rfl) ?_
    refine Rn_ms (σ' := (9, [some (vR a0), some (vI c1), some (vI c2), some (vI (v3 + 1))], [], (G0, k3.2))) hc 3 rfl ?_
    cases e
    exact Rn_weak (xle_s (xle_s (xle_s (xle_s xle_0)))) hK
def f_34_L9 (a0 : Nat) (c1 : Int) (c2 : Int) (s : Int × xM) : Option ((Int × xM) ⊕ (xM)) := loop NF (fun s => f_34_L9b a0 c1 c2 s.1 s.2) s
theorem t_34_L9 {rom : xRom} {d : Nat} {a0 : Nat} {c1 : Int} {c2 : Int} (h0 : Tg a0 = 4) {s : Int × xM} {r : (Int × xM) ⊕ (xM)} {out : Option xV × xH} (e : f_34_L9 a0 c1 c2 s = some r) (hK : ((Sum.elim (fun s => Rn rom (d + 2) 26 (2, [some (vR a0), some (vI c1), some (vI s.1), none], [], (G0, s.2)) out) (eVW out))) r) : Rn rom (d + 2) 26 (9, [some (vR a0), some (vI c1), some (vI c2), some (vI s.1)], [], (G0, s.2)) out := by
  unfold f_34_L9 at e
  revert e hK
  exact R_loop (b := fun s => f_34_L9b a0 c1 c2 s.1 s.2) (G := fun s => Rn rom (d + 2) 26 (9, [some (vR a0), some (vI c1), some (vI c2), some (vI s.1)], [], (G0, s.2)) out) (K := (Sum.elim (fun s => Rn rom (d + 2) 26 (2, [some (vR a0), some (vI c1), some (vI s.1), none], [], (G0, s.2)) out) (eVW out))) (fun s r e hK => t_34_L9b h0 e hK) NF s r
def f_34_L2b (a0 : Nat) (c1 : Int) (v2 : Int) (M : xM) : Option ((Int × xM) ⊕ (xM)) :=
  if wr c1 ≤ wr v2 then
    some (.inr (M))
  else
    f_34_L9 a0 c1 v2 (0, M)
theorem t_34_L2b {rom : xRom} {d : Nat} {a0 : Nat} {c1 : Int} {v2 : Int} {M : xM} (h0 : Tg a0 = 4) {r : (Int × xM) ⊕ (xM)} {out : Option xV × xH} (e : f_34_L2b a0 c1 v2 M = some r) (hK : ((Sum.elim (fun s => Rn rom (d + 2) 26 (2, [some (vR a0), some (vI c1), some (vI s.1), none], [], (G0, s.2)) out) (eVW out))) r) : Rn rom (d + 2) 26 (2, [some (vR a0), some (vI c1), some (vI v2), none], [], (G0, M)) out := by
  have hc : xkall.getD 26 [] = xk_26 := rfl
  unfold f_34_L2b at e
  refine Rn_ms (σ' := (4, [some (vR a0), some (vI c1), some (vI v2), none], [vI c1, vI v2], (G0, M))) hc 2 rfl ?_
  refine R_ite e (fun b1 e => ?_) (fun b1 e => ?_)
  · refine Rn_icT (tgt := 42) hc rfl rfl (by decide) b1 ?_
    show Rn rom (d + 2) 26 (42, [some (vR a0), some (vI c1), some (vI v2), none], [], (G0, M)) out
    cases e
    exact R_end (Rn_vret hc rfl rfl rfl rfl) hK
  · refine Rn_icF hc rfl rfl (by decide) b1 ?_
    refine Rn_ms (σ' := (9, [some (vR a0), some (vI c1), some (vI v2), some (vI 0)], [], (G0, M))) hc 2 rfl ?_
    exact Rn_weak (xle_s (xle_s (xle_s (xle_s xle_0)))) (t_34_L9 h0 e hK)
def f_34_L2 (a0 : Nat) (c1 : Int) (s : Int × xM) : Option (xM) := loop NF (fun s => f_34_L2b a0 c1 s.1 s.2) s
theorem t_34_L2 {rom : xRom} {d : Nat} {a0 : Nat} {c1 : Int} (h0 : Tg a0 = 4) {s : Int × xM} {r : xM} {out : Option xV × xH} (e : f_34_L2 a0 c1 s = some r) (hK : (eVW out) r) : Rn rom (d + 2) 26 (2, [some (vR a0), some (vI c1), some (vI s.1), none], [], (G0, s.2)) out := by
  unfold f_34_L2 at e
  revert e hK
  exact R_loop (b := fun s => f_34_L2b a0 c1 s.1 s.2) (G := fun s => Rn rom (d + 2) 26 (2, [some (vR a0), some (vI c1), some (vI s.1), none], [], (G0, s.2)) out) (K := eVW out) (fun s r e hK => t_34_L2b h0 e hK) NF s r
/-- PedalLayers$Notes.fold -/
def f_34 (M : xM) (a0 : Nat) (a1 : Int) : Option (xM) :=
  f_34_L2 a0 a1 (0, M)
theorem t_34 {rom : xRom} {d : Nat} {M : xM} {a0 : Nat} {a1 : Int} (h0 : Tg a0 = 4) {r : xM} {out : Option xV × xH} (e : f_34 M a0 a1 = some r) (hK : eVW out r) : Rn rom (d + 2) 26 (0, [some (vR a0), some (vI a1), none, none], [], (G0, M)) out := by
  have hc : xkall.getD 26 [] = xk_26 := rfl
  unfold f_34 at e
  refine Rn_ms (σ' := (2, [some (vR a0), some (vI a1), some (vI 0), none], [], (G0, M))) hc 2 rfl ?_
  exact Rn_weak (xle_s (xle_s (xle_s (xle_s xle_0)))) (t_34_L2 h0 e hK)
/-- PedalLayers.faded -/
def f_136 (a0 : Int) (a1 : Int) : Int :=
  ((wr (a0 * (100 - a1))).tdiv 100)
theorem t_136 {rom : xRom} {d : Nat} {M : xM} {a0 : Int} {a1 : Int} {r : Int} {out : Option xV × xH} (e : f_136 a0 a1 = r) (hK : eI M out r) : Rn rom (d + 0) 105 (0, [some (vI a0), some (vI a1)], [], (G0, M)) out := by
  have hc : xkall.getD 105 [] = xk_105 := rfl
  unfold f_136 at e
  refine Rn_ms (σ' := (8, [some (vI a0), some (vI a1)], [vI 100, vI (a0 * (100 - a1))], (G0, M))) hc 6 rfl ?_
  refine Rn_div hc rfl ⟨rfl, rfl⟩ (z' := 100) (by decide) (by decide) ?_
  show Rn rom (d + 0) 105 (9, [some (vI a0), some (vI a1)], [vI ((wr (a0 * (100 - a1))).tdiv 100)], (G0, M)) out
  cases e
  exact R_end (Rn_iret hc rfl rfl (xretI rfl rfl)) hK
def f_35_L2b (a0 : Nat) (c1 : Int) (v2 : Int) (M : xM) : Option ((Int × xM) ⊕ (xM)) :=
  if wr ((M a0 1) * 36) ≤ wr v2 then
    some (.inr (M))
  else
    if 1728 ≤ wr v2 then
      some (.inr (M))
    else
      gd (0 ≤ wr v2 ∧ wr v2 < 1728) (
      gd (0 ≤ wr v2 ∧ wr v2 < 1728) (
      bnd (xset M (a0 + 1) (wr v2).toNat (f_136 (M (a0 + 1) (wr v2).toNat) c1)) (fun M5 =>
      some (.inl ((v2 + 1), M5))
      )))
theorem t_35_L2b {rom : xRom} {d : Nat} {a0 : Nat} {c1 : Int} {v2 : Int} {M : xM} (h0 : Tg a0 = 4) {r : (Int × xM) ⊕ (xM)} {out : Option xV × xH} (e : f_35_L2b a0 c1 v2 M = some r) (hK : ((Sum.elim (fun s => Rn rom (d + 1) 27 (2, [some (vR a0), some (vI c1), some (vI s.1)], [], (G0, s.2)) out) (eVW out))) r) : Rn rom (d + 1) 27 (2, [some (vR a0), some (vI c1), some (vI v2)], [], (G0, M)) out := by
  have hc : xkall.getD 27 [] = xk_27 := rfl
  unfold f_35_L2b at e
  refine Rn_ms (σ' := (4, [some (vR a0), some (vI c1), some (vI v2)], [vR a0, vI v2], (G0, M))) hc 2 rfl ?_
  refine Rn_getI hc rfl h0 (by decide) (by decide) ?_
  refine Rn_ms (σ' := (10, [some (vR a0), some (vI c1), some (vI v2)], [vI ((M a0 1) * 36), vI v2], (G0, M))) hc 2 rfl ?_
  refine R_ite e (fun b1 e => ?_) (fun b1 e => ?_)
  · refine Rn_icT (tgt := 44) hc rfl rfl (by decide) b1 ?_
    show Rn rom (d + 1) 27 (44, [some (vR a0), some (vI c1), some (vI v2)], [], (G0, M)) out
    cases e
    exact R_end (Rn_vret hc rfl rfl rfl rfl) hK
  · refine Rn_icF hc rfl rfl (by decide) b1 ?_
    refine Rn_ms (σ' := (15, [some (vR a0), some (vI c1), some (vI v2)], [vR a0, vI v2], (G0, M))) hc 2 rfl ?_
    refine Rn_getR hc rfl h0 (by decide) rfl (gP4_0_0 h0) ?_
    show Rn rom (d + 1) 27 (18, [some (vR a0), some (vI c1), some (vI v2)], [vR (a0 + 1), vI v2], (G0, M)) out
    refine Rn_alen hc rfl rfl (gT4_1 h0) (by decide) (gZ4_1 h0) ?_
    show Rn rom (d + 1) 27 (19, [some (vR a0), some (vI c1), some (vI v2)], [vI 1728, vI v2], (G0, M)) out
    refine R_ite e (fun b2 e => ?_) (fun b2 e => ?_)
    · refine Rn_icT (tgt := 44) hc rfl rfl (by decide) b2 ?_
      show Rn rom (d + 1) 27 (44, [some (vR a0), some (vI c1), some (vI v2)], [], (G0, M)) out
      cases e
      exact R_end (Rn_vret hc rfl rfl rfl rfl) hK
    · refine Rn_icF hc rfl rfl (by decide) b2 ?_
      refine Rn_ms (σ' := (23, [some (vR a0), some (vI c1), some (vI v2)], [vR a0], (G0, M))) hc 1 rfl ?_
      refine Rn_getR hc rfl h0 (by decide) rfl (gP4_0_0 h0) ?_
      refine Rn_ms (σ' := (28, [some (vR a0), some (vI c1), some (vI v2)], [vR a0, vI v2, vR (a0 + 1)], (G0, M))) hc 2 rfl ?_
      refine Rn_getR hc rfl h0 (by decide) rfl (gP4_0_0 h0) ?_
      refine Rn_ms (σ' := (32, [some (vR a0), some (vI c1), some (vI v2)], [vI v2, vR (a0 + 1), vI v2, vR (a0 + 1)], (G0, M))) hc 1 rfl ?_
      refine R_gd e (fun g3 e => ?_)
      refine Rn_iald hc rfl rfl (gT4_1 h0) (gZ4_1 h0) g3 rfl ?_
      refine Rn_ms (σ' := (34, [some (vR a0), some (vI c1), some (vI v2)], [vI c1, vI (M (a0 + 1) (wr v2).toNat), vI v2, vR (a0 + 1)], (G0, M))) hc 1 rfl ?_
      refine Rn_cs hc rfl rfl (by decide) (ii := xi_105) rfl rfl rfl (le := [some (vI (M (a0 + 1) (wr v2).toNat)), some (vI c1)]) rfl (v := some (vI (f_136 (M (a0 + 1) (wr v2).toNat) c1))) (M' := M) (t_136  (d := d + 0) rfl rfl) ?_
      show Rn rom (d + 1) 27 (37, [some (vR a0), some (vI c1), some (vI v2)], [vI (f_136 (M (a0 + 1) (wr v2).toNat) c1), vI v2, vR (a0 + 1)], (G0, M)) out
      refine R_gd e (fun g4 e => ?_)
      refine R_bnd e (fun M5 hM5 e => ?_)
      refine Rn_iast' hM5 hc rfl rfl (gT4_1 h0) (gZ4_1 h0) g4 rfl ?_
      refine Rn_ms (σ' := (2, [some (vR a0), some (vI c1), some (vI (v2 + 1))], [], (G0, M5))) hc 2 rfl ?_
      cases e
      exact Rn_weak (xle_s (xle_s (xle_s xle_0))) hK
def f_35_L2 (a0 : Nat) (c1 : Int) (s : Int × xM) : Option (xM) := loop NF (fun s => f_35_L2b a0 c1 s.1 s.2) s
theorem t_35_L2 {rom : xRom} {d : Nat} {a0 : Nat} {c1 : Int} (h0 : Tg a0 = 4) {s : Int × xM} {r : xM} {out : Option xV × xH} (e : f_35_L2 a0 c1 s = some r) (hK : (eVW out) r) : Rn rom (d + 1) 27 (2, [some (vR a0), some (vI c1), some (vI s.1)], [], (G0, s.2)) out := by
  unfold f_35_L2 at e
  revert e hK
  exact R_loop (b := fun s => f_35_L2b a0 c1 s.1 s.2) (G := fun s => Rn rom (d + 1) 27 (2, [some (vR a0), some (vI c1), some (vI s.1)], [], (G0, s.2)) out) (K := eVW out) (fun s r e hK => t_35_L2b h0 e hK) NF s r
/-- PedalLayers$Notes.fade -/
def f_35 (M : xM) (a0 : Nat) (a1 : Int) : Option (xM) :=
  f_35_L2 a0 a1 (0, M)
theorem t_35 {rom : xRom} {d : Nat} {M : xM} {a0 : Nat} {a1 : Int} (h0 : Tg a0 = 4) {r : xM} {out : Option xV × xH} (e : f_35 M a0 a1 = some r) (hK : eVW out r) : Rn rom (d + 1) 27 (0, [some (vR a0), some (vI a1), none], [], (G0, M)) out := by
  have hc : xkall.getD 27 [] = xk_27 := rfl
  unfold f_35 at e
  refine Rn_ms (σ' := (2, [some (vR a0), some (vI a1), some (vI 0)], [], (G0, M))) hc 2 rfl ?_
  exact Rn_weak (xle_s (xle_s (xle_s xle_0))) (t_35_L2 h0 e hK)
def f_36_L4b (M : xM) (a0 : Nat) (v1 : Int) (v2 : Int) : Option ((Int × Int) ⊕ (Int)) :=
  if wr ((M a0 1) * 36) ≤ wr v2 then
    some (.inr (v1))
  else
    if 1728 ≤ wr v2 then
      some (.inr (v1))
    else
      gd (0 ≤ wr v2 ∧ wr v2 < 1728) (
      if wr (M (a0 + 1) (wr v2).toNat) ≤ 0 then
        some (.inl (v1, (v2 + 1)))
      else
        some (.inl ((v1 + 1), (v2 + 1)))
      )
theorem t_36_L4b {rom : xRom} {d : Nat} {a0 : Nat} {v1 : Int} {v2 : Int} {M : xM} (h0 : Tg a0 = 4) {r : (Int × Int) ⊕ (Int)} {out : Option xV × xH} (e : f_36_L4b M a0 v1 v2 = some r) (hK : ((Sum.elim (fun s => Rn rom (d + 0) 28 (4, [some (vR a0), some (vI s.1), some (vI s.2)], [], (G0, M)) out) (eI M out))) r) : Rn rom (d + 0) 28 (4, [some (vR a0), some (vI v1), some (vI v2)], [], (G0, M)) out := by
  have hc : xkall.getD 28 [] = xk_28 := rfl
  unfold f_36_L4b at e
  refine Rn_ms (σ' := (6, [some (vR a0), some (vI v1), some (vI v2)], [vR a0, vI v2], (G0, M))) hc 2 rfl ?_
  refine Rn_getI hc rfl h0 (by decide) (by decide) ?_
  refine Rn_ms (σ' := (12, [some (vR a0), some (vI v1), some (vI v2)], [vI ((M a0 1) * 36), vI v2], (G0, M))) hc 2 rfl ?_
  refine R_ite e (fun b1 e => ?_) (fun b1 e => ?_)
  · refine Rn_icT (tgt := 42) hc rfl rfl (by decide) b1 ?_
    refine Rn_ms (σ' := (43, [some (vR a0), some (vI v1), some (vI v2)], [vI v1], (G0, M))) hc 1 rfl ?_
    cases e
    exact R_end (Rn_iret hc rfl rfl (xretI rfl rfl)) hK
  · refine Rn_icF hc rfl rfl (by decide) b1 ?_
    refine Rn_ms (σ' := (17, [some (vR a0), some (vI v1), some (vI v2)], [vR a0, vI v2], (G0, M))) hc 2 rfl ?_
    refine Rn_getR hc rfl h0 (by decide) rfl (gP4_0_0 h0) ?_
    show Rn rom (d + 0) 28 (20, [some (vR a0), some (vI v1), some (vI v2)], [vR (a0 + 1), vI v2], (G0, M)) out
    refine Rn_alen hc rfl rfl (gT4_1 h0) (by decide) (gZ4_1 h0) ?_
    show Rn rom (d + 0) 28 (21, [some (vR a0), some (vI v1), some (vI v2)], [vI 1728, vI v2], (G0, M)) out
    refine R_ite e (fun b2 e => ?_) (fun b2 e => ?_)
    · refine Rn_icT (tgt := 42) hc rfl rfl (by decide) b2 ?_
      refine Rn_ms (σ' := (43, [some (vR a0), some (vI v1), some (vI v2)], [vI v1], (G0, M))) hc 1 rfl ?_
      cases e
      exact R_end (Rn_iret hc rfl rfl (xretI rfl rfl)) hK
    · refine Rn_icF hc rfl rfl (by decide) b2 ?_
      refine Rn_ms (σ' := (25, [some (vR a0), some (vI v1), some (vI v2)], [vR a0], (G0, M))) hc 1 rfl ?_
      refine Rn_getR hc rfl h0 (by decide) rfl (gP4_0_0 h0) ?_
      refine Rn_ms (σ' := (29, [some (vR a0), some (vI v1), some (vI v2)], [vI v2, vR (a0 + 1)], (G0, M))) hc 1 rfl ?_
      refine R_gd e (fun g3 e => ?_)
      refine Rn_iald hc rfl rfl (gT4_1 h0) (gZ4_1 h0) g3 rfl ?_
      show Rn rom (d + 0) 28 (30, [some (vR a0), some (vI v1), some (vI v2)], [vI (M (a0 + 1) (wr v2).toNat)], (G0, M)) out
      refine R_ite e (fun b4 e => ?_) (fun b4 e => ?_)
      · refine Rn_ifT (tgt := 36) hc rfl rfl (by decide) b4 ?_
        refine Rn_ms (σ' := (4, [some (vR a0), some (vI v1), some (vI (v2 + 1))], [], (G0, M))) hc 2 rfl ?_
        cases e
        exact Rn_weak (xle_s (xle_s (xle_s xle_0))) hK
      · refine Rn_ifF hc rfl rfl (by decide) b4 ?_
        refine Rn_ms (σ' := (4, [some (vR a0), some (vI (v1 + 1)), some (vI (v2 + 1))], [], (G0, M))) hc 3 rfl ?_
        cases e
        exact Rn_weak (xle_s (xle_s (xle_s xle_0))) hK
def f_36_L4 (M : xM) (a0 : Nat) (s : Int × Int) : Option (Int) := loop NF (fun s => f_36_L4b M a0 s.1 s.2) s
theorem t_36_L4 {rom : xRom} {d : Nat} {a0 : Nat} {M : xM} (h0 : Tg a0 = 4) {s : Int × Int} {r : Int} {out : Option xV × xH} (e : f_36_L4 M a0 s = some r) (hK : (eI M out) r) : Rn rom (d + 0) 28 (4, [some (vR a0), some (vI s.1), some (vI s.2)], [], (G0, M)) out := by
  unfold f_36_L4 at e
  revert e hK
  exact R_loop (b := fun s => f_36_L4b M a0 s.1 s.2) (G := fun s => Rn rom (d + 0) 28 (4, [some (vR a0), some (vI s.1), some (vI s.2)], [], (G0, M)) out) (K := eI M out) (fun s r e hK => t_36_L4b h0 e hK) NF s r
/-- PedalLayers$Notes.howMany -/
def f_36 (M : xM) (a0 : Nat) : Option (Int) :=
  f_36_L4 M a0 (0, 0)
theorem t_36 {rom : xRom} {d : Nat} {M : xM} {a0 : Nat} (h0 : Tg a0 = 4) {r : Int} {out : Option xV × xH} (e : f_36 M a0 = some r) (hK : eI M out r) : Rn rom (d + 0) 28 (0, [some (vR a0), none, none], [], (G0, M)) out := by
  have hc : xkall.getD 28 [] = xk_28 := rfl
  unfold f_36 at e
  refine Rn_ms (σ' := (4, [some (vR a0), some (vI 0), some (vI 0)], [], (G0, M))) hc 4 rfl ?_
  exact Rn_weak (xle_s (xle_s (xle_s xle_0))) (t_36_L4 h0 e hK)
def f_37_L4b (M : xM) (a0 : Nat) (v1 : Int) (v2 : Int) : Option ((Int × Int) ⊕ (Int)) :=
  if wr ((M a0 1) * 36) ≤ wr v2 then
    some (.inr (v1))
  else
    if 1728 ≤ wr v2 then
      some (.inr (v1))
    else
      gd (0 ≤ wr v2 ∧ wr v2 < 1728) (
      some (.inl ((v1 + (M (a0 + 1) (wr v2).toNat)), (v2 + 1)))
      )
theorem t_37_L4b {rom : xRom} {d : Nat} {a0 : Nat} {v1 : Int} {v2 : Int} {M : xM} (h0 : Tg a0 = 4) {r : (Int × Int) ⊕ (Int)} {out : Option xV × xH} (e : f_37_L4b M a0 v1 v2 = some r) (hK : ((Sum.elim (fun s => Rn rom (d + 0) 29 (4, [some (vR a0), some (vI s.1), some (vI s.2)], [], (G0, M)) out) (eI M out))) r) : Rn rom (d + 0) 29 (4, [some (vR a0), some (vI v1), some (vI v2)], [], (G0, M)) out := by
  have hc : xkall.getD 29 [] = xk_29 := rfl
  unfold f_37_L4b at e
  refine Rn_ms (σ' := (6, [some (vR a0), some (vI v1), some (vI v2)], [vR a0, vI v2], (G0, M))) hc 2 rfl ?_
  refine Rn_getI hc rfl h0 (by decide) (by decide) ?_
  refine Rn_ms (σ' := (12, [some (vR a0), some (vI v1), some (vI v2)], [vI ((M a0 1) * 36), vI v2], (G0, M))) hc 2 rfl ?_
  refine R_ite e (fun b1 e => ?_) (fun b1 e => ?_)
  · refine Rn_icT (tgt := 39) hc rfl rfl (by decide) b1 ?_
    refine Rn_ms (σ' := (40, [some (vR a0), some (vI v1), some (vI v2)], [vI v1], (G0, M))) hc 1 rfl ?_
    cases e
    exact R_end (Rn_iret hc rfl rfl (xretI rfl rfl)) hK
  · refine Rn_icF hc rfl rfl (by decide) b1 ?_
    refine Rn_ms (σ' := (17, [some (vR a0), some (vI v1), some (vI v2)], [vR a0, vI v2], (G0, M))) hc 2 rfl ?_
    refine Rn_getR hc rfl h0 (by decide) rfl (gP4_0_0 h0) ?_
    show Rn rom (d + 0) 29 (20, [some (vR a0), some (vI v1), some (vI v2)], [vR (a0 + 1), vI v2], (G0, M)) out
    refine Rn_alen hc rfl rfl (gT4_1 h0) (by decide) (gZ4_1 h0) ?_
    show Rn rom (d + 0) 29 (21, [some (vR a0), some (vI v1), some (vI v2)], [vI 1728, vI v2], (G0, M)) out
    refine R_ite e (fun b2 e => ?_) (fun b2 e => ?_)
    · refine Rn_icT (tgt := 39) hc rfl rfl (by decide) b2 ?_
      refine Rn_ms (σ' := (40, [some (vR a0), some (vI v1), some (vI v2)], [vI v1], (G0, M))) hc 1 rfl ?_
      cases e
      exact R_end (Rn_iret hc rfl rfl (xretI rfl rfl)) hK
    · refine Rn_icF hc rfl rfl (by decide) b2 ?_
      refine Rn_ms (σ' := (26, [some (vR a0), some (vI v1), some (vI v2)], [vR a0, vI v1], (G0, M))) hc 2 rfl ?_
      refine Rn_getR hc rfl h0 (by decide) rfl (gP4_0_0 h0) ?_
      refine Rn_ms (σ' := (30, [some (vR a0), some (vI v1), some (vI v2)], [vI v2, vR (a0 + 1), vI v1], (G0, M))) hc 1 rfl ?_
      refine R_gd e (fun g3 e => ?_)
      refine Rn_iald hc rfl rfl (gT4_1 h0) (gZ4_1 h0) g3 rfl ?_
      refine Rn_ms (σ' := (4, [some (vR a0), some (vI (v1 + (M (a0 + 1) (wr v2).toNat))), some (vI (v2 + 1))], [], (G0, M))) hc 4 rfl ?_
      cases e
      exact Rn_weak (xle_s (xle_s (xle_s xle_0))) hK
def f_37_L4 (M : xM) (a0 : Nat) (s : Int × Int) : Option (Int) := loop NF (fun s => f_37_L4b M a0 s.1 s.2) s
theorem t_37_L4 {rom : xRom} {d : Nat} {a0 : Nat} {M : xM} (h0 : Tg a0 = 4) {s : Int × Int} {r : Int} {out : Option xV × xH} (e : f_37_L4 M a0 s = some r) (hK : (eI M out) r) : Rn rom (d + 0) 29 (4, [some (vR a0), some (vI s.1), some (vI s.2)], [], (G0, M)) out := by
  unfold f_37_L4 at e
  revert e hK
  exact R_loop (b := fun s => f_37_L4b M a0 s.1 s.2) (G := fun s => Rn rom (d + 0) 29 (4, [some (vR a0), some (vI s.1), some (vI s.2)], [], (G0, M)) out) (K := eI M out) (fun s r e hK => t_37_L4b h0 e hK) NF s r
/-- PedalLayers$Notes.sum -/
def f_37 (M : xM) (a0 : Nat) : Option (Int) :=
  f_37_L4 M a0 (0, 0)
theorem t_37 {rom : xRom} {d : Nat} {M : xM} {a0 : Nat} (h0 : Tg a0 = 4) {r : Int} {out : Option xV × xH} (e : f_37 M a0 = some r) (hK : eI M out r) : Rn rom (d + 0) 29 (0, [some (vR a0), none, none], [], (G0, M)) out := by
  have hc : xkall.getD 29 [] = xk_29 := rfl
  unfold f_37 at e
  refine Rn_ms (σ' := (4, [some (vR a0), some (vI 0), some (vI 0)], [], (G0, M))) hc 4 rfl ?_
  exact Rn_weak (xle_s (xle_s (xle_s xle_0))) (t_37_L4 h0 e hK)
def f_38_L15b (M : xM) (a0 : Nat) (c1 : Int) (c3 : Int) (v2 : Int) (v4 : Int) : Option ((Int × Int) ⊕ ((Int × Int) ⊕ (Int))) :=
  if 36 ≤ wr v4 then
    some (.inr (.inl (v2, (c3 + 1))))
  else
    some (.inl ((xmax v2 (f_30 M a0 c3 v4)), (v4 + 1)))
theorem t_38_L15b {rom : xRom} {d : Nat} {a0 : Nat} {c1 : Int} {c3 : Int} {v2 : Int} {v4 : Int} {M : xM} (h0 : Tg a0 = 4) {r : (Int × Int) ⊕ ((Int × Int) ⊕ (Int))} {out : Option xV × xH} (e : f_38_L15b M a0 c1 c3 v2 v4 = some r) (hK : ((Sum.elim (fun s => Rn rom (d + 2) 30 (15, [some (vR a0), some (vI c1), some (vI s.1), some (vI c3), some (vI s.2)], [], (G0, M)) out) ((Sum.elim (fun s => Rn rom (d + 2) 30 (4, [some (vR a0), some (vI c1), some (vI s.1), some (vI s.2), none], [], (G0, M)) out) (eI M out))))) r) : Rn rom (d + 2) 30 (15, [some (vR a0), some (vI c1), some (vI v2), some (vI c3), some (vI v4)], [], (G0, M)) out := by
  have hc : xkall.getD 30 [] = xk_30 := rfl
  unfold f_38_L15b at e
  refine Rn_ms (σ' := (19, [some (vR a0), some (vI c1), some (vI v2), some (vI c3), some (vI v4)], [vI 36, vI v4], (G0, M))) hc 2 rfl ?_
  refine R_ite e (fun b2 e => ?_) (fun b2 e => ?_)
  · refine Rn_icT (tgt := 40) hc rfl rfl (by decide) b2 ?_
    refine Rn_ms (σ' := (4, [some (vR a0), some (vI c1), some (vI v2), some (vI (c3 + 1)), some (vI v4)], [], (G0, M))) hc 2 rfl ?_
    cases e
    exact Rn_weak (xle_s (xle_s (xle_s (xle_s (xle_n xle_0))))) hK
  · refine Rn_icF hc rfl rfl (by decide) b2 ?_
    refine Rn_ms (σ' := (27, [some (vR a0), some (vI c1), some (vI v2), some (vI c3), some (vI v4)], [vI v4, vI c3, vR a0, vI v2], (G0, M))) hc 4 rfl ?_
    refine Rn_cv hc rfl rfl (by decide) (ii := xi_22) rfl rfl rfl (h0 : Tg _ = 4) (by decide) rfl (le := [some (vR a0), some (vI c3), some (vI v4), none]) rfl (v := some (vI (f_30 M a0 c3 v4))) (M' := M) (t_30 h0 (d := d + 0) rfl rfl) ?_
    show Rn rom (d + 2) 30 (30, [some (vR a0), some (vI c1), some (vI v2), some (vI c3), some (vI v4)], [vI (f_30 M a0 c3 v4), vI v2], (G0, M)) out
    refine Rn_max hc rfl rfl (Nat.le_of_ble_eq_true rfl) ?_
    refine Rn_ms (σ' := (15, [some (vR a0), some (vI c1), some (vI (xmax v2 (f_30 M a0 c3 v4))), some (vI c3), some (vI (v4 + 1))], [], (G0, M))) hc 3 rfl ?_
    cases e
    exact Rn_weak (xle_s (xle_s (xle_s (xle_s (xle_s xle_0))))) hK
def f_38_L15 (M : xM) (a0 : Nat) (c1 : Int) (c3 : Int) (s : Int × Int) : Option ((Int × Int) ⊕ (Int)) := loop NF (fun s => f_38_L15b M a0 c1 c3 s.1 s.2) s
theorem t_38_L15 {rom : xRom} {d : Nat} {a0 : Nat} {c1 : Int} {c3 : Int} {M : xM} (h0 : Tg a0 = 4) {s : Int × Int} {r : (Int × Int) ⊕ (Int)} {out : Option xV × xH} (e : f_38_L15 M a0 c1 c3 s = some r) (hK : ((Sum.elim (fun s => Rn rom (d + 2) 30 (4, [some (vR a0), some (vI c1), some (vI s.1), some (vI s.2), none], [], (G0, M)) out) (eI M out))) r) : Rn rom (d + 2) 30 (15, [some (vR a0), some (vI c1), some (vI s.1), some (vI c3), some (vI s.2)], [], (G0, M)) out := by
  unfold f_38_L15 at e
  revert e hK
  exact R_loop (b := fun s => f_38_L15b M a0 c1 c3 s.1 s.2) (G := fun s => Rn rom (d + 2) 30 (15, [some (vR a0), some (vI c1), some (vI s.1), some (vI c3), some (vI s.2)], [], (G0, M)) out) (K := (Sum.elim (fun s => Rn rom (d + 2) 30 (4, [some (vR a0), some (vI c1), some (vI s.1), some (vI s.2), none], [], (G0, M)) out) (eI M out))) (fun s r e hK => t_38_L15b h0 e hK) NF s r
def f_38_L4b (M : xM) (a0 : Nat) (c1 : Int) (v2 : Int) (v3 : Int) : Option ((Int × Int) ⊕ (Int)) :=
  if wr (M a0 1) ≤ wr v3 then
    some (.inr (v2))
  else
    f_38_L15 M a0 c1 v3 (v2, c1)
theorem t_38_L4b {rom : xRom} {d : Nat} {a0 : Nat} {c1 : Int} {v2 : Int} {v3 : Int} {M : xM} (h0 : Tg a0 = 4) {r : (Int × Int) ⊕ (Int)} {out : Option xV × xH} (e : f_38_L4b M a0 c1 v2 v3 = some r) (hK : ((Sum.elim (fun s => Rn rom (d + 2) 30 (4, [some (vR a0), some (vI c1), some (vI s.1), some (vI s.2), none], [], (G0, M)) out) (eI M out))) r) : Rn rom (d + 2) 30 (4, [some (vR a0), some (vI c1), some (vI v2), some (vI v3), none], [], (G0, M)) out := by
  have hc : xkall.getD 30 [] = xk_30 := rfl
  unfold f_38_L4b at e
  refine Rn_ms (σ' := (6, [some (vR a0), some (vI c1), some (vI v2), some (vI v3), none], [vR a0, vI v3], (G0, M))) hc 2 rfl ?_
  refine Rn_getI hc rfl h0 (by decide) (by decide) ?_
  show Rn rom (d + 2) 30 (9, [some (vR a0), some (vI c1), some (vI v2), some (vI v3), none], [vI (M a0 1), vI v3], (G0, M)) out
  refine R_ite e (fun b1 e => ?_) (fun b1 e => ?_)
  · refine Rn_icT (tgt := 46) hc rfl rfl (by decide) b1 ?_
    refine Rn_ms (σ' := (47, [some (vR a0), some (vI c1), some (vI v2), some (vI v3), none], [vI v2], (G0, M))) hc 1 rfl ?_
    cases e
    exact R_end (Rn_iret hc rfl rfl (xretI rfl rfl)) hK
  · refine Rn_icF hc rfl rfl (by decide) b1 ?_
    refine Rn_ms (σ' := (15, [some (vR a0), some (vI c1), some (vI v2), some (vI v3), some (vI c1)], [], (G0, M))) hc 2 rfl ?_
    exact Rn_weak (xle_s (xle_s (xle_s (xle_s (xle_s xle_0))))) (t_38_L15 h0 e hK)
def f_38_L4 (M : xM) (a0 : Nat) (c1 : Int) (s : Int × Int) : Option (Int) := loop NF (fun s => f_38_L4b M a0 c1 s.1 s.2) s
theorem t_38_L4 {rom : xRom} {d : Nat} {a0 : Nat} {c1 : Int} {M : xM} (h0 : Tg a0 = 4) {s : Int × Int} {r : Int} {out : Option xV × xH} (e : f_38_L4 M a0 c1 s = some r) (hK : (eI M out) r) : Rn rom (d + 2) 30 (4, [some (vR a0), some (vI c1), some (vI s.1), some (vI s.2), none], [], (G0, M)) out := by
  unfold f_38_L4 at e
  revert e hK
  exact R_loop (b := fun s => f_38_L4b M a0 c1 s.1 s.2) (G := fun s => Rn rom (d + 2) 30 (4, [some (vR a0), some (vI c1), some (vI s.1), some (vI s.2), none], [], (G0, M)) out) (K := eI M out) (fun s r e hK => t_38_L4b h0 e hK) NF s r
/-- PedalLayers$Notes.greatestFrom -/
def f_38 (M : xM) (a0 : Nat) (a1 : Int) : Option (Int) :=
  f_38_L4 M a0 a1 (0, 0)
theorem t_38 {rom : xRom} {d : Nat} {M : xM} {a0 : Nat} {a1 : Int} (h0 : Tg a0 = 4) {r : Int} {out : Option xV × xH} (e : f_38 M a0 a1 = some r) (hK : eI M out r) : Rn rom (d + 2) 30 (0, [some (vR a0), some (vI a1), none, none, none], [], (G0, M)) out := by
  have hc : xkall.getD 30 [] = xk_30 := rfl
  unfold f_38 at e
  refine Rn_ms (σ' := (4, [some (vR a0), some (vI a1), some (vI 0), some (vI 0), none], [], (G0, M))) hc 4 rfl ?_
  exact Rn_weak (xle_s (xle_s (xle_s (xle_s (xle_s xle_0))))) (t_38_L4 h0 e hK)
/-- PedalLayers$Pad.size -/
def f_44 (M : xM) : Int :=
  (M 172 1)
theorem t_44 {rom : xRom} {d : Nat} {M : xM}  {r : Int} {out : Option xV × xH} (e : f_44 M = r) (hK : eI M out r) : Rn rom (d + 0) 33 (0, [some (vR 172)], [], (G0, M)) out := by
  have hc : xkall.getD 33 [] = xk_33 := rfl
  unfold f_44 at e
  refine Rn_ms (σ' := (1, [some (vR 172)], [vR 172], (G0, M))) hc 1 rfl ?_
  refine Rn_getI hc rfl tgc_172 (by decide) (by decide) ?_
  show Rn rom (d + 0) 33 (4, [some (vR 172)], [vI (M 172 1)], (G0, M)) out
  cases e
  exact R_end (Rn_iret hc rfl rfl (xretI rfl rfl)) hK
/-- PedalLayers$Pedal.loopPlays -/
def f_61 (M : xM) (a0 : Nat) : Int :=
  if wr (M a0 4) = 2 then
    1
  else
    if wr (M a0 4) = 3 then
      1
    else
      0
theorem t_61 {rom : xRom} {d : Nat} {M : xM} {a0 : Nat} (h0 : Tg a0 = 7) {r : Int} {out : Option xV × xH} (e : f_61 M a0 = r) (hK : eI M out r) : Rn rom (d + 0) 41 (0, [some (vR a0)], [], (G0, M)) out := by
  have hc : xkall.getD 41 [] = xk_41 := rfl
  unfold f_61 at e
  refine Rn_ms (σ' := (1, [some (vR a0)], [vR a0], (G0, M))) hc 1 rfl ?_
  refine Rn_getI hc rfl h0 (by decide) (by decide) ?_
  refine Rn_ms (σ' := (5, [some (vR a0)], [vI 2, vI (M a0 4)], (G0, M))) hc 1 rfl ?_
  refine R_ite e (fun b1 e => ?_) (fun b1 e => ?_)
  · refine Rn_icT (tgt := 16) hc rfl rfl (by decide) b1 ?_
    refine Rn_ms (σ' := (21, [some (vR a0)], [vI 1], (G0, M))) hc 2 rfl ?_
    cases e
    exact R_end (Rn_iret hc rfl rfl (xretB rfl rfl (by decide))) hK
  · refine Rn_icF hc rfl rfl (by decide) b1 ?_
    refine Rn_ms (σ' := (9, [some (vR a0)], [vR a0], (G0, M))) hc 1 rfl ?_
    refine Rn_getI hc rfl h0 (by decide) (by decide) ?_
    refine Rn_ms (σ' := (13, [some (vR a0)], [vI 3, vI (M a0 4)], (G0, M))) hc 1 rfl ?_
    refine R_ite e (fun b2 e => ?_) (fun b2 e => ?_)
    · refine Rn_icF hc rfl rfl (by decide) (fun w => w b2) ?_
      refine Rn_ms (σ' := (21, [some (vR a0)], [vI 1], (G0, M))) hc 2 rfl ?_
      cases e
      exact R_end (Rn_iret hc rfl rfl (xretB rfl rfl (by decide))) hK
    · refine Rn_icT (tgt := 20) hc rfl rfl (by decide) (fun w => b2 w) ?_
      refine Rn_ms (σ' := (21, [some (vR a0)], [vI 0], (G0, M))) hc 1 rfl ?_
      cases e
      exact R_end (Rn_iret hc rfl rfl (xretB rfl rfl (by decide))) hK
/-- PedalLayers$Pedal.firstLength -/
def f_63 (M : xM) (a0 : Nat) : Option (Int) :=
  if (f_58 M a0 0) = 0 then
    some (0)
  else
    gd (Tg (f_58 M a0 0) = 3) (
    some (f_29 M ((f_58 M a0 0) + 1))
    )
theorem t_63 {rom : xRom} {d : Nat} {M : xM} {a0 : Nat} (h0 : Tg a0 = 7) {r : Int} {out : Option xV × xH} (e : f_63 M a0 = some r) (hK : eI M out r) : Rn rom (d + 2) 43 (0, [some (vR a0), none], [], (G0, M)) out := by
  have hc : xkall.getD 43 [] = xk_43 := rfl
  unfold f_63 at e
  refine Rn_ms (σ' := (2, [some (vR a0), none], [vI 0, vR a0], (G0, M))) hc 2 rfl ?_
  refine Rn_cv hc rfl rfl (by decide) (ii := xi_38) rfl rfl rfl (h0 : Tg _ = 7) (by decide) rfl (le := [some (vR a0), some (vI 0)]) rfl (v := some (vR (f_58 M a0 0))) (M' := M) (t_58 h0 (d := d + 0) rfl rfl) ?_
  refine Rn_ms (σ' := (7, [some (vR a0), some (vR (f_58 M a0 0))], [vR (f_58 M a0 0)], (G0, M))) hc 2 rfl ?_
  refine R_ite e (fun b1 e => ?_) (fun b1 e => ?_)
  · refine Rn_nnF hc rfl rfl (by decide) b1 ?_
    refine Rn_ms (σ' := (21, [some (vR a0), some (vR (f_58 M a0 0))], [vI 0], (G0, M))) hc 2 rfl ?_
    cases e
    exact R_end (Rn_iret hc rfl rfl (xretI rfl rfl)) hK
  · refine Rn_nnT (tgt := 14) hc rfl rfl (by decide) b1 ?_
    refine Rn_ms (σ' := (15, [some (vR a0), some (vR (f_58 M a0 0))], [vR (f_58 M a0 0)], (G0, M))) hc 1 rfl ?_
    refine R_gd e (fun g2 e => ?_)
    refine Rn_getR hc rfl g2 (by decide) rfl (gP3_0_0 g2) ?_
    show Rn rom (d + 2) 43 (18, [some (vR a0), some (vR (f_58 M a0 0))], [vR ((f_58 M a0 0) + 1)], (G0, M)) out
    refine Rn_cv hc rfl rfl (by decide) (ii := xi_21) rfl rfl rfl ((gT3_1 g2) : Tg _ = 4) (by decide) rfl (le := [some (vR ((f_58 M a0 0) + 1))]) rfl (v := some (vI (f_29 M ((f_58 M a0 0) + 1)))) (M' := M) (t_29 (gT3_1 g2) (d := d + 1) rfl rfl) ?_
    show Rn rom (d + 2) 43 (21, [some (vR a0), some (vR (f_58 M a0 0))], [vI (f_29 M ((f_58 M a0 0) + 1))], (G0, M)) out
    cases e
    exact R_end (Rn_iret hc rfl rfl (xretI rfl rfl)) hK
/-- PedalLayers$Pedal.isCell -/
def f_64 (M : xM) (a0 : Nat) (a1 : Int) : Option (Int) :=
  if wr a1 < 0 then
    some (0)
  else
    (f_62 M a0 (M a0 5)).bind (fun k2 =>
    if wr k2 ≤ wr a1 then
      some (0)
    else
      some (1)
    )
theorem t_64 {rom : xRom} {d : Nat} {M : xM} {a0 : Nat} {a1 : Int} (h0 : Tg a0 = 7) {r : Int} {out : Option xV × xH} (e : f_64 M a0 a1 = some r) (hK : eI M out r) : Rn rom (d + 2) 44 (0, [some (vR a0), some (vI a1)], [], (G0, M)) out := by
  have hc : xkall.getD 44 [] = xk_44 := rfl
  unfold f_64 at e
  refine Rn_ms (σ' := (1, [some (vR a0), some (vI a1)], [vI a1], (G0, M))) hc 1 rfl ?_
  refine R_ite e (fun b1 e => ?_) (fun b1 e => ?_)
  · refine Rn_ifT (tgt := 20) hc rfl rfl (by decide) b1 ?_
    refine Rn_ms (σ' := (21, [some (vR a0), some (vI a1)], [vI 0], (G0, M))) hc 1 rfl ?_
    cases e
    exact R_end (Rn_iret hc rfl rfl (xretB rfl rfl (by decide))) hK
  · refine Rn_ifF hc rfl rfl (by decide) b1 ?_
    refine Rn_ms (σ' := (7, [some (vR a0), some (vI a1)], [vR a0, vR a0, vI a1], (G0, M))) hc 3 rfl ?_
    refine Rn_getI hc rfl h0 (by decide) (by decide) ?_
    show Rn rom (d + 2) 44 (10, [some (vR a0), some (vI a1)], [vI (M a0 5), vR a0, vI a1], (G0, M)) out
    refine R_bind e (fun k2 hk2 e => ?_)
    refine Rn_cv hc rfl rfl (by decide) (ii := xi_42) rfl rfl rfl (h0 : Tg _ = 7) (by decide) rfl (le := [some (vR a0), some (vI (M a0 5)), none, none, none]) rfl (v := some (vI k2)) (M' := M) (t_62 h0 (d := d + 0) hk2 rfl) ?_
    show Rn rom (d + 2) 44 (13, [some (vR a0), some (vI a1)], [vI k2, vI a1], (G0, M)) out
    refine R_ite e (fun b3 e => ?_) (fun b3 e => ?_)
    · refine Rn_icT (tgt := 20) hc rfl rfl (by decide) b3 ?_
      refine Rn_ms (σ' := (21, [some (vR a0), some (vI a1)], [vI 0], (G0, M))) hc 1 rfl ?_
      cases e
      exact R_end (Rn_iret hc rfl rfl (xretB rfl rfl (by decide))) hK
    · refine Rn_icF hc rfl rfl (by decide) b3 ?_
      refine Rn_ms (σ' := (21, [some (vR a0), some (vI a1)], [vI 1], (G0, M))) hc 2 rfl ?_
      cases e
      exact R_end (Rn_iret hc rfl rfl (xretB rfl rfl (by decide))) hK
def f_67_L4b (M : xM) (a0 : Nat) (v1 : Int) (v2 : Int) : Option ((Int × Int) ⊕ (Int)) :=
  if wr (M a0 5) ≤ wr v2 then
    some (.inr (v1))
  else
    (f_66 M a0 v2).bind (fun k2 =>
    if k2 = 0 then
      some (.inl (v1, (v2 + 1)))
    else
      gd (Tg k2 = 3) (
      (f_38 M (k2 + 1) (f_65 M a0)).bind (fun k5 =>
      some (.inl ((xmax v1 k5), (v2 + 1)))
      ))
    )
theorem t_67_L4b {rom : xRom} {d : Nat} {a0 : Nat} {v1 : Int} {v2 : Int} {M : xM} (h0 : Tg a0 = 7) {r : (Int × Int) ⊕ (Int)} {out : Option xV × xH} (e : f_67_L4b M a0 v1 v2 = some r) (hK : ((Sum.elim (fun s => Rn rom (d + 3) 47 (4, [some (vR a0), some (vI s.1), some (vI s.2), none], [], (G0, M)) out) (eI M out))) r) : Rn rom (d + 3) 47 (4, [some (vR a0), some (vI v1), some (vI v2), none], [], (G0, M)) out := by
  have hc : xkall.getD 47 [] = xk_47 := rfl
  unfold f_67_L4b at e
  refine Rn_ms (σ' := (6, [some (vR a0), some (vI v1), some (vI v2), none], [vR a0, vI v2], (G0, M))) hc 2 rfl ?_
  refine Rn_getI hc rfl h0 (by decide) (by decide) ?_
  show Rn rom (d + 3) 47 (9, [some (vR a0), some (vI v1), some (vI v2), none], [vI (M a0 5), vI v2], (G0, M)) out
  refine R_ite e (fun b1 e => ?_) (fun b1 e => ?_)
  · refine Rn_icT (tgt := 44) hc rfl rfl (by decide) b1 ?_
    refine Rn_ms (σ' := (45, [some (vR a0), some (vI v1), some (vI v2), none], [vI v1], (G0, M))) hc 1 rfl ?_
    cases e
    exact R_end (Rn_iret hc rfl rfl (xretI rfl rfl)) hK
  · refine Rn_icF hc rfl rfl (by decide) b1 ?_
    refine Rn_ms (σ' := (14, [some (vR a0), some (vI v1), some (vI v2), none], [vI v2, vR a0], (G0, M))) hc 2 rfl ?_
    refine R_bind e (fun k2 hk2 e => ?_)
    refine Rn_cv hc rfl rfl (by decide) (ii := xi_46) rfl rfl rfl (h0 : Tg _ = 7) (by decide) rfl (le := [some (vR a0), some (vI v2), none]) rfl (v := some (vR k2)) (M' := M) (t_66 h0 (d := d + 0) hk2 rfl) ?_
    refine Rn_ms (σ' := (19, [some (vR a0), some (vI v1), some (vI v2), some (vR k2)], [vR k2], (G0, M))) hc 2 rfl ?_
    refine R_ite e (fun b3 e => ?_) (fun b3 e => ?_)
    · refine Rn_nuT (tgt := 38) hc rfl rfl (by decide) b3 ?_
      refine Rn_ms (σ' := (4, [some (vR a0), some (vI v1), some (vI (v2 + 1)), some (vR k2)], [], (G0, M))) hc 2 rfl ?_
      cases e
      exact Rn_weak (xle_s (xle_s (xle_s (xle_n xle_0)))) hK
    · refine Rn_nuF hc rfl rfl (by decide) b3 ?_
      refine Rn_ms (σ' := (24, [some (vR a0), some (vI v1), some (vI v2), some (vR k2)], [vR k2, vI v1], (G0, M))) hc 2 rfl ?_
      refine R_gd e (fun g4 e => ?_)
      refine Rn_getR hc rfl g4 (by decide) rfl (gP3_0_0 g4) ?_
      refine Rn_ms (σ' := (28, [some (vR a0), some (vI v1), some (vI v2), some (vR k2)], [vR a0, vR (k2 + 1), vI v1], (G0, M))) hc 1 rfl ?_
      refine Rn_cv hc rfl rfl (by decide) (ii := xi_45) rfl rfl rfl (h0 : Tg _ = 7) (by decide) rfl (le := [some (vR a0)]) rfl (v := some (vI (f_65 M a0))) (M' := M) (t_65 h0 (d := d + 2) rfl rfl) ?_
      show Rn rom (d + 3) 47 (31, [some (vR a0), some (vI v1), some (vI v2), some (vR k2)], [vI (f_65 M a0), vR (k2 + 1), vI v1], (G0, M)) out
      refine R_bind e (fun k5 hk5 e => ?_)
      refine Rn_cv hc rfl rfl (by decide) (ii := xi_30) rfl rfl rfl ((gT3_1 g4) : Tg _ = 4) (by decide) rfl (le := [some (vR (k2 + 1)), some (vI (f_65 M a0)), none, none, none]) rfl (v := some (vI k5)) (M' := M) (t_38 (gT3_1 g4) (d := d + 0) hk5 rfl) ?_
      show Rn rom (d + 3) 47 (34, [some (vR a0), some (vI v1), some (vI v2), some (vR k2)], [vI k5, vI v1], (G0, M)) out
      refine Rn_max hc rfl rfl (Nat.le_of_ble_eq_true rfl) ?_
      refine Rn_ms (σ' := (4, [some (vR a0), some (vI (xmax v1 k5)), some (vI (v2 + 1)), some (vR k2)], [], (G0, M))) hc 3 rfl ?_
      cases e
      exact Rn_weak (xle_s (xle_s (xle_s (xle_n xle_0)))) hK
def f_67_L4 (M : xM) (a0 : Nat) (s : Int × Int) : Option (Int) := loop NF (fun s => f_67_L4b M a0 s.1 s.2) s
theorem t_67_L4 {rom : xRom} {d : Nat} {a0 : Nat} {M : xM} (h0 : Tg a0 = 7) {s : Int × Int} {r : Int} {out : Option xV × xH} (e : f_67_L4 M a0 s = some r) (hK : (eI M out) r) : Rn rom (d + 3) 47 (4, [some (vR a0), some (vI s.1), some (vI s.2), none], [], (G0, M)) out := by
  unfold f_67_L4 at e
  revert e hK
  exact R_loop (b := fun s => f_67_L4b M a0 s.1 s.2) (G := fun s => Rn rom (d + 3) 47 (4, [some (vR a0), some (vI s.1), some (vI s.2), none], [], (G0, M)) out) (K := eI M out) (fun s r e hK => t_67_L4b h0 e hK) NF s r
/-- PedalLayers$Pedal.greatestHeardForce -/
def f_67 (M : xM) (a0 : Nat) : Option (Int) :=
  f_67_L4 M a0 (0, 0)
theorem t_67 {rom : xRom} {d : Nat} {M : xM} {a0 : Nat} (h0 : Tg a0 = 7) {r : Int} {out : Option xV × xH} (e : f_67 M a0 = some r) (hK : eI M out r) : Rn rom (d + 3) 47 (0, [some (vR a0), none, none, none], [], (G0, M)) out := by
  have hc : xkall.getD 47 [] = xk_47 := rfl
  unfold f_67 at e
  refine Rn_ms (σ' := (4, [some (vR a0), some (vI 0), some (vI 0), none], [], (G0, M))) hc 4 rfl ?_
  exact Rn_weak (xle_s (xle_s (xle_s (xle_s xle_0)))) (t_67_L4 h0 e hK)
def f_68_L20b (M : xM) (a0 : Nat) (c1 : Int) (c2 : Int) (v3 : Int) (v4 : Int) (v5 : Int) : Option ((Int × Int × Int) ⊕ (Int)) :=
  if 24 < wr v5 then
    some (.inr (v3))
  else
    if 24 < wr (v5 * c2) then
      some (.inr (v3))
    else
      if wr v4 ≤ wr (xabs ((v5 * c2) - c1)) then
        some (.inl (v3, v4, (v5 + 1)))
      else
        some (.inl ((v5 * c2), (xabs ((v5 * c2) - c1)), (v5 + 1)))
theorem t_68_L20b {rom : xRom} {d : Nat} {a0 : Nat} {c1 : Int} {c2 : Int} {v3 : Int} {v4 : Int} {v5 : Int} {M : xM} (h0 : Tg a0 = 7) {r : (Int × Int × Int) ⊕ (Int)} {out : Option xV × xH} (e : f_68_L20b M a0 c1 c2 v3 v4 v5 = some r) (hK : ((Sum.elim (fun s => Rn rom (d + 1) 48 (20, [none, some (vI c1), some (vI c2), some (vI s.1), some (vI s.2.1), some (vI s.2.2), none], [], (G0, M)) out) (eI M out))) r) : Rn rom (d + 1) 48 (20, [none, some (vI c1), some (vI c2), some (vI v3), some (vI v4), some (vI v5), none], [], (G0, M)) out := by
  have hc : xkall.getD 48 [] = xk_48 := rfl
  unfold f_68_L20b at e
  refine Rn_ms (σ' := (24, [none, some (vI c1), some (vI c2), some (vI v3), some (vI v4), some (vI v5), none], [vI 24, vI v5], (G0, M))) hc 2 rfl ?_
  refine R_ite e (fun b1 e => ?_) (fun b1 e => ?_)
  · refine Rn_icT (tgt := 69) hc rfl rfl (by decide) b1 ?_
    refine Rn_ms (σ' := (70, [none, some (vI c1), some (vI c2), some (vI v3), some (vI v4), some (vI v5), none], [vI v3], (G0, M))) hc 1 rfl ?_
    cases e
    exact R_end (Rn_iret hc rfl rfl (xretI rfl rfl)) hK
  · refine Rn_icF hc rfl rfl (by decide) b1 ?_
    refine Rn_ms (σ' := (33, [none, some (vI c1), some (vI c2), some (vI v3), some (vI v4), some (vI v5), none], [vI 24, vI (v5 * c2)], (G0, M))) hc 4 rfl ?_
    refine R_ite e (fun b2 e => ?_) (fun b2 e => ?_)
    · refine Rn_icT (tgt := 69) hc rfl rfl (by decide) b2 ?_
      refine Rn_ms (σ' := (70, [none, some (vI c1), some (vI c2), some (vI v3), some (vI v4), some (vI v5), none], [vI v3], (G0, M))) hc 1 rfl ?_
      cases e
      exact R_end (Rn_iret hc rfl rfl (xretI rfl rfl)) hK
    · refine Rn_icF hc rfl rfl (by decide) b2 ?_
      refine Rn_ms (σ' := (42, [none, some (vI c1), some (vI c2), some (vI v3), some (vI v4), some (vI v5), none], [vI ((v5 * c2) - c1)], (G0, M))) hc 5 rfl ?_
      refine Rn_abs hc rfl rfl (Nat.le_of_ble_eq_true rfl) ?_
      refine Rn_ms (σ' := (51, [none, some (vI c1), some (vI c2), some (vI v3), some (vI v4), some (vI v5), some (vI (xabs ((v5 * c2) - c1)))], [vI v4, vI (xabs ((v5 * c2) - c1))], (G0, M))) hc 3 rfl ?_
      refine R_ite e (fun b3 e => ?_) (fun b3 e => ?_)
      · refine Rn_icT (tgt := 63) hc rfl rfl (by decide) b3 ?_
        refine Rn_ms (σ' := (20, [none, some (vI c1), some (vI c2), some (vI v3), some (vI v4), some (vI (v5 + 1)), some (vI (xabs ((v5 * c2) - c1)))], [], (G0, M))) hc 2 rfl ?_
        cases e
        exact Rn_weak (xle_s (xle_s (xle_s (xle_s (xle_s (xle_s (xle_n xle_0))))))) hK
      · refine Rn_icF hc rfl rfl (by decide) b3 ?_
        refine Rn_ms (σ' := (20, [none, some (vI c1), some (vI c2), some (vI (v5 * c2)), some (vI (xabs ((v5 * c2) - c1))), some (vI (v5 + 1)), some (vI (xabs ((v5 * c2) - c1)))], [], (G0, M))) hc 8 rfl ?_
        cases e
        exact Rn_weak (xle_s (xle_s (xle_s (xle_s (xle_s (xle_s (xle_n xle_0))))))) hK
def f_68_L20 (M : xM) (a0 : Nat) (c1 : Int) (c2 : Int) (s : Int × Int × Int) : Option (Int) := loop NF (fun s => f_68_L20b M a0 c1 c2 s.1 s.2.1 s.2.2) s
theorem t_68_L20 {rom : xRom} {d : Nat} {a0 : Nat} {c1 : Int} {c2 : Int} {M : xM} (h0 : Tg a0 = 7) {s : Int × Int × Int} {r : Int} {out : Option xV × xH} (e : f_68_L20 M a0 c1 c2 s = some r) (hK : (eI M out) r) : Rn rom (d + 1) 48 (20, [none, some (vI c1), some (vI c2), some (vI s.1), some (vI s.2.1), some (vI s.2.2), none], [], (G0, M)) out := by
  unfold f_68_L20 at e
  revert e hK
  exact R_loop (b := fun s => f_68_L20b M a0 c1 c2 s.1 s.2.1 s.2.2) (G := fun s => Rn rom (d + 1) 48 (20, [none, some (vI c1), some (vI c2), some (vI s.1), some (vI s.2.1), some (vI s.2.2), none], [], (G0, M)) out) (K := eI M out) (fun s r e hK => t_68_L20b h0 e hK) NF s r
/-- PedalLayers$Pedal.wholeBars -/
def f_68 (M : xM) (a0 : Nat) (a1 : Int) : Option (Int) :=
  f_68_L20 M a0 a1 (f_59 M a0 0) (a1, ((f_59 M a0 1) + 1), 1)
theorem t_68 {rom : xRom} {d : Nat} {M : xM} {a0 : Nat} {a1 : Int} (h0 : Tg a0 = 7) {r : Int} {out : Option xV × xH} (e : f_68 M a0 a1 = some r) (hK : eI M out r) : Rn rom (d + 1) 48 (0, [some (vR a0), some (vI a1), none, none, none, none, none], [], (G0, M)) out := by
  have hc : xkall.getD 48 [] = xk_48 := rfl
  unfold f_68 at e
  refine Rn_ms (σ' := (2, [some (vR a0), some (vI a1), none, none, none, none, none], [vI 0, vR a0], (G0, M))) hc 2 rfl ?_
  refine Rn_cv hc rfl rfl (by decide) (ii := xi_39) rfl rfl rfl (h0 : Tg _ = 7) (by decide) rfl (le := [some (vR a0), some (vI 0)]) rfl (v := some (vI (f_59 M a0 0))) (M' := M) (t_59 h0 (d := d + 0) rfl rfl) ?_
  refine Rn_ms (σ' := (10, [some (vR a0), some (vI a1), some (vI (f_59 M a0 0)), some (vI a1), none, none, none], [vI 1, vR a0], (G0, M))) hc 5 rfl ?_
  refine Rn_cv hc rfl rfl (by decide) (ii := xi_39) rfl rfl rfl (h0 : Tg _ = 7) (by decide) rfl (le := [some (vR a0), some (vI 1)]) rfl (v := some (vI (f_59 M a0 1))) (M' := M) (t_59 h0 (d := d + 0) rfl rfl) ?_
  refine Rn_ms (σ' := (20, [some (vR a0), some (vI a1), some (vI (f_59 M a0 0)), some (vI a1), some (vI ((f_59 M a0 1) + 1)), some (vI 1), none], [], (G0, M))) hc 5 rfl ?_
  exact Rn_weak (xle_n (xle_s (xle_s (xle_s (xle_s (xle_s (xle_s xle_0))))))) (t_68_L20 h0 e hK)
/-- PedalLayers$Take.begin -/
def f_90 (M : xM) (a0 : Nat) (a1 : Int) (a2 : Int) : Option (xM) :=
  (f_32 M (a0 + 1) a1).bind (fun k1 =>
  bnd (xset k1 a0 1 0) (fun M2 =>
  bnd (xset M2 a0 2 a2) (fun M3 =>
  some (M3)
  )))
theorem t_90 {rom : xRom} {d : Nat} {M : xM} {a0 : Nat} {a1 : Int} {a2 : Int} (h0 : Tg a0 = 8) {r : xM} {out : Option xV × xH} (e : f_90 M a0 a1 a2 = some r) (hK : eVW out r) : Rn rom (d + 1) 70 (0, [some (vR a0), some (vI a1), some (vI a2)], [], (G0, M)) out := by
  have hc : xkall.getD 70 [] = xk_70 := rfl
  unfold f_90 at e
  refine Rn_ms (σ' := (1, [some (vR a0), some (vI a1), some (vI a2)], [vR a0], (G0, M))) hc 1 rfl ?_
  refine Rn_getR hc rfl h0 (by decide) rfl (gP8_0_0 h0) ?_
  refine Rn_ms (σ' := (5, [some (vR a0), some (vI a1), some (vI a2)], [vI a1, vR (a0 + 1)], (G0, M))) hc 1 rfl ?_
  refine R_bind e (fun k1 hk1 e => ?_)
  refine Rn_cv hc rfl rfl (by decide) (ii := xi_24) rfl rfl rfl ((gT8_1 h0) : Tg _ = 4) (by decide) rfl (le := [some (vR (a0 + 1)), some (vI a1), none]) rfl (v := none) (M' := k1) (t_32 (gT8_1 h0) (d := d + 0) hk1 rfl) ?_
  refine Rn_ms (σ' := (10, [some (vR a0), some (vI a1), some (vI a2)], [vI 0, vR a0], (G0, k1))) hc 2 rfl ?_
  refine R_bnd e (fun M2 hM2 e => ?_)
  refine Rn_putI' hM2 hc rfl h0 (by decide) (Or.inl rfl) ?_
  refine Rn_ms (σ' := (15, [some (vR a0), some (vI a1), some (vI a2)], [vI a2, vR a0], (G0, M2))) hc 2 rfl ?_
  refine R_bnd e (fun M3 hM3 e => ?_)
  refine Rn_putI' hM3 hc rfl h0 (by decide) (Or.inl rfl) ?_
  show Rn rom (d + 1) 70 (18, [some (vR a0), some (vI a1), some (vI a2)], [], (G0, M3)) out
  cases e
  exact R_end (Rn_vret hc rfl rfl rfl rfl) hK
/-- PedalLayers$Pedal.beginFirstTake -/
def f_70 (M : xM) (a0 : Nat) : Option (Int × xM) :=
  (f_90 M (a0 + 3) 24 0).bind (fun k1 =>
  bnd (xset k1 a0 4 1) (fun M2 =>
  some ((M2 a0 4), M2)
  ))
theorem t_70 {rom : xRom} {d : Nat} {M : xM} {a0 : Nat} (h0 : Tg a0 = 7) {r : Int × xM} {out : Option xV × xH} (e : f_70 M a0 = some r) (hK : eIW out r) : Rn rom (d + 2) 50 (0, [some (vR a0)], [], (G0, M)) out := by
  have hc : xkall.getD 50 [] = xk_50 := rfl
  unfold f_70 at e
  refine Rn_ms (σ' := (1, [some (vR a0)], [vR a0], (G0, M))) hc 1 rfl ?_
  refine Rn_getR hc rfl h0 (by decide) rfl (gP7_0_2 h0) ?_
  refine Rn_ms (σ' := (7, [some (vR a0)], [vI 0, vI 24, vR (a0 + 3)], (G0, M))) hc 2 rfl ?_
  refine R_bind e (fun k1 hk1 e => ?_)
  refine Rn_cv hc rfl rfl (by decide) (ii := xi_70) rfl rfl rfl ((gT7_3 h0) : Tg _ = 8) (by decide) rfl (le := [some (vR (a0 + 3)), some (vI 24), some (vI 0)]) rfl (v := none) (M' := k1) (t_90 (gT7_3 h0) (d := d + 0) hk1 rfl) ?_
  refine Rn_ms (σ' := (12, [some (vR a0)], [vI 1, vR a0], (G0, k1))) hc 2 rfl ?_
  refine R_bnd e (fun M2 hM2 e => ?_)
  refine Rn_putI' hM2 hc rfl h0 (by decide) (Or.inl rfl) ?_
  refine Rn_ms (σ' := (16, [some (vR a0)], [vR a0], (G0, M2))) hc 1 rfl ?_
  refine Rn_getI hc rfl h0 (by decide) (by decide) ?_
  show Rn rom (d + 2) 50 (19, [some (vR a0)], [vI (M2 a0 4)], (G0, M2)) out
  cases e
  exact R_end (Rn_iret hc rfl rfl (xretI rfl rfl)) hK
/-- PedalLayers$Pedal.beginTakeOver -/
def f_71 (M : xM) (a0 : Nat) : Option (Int × xM) :=
  if wr (M a0 5) < 6 then
    (f_63 M a0).bind (fun k2 =>
    (f_90 M (a0 + 3) (2 * k2) (M a0 7)).bind (fun k3 =>
    bnd (xset k3 a0 4 3) (fun M4 =>
    some ((M4 a0 4), M4)
    )))
  else
    some ((-3), M)
theorem t_71 {rom : xRom} {d : Nat} {M : xM} {a0 : Nat} (h0 : Tg a0 = 7) {r : Int × xM} {out : Option xV × xH} (e : f_71 M a0 = some r) (hK : eIW out r) : Rn rom (d + 3) 51 (0, [some (vR a0)], [], (G0, M)) out := by
  have hc : xkall.getD 51 [] = xk_51 := rfl
  unfold f_71 at e
  refine Rn_ms (σ' := (1, [some (vR a0)], [vR a0], (G0, M))) hc 1 rfl ?_
  refine Rn_getI hc rfl h0 (by decide) (by decide) ?_
  refine Rn_ms (σ' := (6, [some (vR a0)], [vI 6, vI (M a0 5)], (G0, M))) hc 1 rfl ?_
  refine R_ite e (fun b1 e => ?_) (fun b1 e => ?_)
  · refine Rn_icT (tgt := 12) hc rfl rfl (by decide) b1 ?_
    refine Rn_ms (σ' := (13, [some (vR a0)], [vR a0], (G0, M))) hc 1 rfl ?_
    refine Rn_getR hc rfl h0 (by decide) rfl (gP7_0_2 h0) ?_
    refine Rn_ms (σ' := (18, [some (vR a0)], [vR a0, vI 2, vR (a0 + 3)], (G0, M))) hc 2 rfl ?_
    refine R_bind e (fun k2 hk2 e => ?_)
    refine Rn_cv hc rfl rfl (by decide) (ii := xi_43) rfl rfl rfl (h0 : Tg _ = 7) (by decide) rfl (le := [some (vR a0), none]) rfl (v := some (vI k2)) (M' := M) (t_63 h0 (d := d + 0) hk2 rfl) ?_
    refine Rn_ms (σ' := (23, [some (vR a0)], [vR a0, vI (2 * k2), vR (a0 + 3)], (G0, M))) hc 2 rfl ?_
    refine Rn_getI hc rfl h0 (by decide) (by decide) ?_
    show Rn rom (d + 3) 51 (26, [some (vR a0)], [vI (M a0 7), vI (2 * k2), vR (a0 + 3)], (G0, M)) out
    refine R_bind e (fun k3 hk3 e => ?_)
    refine Rn_cv hc rfl rfl (by decide) (ii := xi_70) rfl rfl rfl ((gT7_3 h0) : Tg _ = 8) (by decide) rfl (le := [some (vR (a0 + 3)), some (vI (2 * k2)), some (vI (M a0 7))]) rfl (v := none) (M' := k3) (t_90 (gT7_3 h0) (d := d + 1) hk3 rfl) ?_
    refine Rn_ms (σ' := (31, [some (vR a0)], [vI 3, vR a0], (G0, k3))) hc 2 rfl ?_
    refine R_bnd e (fun M4 hM4 e => ?_)
    refine Rn_putI' hM4 hc rfl h0 (by decide) (Or.inl rfl) ?_
    refine Rn_ms (σ' := (35, [some (vR a0)], [vR a0], (G0, M4))) hc 1 rfl ?_
    refine Rn_getI hc rfl h0 (by decide) (by decide) ?_
    show Rn rom (d + 3) 51 (38, [some (vR a0)], [vI (M4 a0 4)], (G0, M4)) out
    cases e
    exact R_end (Rn_iret hc rfl rfl (xretI rfl rfl)) hK
  · refine Rn_icF hc rfl rfl (by decide) b1 ?_
    refine Rn_ms (σ' := (11, [some (vR a0)], [vI (-3)], (G0, M))) hc 1 rfl ?_
    cases e
    exact R_end (Rn_iret hc rfl rfl (xretI rfl rfl)) hK
/-- PedalLayers$Pedal.startLoop -/
def f_72 (M : xM) (a0 : Nat) : Int × xM :=
  bnd (xset M a0 7 0) (fun M1 =>
  bnd (xset M1 a0 8 0) (fun M2 =>
  bnd (xset M2 a0 9 0) (fun M3 =>
  bnd (xset M3 a0 4 2) (fun M4 =>
  ((M4 a0 4), M4)
  ))))
theorem t_72 {rom : xRom} {d : Nat} {M : xM} {a0 : Nat} (h0 : Tg a0 = 7) {r : Int × xM} {out : Option xV × xH} (e : f_72 M a0 = r) (hK : eIW out r) : Rn rom (d + 0) 52 (0, [some (vR a0)], [], (G0, M)) out := by
  have hc : xkall.getD 52 [] = xk_52 := rfl
  unfold f_72 at e
  refine Rn_ms (σ' := (2, [some (vR a0)], [vI 0, vR a0], (G0, M))) hc 2 rfl ?_
  refine R_bnd e (fun M1 hM1 e => ?_)
  refine Rn_putI' hM1 hc rfl h0 (by decide) (Or.inl rfl) ?_
  refine Rn_ms (σ' := (7, [some (vR a0)], [vI 0, vR a0], (G0, M1))) hc 2 rfl ?_
  refine R_bnd e (fun M2 hM2 e => ?_)
  refine Rn_putI' hM2 hc rfl h0 (by decide) (Or.inl rfl) ?_
  refine Rn_ms (σ' := (12, [some (vR a0)], [vI 0, vR a0], (G0, M2))) hc 2 rfl ?_
  refine R_bnd e (fun M3 hM3 e => ?_)
  refine Rn_putI' hM3 hc rfl h0 (by decide) (Or.inl rfl) ?_
  refine Rn_ms (σ' := (17, [some (vR a0)], [vI 2, vR a0], (G0, M3))) hc 2 rfl ?_
  refine R_bnd e (fun M4 hM4 e => ?_)
  refine Rn_putI' hM4 hc rfl h0 (by decide) (Or.inl rfl) ?_
  refine Rn_ms (σ' := (21, [some (vR a0)], [vR a0], (G0, M4))) hc 1 rfl ?_
  refine Rn_getI hc rfl h0 (by decide) (by decide) ?_
  show Rn rom (d + 0) 52 (24, [some (vR a0)], [vI (M4 a0 4)], (G0, M4)) out
  cases e
  exact R_end (Rn_iret hc rfl rfl (xretI rfl rfl)) hK
/-- PedalLayers$Pedal.lay -/
def f_74 (M : xM) (a0 : Nat) (a1 : Int) : Option (xM) :=
  if (f_57 a0 (M a0 5)) = 0 then
    some (M)
  else
    gd (Tg (f_57 a0 (M a0 5)) = 3) (
    (f_33 M ((f_57 a0 (M a0 5)) + 1) (a0 + 4) a1).bind (fun k3 =>
    bnd (xset k3 (f_57 a0 (M a0 5)) 1 0) (fun M4 =>
    bnd (xset M4 (f_57 a0 (M a0 5)) 2 0) (fun M5 =>
    bnd (xset M5 a0 5 ((M5 a0 5) + 1)) (fun M6 =>
    bnd (xset M6 a0 6 0) (fun M7 =>
    bnd (xset M7 a0 10 ((M7 a0 10) + 1)) (fun M8 =>
    some (M8)
    )))))))
theorem t_74 {rom : xRom} {d : Nat} {M : xM} {a0 : Nat} {a1 : Int} (h0 : Tg a0 = 7) {r : xM} {out : Option xV × xH} (e : f_74 M a0 a1 = some r) (hK : eVW out r) : Rn rom (d + 2) 54 (0, [some (vR a0), some (vI a1), none], [], (G0, M)) out := by
  have hc : xkall.getD 54 [] = xk_54 := rfl
  unfold f_74 at e
  refine Rn_ms (σ' := (2, [some (vR a0), some (vI a1), none], [vR a0, vR a0], (G0, M))) hc 2 rfl ?_
  refine Rn_getI hc rfl h0 (by decide) (by decide) ?_
  show Rn rom (d + 2) 54 (5, [some (vR a0), some (vI a1), none], [vI (M a0 5), vR a0], (G0, M)) out
  refine Rn_cv hc rfl rfl (by decide) (ii := xi_37) rfl rfl rfl (h0 : Tg _ = 7) (by decide) rfl (le := [some (vR a0), some (vI (M a0 5))]) rfl (v := some (vR (f_57 a0 (M a0 5)))) (M' := M) (t_57 h0 (d := d + 1) rfl rfl) ?_
  refine Rn_ms (σ' := (10, [some (vR a0), some (vI a1), some (vR (f_57 a0 (M a0 5)))], [vR (f_57 a0 (M a0 5))], (G0, M))) hc 2 rfl ?_
  refine R_ite e (fun b1 e => ?_) (fun b1 e => ?_)
  · refine Rn_nnF hc rfl rfl (by decide) b1 ?_
    show Rn rom (d + 2) 54 (13, [some (vR a0), some (vI a1), some (vR (f_57 a0 (M a0 5)))], [], (G0, M)) out
    cases e
    exact R_end (Rn_vret hc rfl rfl rfl rfl) hK
  · refine Rn_nnT (tgt := 14) hc rfl rfl (by decide) b1 ?_
    refine Rn_ms (σ' := (15, [some (vR a0), some (vI a1), some (vR (f_57 a0 (M a0 5)))], [vR (f_57 a0 (M a0 5))], (G0, M))) hc 1 rfl ?_
    refine R_gd e (fun g2 e => ?_)
    refine Rn_getR hc rfl g2 (by decide) rfl (gP3_0_0 g2) ?_
    refine Rn_ms (σ' := (19, [some (vR a0), some (vI a1), some (vR (f_57 a0 (M a0 5)))], [vR a0, vR ((f_57 a0 (M a0 5)) + 1)], (G0, M))) hc 1 rfl ?_
    refine Rn_getR hc rfl h0 (by decide) rfl (gP7_0_2 h0) ?_
    show Rn rom (d + 2) 54 (22, [some (vR a0), some (vI a1), some (vR (f_57 a0 (M a0 5)))], [vR (a0 + 3), vR ((f_57 a0 (M a0 5)) + 1)], (G0, M)) out
    refine Rn_getR hc rfl (gT7_3 h0) (by decide) rfl (gP7_3_0 h0) ?_
    refine Rn_ms (σ' := (26, [some (vR a0), some (vI a1), some (vR (f_57 a0 (M a0 5)))], [vI a1, vR (a0 + 4), vR ((f_57 a0 (M a0 5)) + 1)], (G0, M))) hc 1 rfl ?_
    refine R_bind e (fun k3 hk3 e => ?_)
    refine Rn_cv hc rfl rfl (by decide) (ii := xi_25) rfl rfl rfl ((gT3_1 g2) : Tg _ = 4) (by decide) rfl (le := [some (vR ((f_57 a0 (M a0 5)) + 1)), some (vR (a0 + 4)), some (vI a1), none]) rfl (v := none) (M' := k3) (t_33 (gT3_1 g2) (gT7_4 h0) (d := d + 0) hk3 rfl) ?_
    refine Rn_ms (σ' := (31, [some (vR a0), some (vI a1), some (vR (f_57 a0 (M a0 5)))], [vI 0, vR (f_57 a0 (M a0 5))], (G0, k3))) hc 2 rfl ?_
    refine R_bnd e (fun M4 hM4 e => ?_)
    refine Rn_putI' hM4 hc rfl g2 (by decide) (Or.inr ⟨rfl, by decide⟩) ?_
    refine Rn_ms (σ' := (36, [some (vR a0), some (vI a1), some (vR (f_57 a0 (M a0 5)))], [vI 0, vR (f_57 a0 (M a0 5))], (G0, M4))) hc 2 rfl ?_
    refine R_bnd e (fun M5 hM5 e => ?_)
    refine Rn_putI' hM5 hc rfl g2 (by decide) (Or.inl rfl) ?_
    refine Rn_ms (σ' := (41, [some (vR a0), some (vI a1), some (vR (f_57 a0 (M a0 5)))], [vR a0, vR a0], (G0, M5))) hc 2 rfl ?_
    refine Rn_getI hc rfl h0 (by decide) (by decide) ?_
    refine Rn_ms (σ' := (46, [some (vR a0), some (vI a1), some (vR (f_57 a0 (M a0 5)))], [vI ((M5 a0 5) + 1), vR a0], (G0, M5))) hc 2 rfl ?_
    refine R_bnd e (fun M6 hM6 e => ?_)
    refine Rn_putI' hM6 hc rfl h0 (by decide) (Or.inl rfl) ?_
    refine Rn_ms (σ' := (51, [some (vR a0), some (vI a1), some (vR (f_57 a0 (M a0 5)))], [vI 0, vR a0], (G0, M6))) hc 2 rfl ?_
    refine R_bnd e (fun M7 hM7 e => ?_)
    refine Rn_putI' hM7 hc rfl h0 (by decide) (Or.inl rfl) ?_
    refine Rn_ms (σ' := (56, [some (vR a0), some (vI a1), some (vR (f_57 a0 (M a0 5)))], [vR a0, vR a0], (G0, M7))) hc 2 rfl ?_
    refine Rn_getI hc rfl h0 (by decide) (by decide) ?_
    refine Rn_ms (σ' := (61, [some (vR a0), some (vI a1), some (vR (f_57 a0 (M a0 5)))], [vI ((M7 a0 10) + 1), vR a0], (G0, M7))) hc 2 rfl ?_
    refine R_bnd e (fun M8 hM8 e => ?_)
    refine Rn_putI' hM8 hc rfl h0 (by decide) (Or.inl rfl) ?_
    show Rn rom (d + 2) 54 (64, [some (vR a0), some (vI a1), some (vR (f_57 a0 (M a0 5)))], [], (G0, M8)) out
    cases e
    exact R_end (Rn_vret hc rfl rfl rfl rfl) hK
def f_73_L80 (M : xM) (a0 : Nat) (c1 : Int) : Option (Int × xM) :=
  bnd (xset M a0 7 (f_134 ((M (a0 + 3) 2) + (M (a0 + 3) 1)) (4 * c1))) (fun M9 =>
  (f_74 M9 a0 (2 * c1)).bind (fun k10 =>
  bnd (xset k10 a0 4 2) (fun M11 =>
  some ((M11 a0 4), M11)
  )))
theorem t_73_L80 {rom : xRom} {d : Nat} {a0 : Nat} {c1 : Int} {M : xM} (h0 : Tg a0 = 7) {r : Int × xM} {out : Option xV × xH} (e : f_73_L80 M a0 c1 = some r) (hK : (eIW out) r) : Rn rom (d + 3) 53 (80, [some (vR a0), some (vI c1)], [], (G0, M)) out := by
  have hc : xkall.getD 53 [] = xk_53 := rfl
  unfold f_73_L80 at e
  refine Rn_ms (σ' := (82, [some (vR a0), some (vI c1)], [vR a0, vR a0], (G0, M))) hc 2 rfl ?_
  refine Rn_getR hc rfl h0 (by decide) rfl (gP7_0_2 h0) ?_
  show Rn rom (d + 3) 53 (85, [some (vR a0), some (vI c1)], [vR (a0 + 3), vR a0], (G0, M)) out
  refine Rn_getI hc rfl (gT7_3 h0) (by decide) (by decide) ?_
  refine Rn_ms (σ' := (89, [some (vR a0), some (vI c1)], [vR a0, vI (M (a0 + 3) 2), vR a0], (G0, M))) hc 1 rfl ?_
  refine Rn_getR hc rfl h0 (by decide) rfl (gP7_0_2 h0) ?_
  show Rn rom (d + 3) 53 (92, [some (vR a0), some (vI c1)], [vR (a0 + 3), vI (M (a0 + 3) 2), vR a0], (G0, M)) out
  refine Rn_getI hc rfl (gT7_3 h0) (by decide) (by decide) ?_
  refine Rn_ms (σ' := (99, [some (vR a0), some (vI c1)], [vI (4 * c1), vI ((M (a0 + 3) 2) + (M (a0 + 3) 1)), vR a0], (G0, M))) hc 4 rfl ?_
  refine Rn_cs hc rfl rfl (by decide) (ii := xi_103) rfl rfl rfl (le := [some (vI ((M (a0 + 3) 2) + (M (a0 + 3) 1))), some (vI (4 * c1))]) rfl (v := some (vI (f_134 ((M (a0 + 3) 2) + (M (a0 + 3) 1)) (4 * c1)))) (M' := M) (t_134  (d := d + 2) rfl rfl) ?_
  show Rn rom (d + 3) 53 (102, [some (vR a0), some (vI c1)], [vI (f_134 ((M (a0 + 3) 2) + (M (a0 + 3) 1)) (4 * c1)), vR a0], (G0, M)) out
  refine R_bnd e (fun M9 hM9 e => ?_)
  refine Rn_putI' hM9 hc rfl h0 (by decide) (Or.inl rfl) ?_
  refine Rn_ms (σ' := (109, [some (vR a0), some (vI c1)], [vI (2 * c1), vR a0], (G0, M9))) hc 4 rfl ?_
  refine R_bind e (fun k10 hk10 e => ?_)
  refine Rn_cv hc rfl rfl (by decide) (ii := xi_54) rfl rfl rfl (h0 : Tg _ = 7) (by decide) rfl (le := [some (vR a0), some (vI (2 * c1)), none]) rfl (v := none) (M' := k10) (t_74 h0 (d := d + 0) hk10 rfl) ?_
  refine Rn_ms (σ' := (133, [some (vR a0), some (vI c1)], [vI 2, vR a0], (G0, k10))) hc 3 rfl ?_
  refine R_bnd e (fun M11 hM11 e => ?_)
  refine Rn_putI' hM11 hc rfl h0 (by decide) (Or.inl rfl) ?_
  refine Rn_ms (σ' := (137, [some (vR a0), some (vI c1)], [vR a0], (G0, M11))) hc 1 rfl ?_
  refine Rn_getI hc rfl h0 (by decide) (by decide) ?_
  show Rn rom (d + 3) 53 (140, [some (vR a0), some (vI c1)], [vI (M11 a0 4)], (G0, M11)) out
  cases e
  exact R_end (Rn_iret hc rfl rfl (xretI rfl rfl)) hK
/-- PedalLayers$Pedal.endTake -/
def f_73 (M : xM) (a0 : Nat) : Option (Int × xM) :=
  if wr (M (a0 + 3) 1) = 0 then
    some ((-2), M)
  else
    if wr (M a0 4) = 1 then
      (f_68 M a0 (xmin ((wr ((M (a0 + 3) 1) + 1)).tdiv 2) 24)).bind (fun k3 =>
      (f_74 M a0 k3).bind (fun k4 =>
      bnd (f_72 k4 a0) (fun k5 =>
      some (k5.1, k5.2)
      )))
    else
      (f_63 M a0).bind (fun k6 =>
      (f_62 M a0 (M a0 5)).bind (fun k7 =>
      if wr k6 < wr k7 then
        f_73_L80 M a0 k6
      else
        if wr (M (a0 + 3) 1) ≤ wr (2 * k6) then
          (f_34 M (a0 + 4) k6).bind (fun k13 =>
          (f_74 k13 a0 k6).bind (fun k14 =>
          bnd (xset k14 a0 4 2) (fun M15 =>
          some ((M15 a0 4), M15)
          )))
        else
          f_73_L80 M a0 k6
      ))
theorem t_73 {rom : xRom} {d : Nat} {M : xM} {a0 : Nat} (h0 : Tg a0 = 7) {r : Int × xM} {out : Option xV × xH} (e : f_73 M a0 = some r) (hK : eIW out r) : Rn rom (d + 3) 53 (0, [some (vR a0), none], [], (G0, M)) out := by
  have hc : xkall.getD 53 [] = xk_53 := rfl
  unfold f_73 at e
  refine Rn_ms (σ' := (1, [some (vR a0), none], [vR a0], (G0, M))) hc 1 rfl ?_
  refine Rn_getR hc rfl h0 (by decide) rfl (gP7_0_2 h0) ?_
  show Rn rom (d + 3) 53 (4, [some (vR a0), none], [vR (a0 + 3)], (G0, M)) out
  refine Rn_getI hc rfl (gT7_3 h0) (by decide) (by decide) ?_
  show Rn rom (d + 3) 53 (7, [some (vR a0), none], [vI (M (a0 + 3) 1)], (G0, M)) out
  refine R_ite e (fun b1 e => ?_) (fun b1 e => ?_)
  · refine Rn_ifF hc rfl rfl (by decide) (fun w => w b1) ?_
    refine Rn_ms (σ' := (12, [some (vR a0), none], [vI (-2)], (G0, M))) hc 1 rfl ?_
    cases e
    exact R_end (Rn_iret hc rfl rfl (xretI rfl rfl)) hK
  · refine Rn_ifT (tgt := 13) hc rfl rfl (by decide) (fun w => b1 w) ?_
    refine Rn_ms (σ' := (14, [some (vR a0), none], [vR a0], (G0, M))) hc 1 rfl ?_
    refine Rn_getI hc rfl h0 (by decide) (by decide) ?_
    refine Rn_ms (σ' := (18, [some (vR a0), none], [vI 1, vI (M a0 4)], (G0, M))) hc 1 rfl ?_
    refine R_ite e (fun b2 e => ?_) (fun b2 e => ?_)
    · refine Rn_icF hc rfl rfl (by decide) (fun w => w b2) ?_
      refine Rn_ms (σ' := (24, [some (vR a0), none], [vR a0, vR a0, vR a0], (G0, M))) hc 3 rfl ?_
      refine Rn_getR hc rfl h0 (by decide) rfl (gP7_0_2 h0) ?_
      show Rn rom (d + 3) 53 (27, [some (vR a0), none], [vR (a0 + 3), vR a0, vR a0], (G0, M)) out
      refine Rn_getI hc rfl (gT7_3 h0) (by decide) (by decide) ?_
      refine Rn_ms (σ' := (33, [some (vR a0), none], [vI 2, vI ((M (a0 + 3) 1) + 1), vR a0, vR a0], (G0, M))) hc 3 rfl ?_
      refine Rn_div hc rfl ⟨rfl, rfl⟩ (z' := 2) (by decide) (by decide) ?_
      refine Rn_ms (σ' := (36, [some (vR a0), none], [vI 24, vI ((wr ((M (a0 + 3) 1) + 1)).tdiv 2), vR a0, vR a0], (G0, M))) hc 1 rfl ?_
      refine Rn_min hc rfl rfl (Nat.le_of_ble_eq_true rfl) ?_
      show Rn rom (d + 3) 53 (39, [some (vR a0), none], [vI (xmin ((wr ((M (a0 + 3) 1) + 1)).tdiv 2) 24), vR a0, vR a0], (G0, M)) out
      refine R_bind e (fun k3 hk3 e => ?_)
      refine Rn_cv hc rfl rfl (by decide) (ii := xi_48) rfl rfl rfl (h0 : Tg _ = 7) (by decide) rfl (le := [some (vR a0), some (vI (xmin ((wr ((M (a0 + 3) 1) + 1)).tdiv 2) 24)), none, none, none, none, none]) rfl (v := some (vI k3)) (M' := M) (t_68 h0 (d := d + 1) hk3 rfl) ?_
      show Rn rom (d + 3) 53 (42, [some (vR a0), none], [vI k3, vR a0], (G0, M)) out
      refine R_bind e (fun k4 hk4 e => ?_)
      refine Rn_cv hc rfl rfl (by decide) (ii := xi_54) rfl rfl rfl (h0 : Tg _ = 7) (by decide) rfl (le := [some (vR a0), some (vI k3), none]) rfl (v := none) (M' := k4) (t_74 h0 (d := d + 0) hk4 rfl) ?_
      refine Rn_ms (σ' := (46, [some (vR a0), none], [vR a0], (G0, k4))) hc 1 rfl ?_
      refine R_bnd e (fun k5 hk5 e => ?_)
      refine Rn_cv hc rfl rfl (by decide) (ii := xi_52) rfl rfl rfl (h0 : Tg _ = 7) (by decide) rfl (le := [some (vR a0)]) rfl (v := some (vI k5.1)) (M' := k5.2) (t_72 h0 (d := d + 2) hk5.symm rfl) ?_
      show Rn rom (d + 3) 53 (49, [some (vR a0), none], [vI k5.1], (G0, k5.2)) out
      cases e
      exact R_end (Rn_iret hc rfl rfl (xretI rfl rfl)) hK
    · refine Rn_icT (tgt := 50) hc rfl rfl (by decide) (fun w => b2 w) ?_
      refine Rn_ms (σ' := (51, [some (vR a0), none], [vR a0], (G0, M))) hc 1 rfl ?_
      refine R_bind e (fun k6 hk6 e => ?_)
      refine Rn_cv hc rfl rfl (by decide) (ii := xi_43) rfl rfl rfl (h0 : Tg _ = 7) (by decide) rfl (le := [some (vR a0), none]) rfl (v := some (vI k6)) (M' := M) (t_63 h0 (d := d + 0) hk6 rfl) ?_
      refine Rn_ms (σ' := (57, [some (vR a0), some (vI k6)], [vR a0, vR a0], (G0, M))) hc 3 rfl ?_
      refine Rn_getI hc rfl h0 (by decide) (by decide) ?_
      show Rn rom (d + 3) 53 (60, [some (vR a0), some (vI k6)], [vI (M a0 5), vR a0], (G0, M)) out
      refine R_bind e (fun k7 hk7 e => ?_)
      refine Rn_cv hc rfl rfl (by decide) (ii := xi_42) rfl rfl rfl (h0 : Tg _ = 7) (by decide) rfl (le := [some (vR a0), some (vI (M a0 5)), none, none, none]) rfl (v := some (vI k7)) (M' := M) (t_62 h0 (d := d + 1) hk7 rfl) ?_
      refine Rn_ms (σ' := (64, [some (vR a0), some (vI k6)], [vI k6, vI k7], (G0, M))) hc 1 rfl ?_
      refine R_ite e (fun b8 e => ?_) (fun b8 e => ?_)
      · refine Rn_icT (tgt := 80) hc rfl rfl (by decide) b8 ?_
        show Rn rom (d + 3) 53 (80, [some (vR a0), some (vI k6)], [], (G0, M)) out
        exact Rn_weak (xle_s (xle_s xle_0)) (t_73_L80 h0 e hK)
      · refine Rn_icF hc rfl rfl (by decide) b8 ?_
        refine Rn_ms (σ' := (68, [some (vR a0), some (vI k6)], [vR a0], (G0, M))) hc 1 rfl ?_
        refine Rn_getR hc rfl h0 (by decide) rfl (gP7_0_2 h0) ?_
        show Rn rom (d + 3) 53 (71, [some (vR a0), some (vI k6)], [vR (a0 + 3)], (G0, M)) out
        refine Rn_getI hc rfl (gT7_3 h0) (by decide) (by decide) ?_
        refine Rn_ms (σ' := (77, [some (vR a0), some (vI k6)], [vI (2 * k6), vI (M (a0 + 3) 1)], (G0, M))) hc 3 rfl ?_
        refine R_ite e (fun b12 e => ?_) (fun b12 e => ?_)
        · refine Rn_icT (tgt := 115) hc rfl rfl (by decide) b12 ?_
          refine Rn_ms (σ' := (116, [some (vR a0), some (vI k6)], [vR a0], (G0, M))) hc 1 rfl ?_
          refine Rn_getR hc rfl h0 (by decide) rfl (gP7_0_2 h0) ?_
          show Rn rom (d + 3) 53 (119, [some (vR a0), some (vI k6)], [vR (a0 + 3)], (G0, M)) out
          refine Rn_getR hc rfl (gT7_3 h0) (by decide) rfl (gP7_3_0 h0) ?_
          refine Rn_ms (σ' := (123, [some (vR a0), some (vI k6)], [vI k6, vR (a0 + 4)], (G0, M))) hc 1 rfl ?_
          refine R_bind e (fun k13 hk13 e => ?_)
          refine Rn_cv hc rfl rfl (by decide) (ii := xi_26) rfl rfl rfl ((gT7_4 h0) : Tg _ = 4) (by decide) rfl (le := [some (vR (a0 + 4)), some (vI k6), none, none]) rfl (v := none) (M' := k13) (t_34 (gT7_4 h0) (d := d + 0) hk13 rfl) ?_
          refine Rn_ms (σ' := (128, [some (vR a0), some (vI k6)], [vI k6, vR a0], (G0, k13))) hc 2 rfl ?_
          refine R_bind e (fun k14 hk14 e => ?_)
          refine Rn_cv hc rfl rfl (by decide) (ii := xi_54) rfl rfl rfl (h0 : Tg _ = 7) (by decide) rfl (le := [some (vR a0), some (vI k6), none]) rfl (v := none) (M' := k14) (t_74 h0 (d := d + 0) hk14 rfl) ?_
          refine Rn_ms (σ' := (133, [some (vR a0), some (vI k6)], [vI 2, vR a0], (G0, k14))) hc 2 rfl ?_
          refine R_bnd e (fun M15 hM15 e => ?_)
          refine Rn_putI' hM15 hc rfl h0 (by decide) (Or.inl rfl) ?_
          refine Rn_ms (σ' := (137, [some (vR a0), some (vI k6)], [vR a0], (G0, M15))) hc 1 rfl ?_
          refine Rn_getI hc rfl h0 (by decide) (by decide) ?_
          show Rn rom (d + 3) 53 (140, [some (vR a0), some (vI k6)], [vI (M15 a0 4)], (G0, M15)) out
          cases e
          exact R_end (Rn_iret hc rfl rfl (xretI rfl rfl)) hK
        · refine Rn_icF hc rfl rfl (by decide) b12 ?_
          show Rn rom (d + 3) 53 (80, [some (vR a0), some (vI k6)], [], (G0, M)) out
          exact Rn_weak (xle_s (xle_s xle_0)) (t_73_L80 h0 e hK)
/-- PedalLayers$Pedal.pressPedal -/
def f_69 (M : xM) (a0 : Nat) : Option (Int × xM) :=
  if wr (M a0 4) = 0 then
    (f_70 M a0).bind (fun k2 =>
    some (k2.1, k2.2)
    )
  else
  if wr (M a0 4) = 1 then
    (f_73 M a0).bind (fun k4 =>
    some (k4.1, k4.2)
    )
  else
  if wr (M a0 4) = 2 then
    (f_71 M a0).bind (fun k6 =>
    some (k6.1, k6.2)
    )
  else
  if wr (M a0 4) = 3 then
    (f_73 M a0).bind (fun k8 =>
    some (k8.1, k8.2)
    )
  else
  if wr (M a0 4) = 4 then
    bnd (f_72 M a0) (fun k10 =>
    some (k10.1, k10.2)
    )
  else
  (f_73 M a0).bind (fun k11 =>
  some (k11.1, k11.2)
  )
theorem t_69 {rom : xRom} {d : Nat} {M : xM} {a0 : Nat} (h0 : Tg a0 = 7) {r : Int × xM} {out : Option xV × xH} (e : f_69 M a0 = some r) (hK : eIW out r) : Rn rom (d + 4) 49 (0, [some (vR a0)], [], (G0, M)) out := by
  have hc : xkall.getD 49 [] = xk_49 := rfl
  unfold f_69 at e
  refine Rn_ms (σ' := (1, [some (vR a0)], [vR a0], (G0, M))) hc 1 rfl ?_
  refine Rn_getI hc rfl h0 (by decide) (by decide) ?_
  show Rn rom (d + 4) 49 (4, [some (vR a0)], [vI (M a0 4)], (G0, M)) out
  refine R_ite e (fun b1 e => ?_) (fun b1 e => ?_)
  · refine Rn_tsw (off := 36) (tgt := 40) hc rfl rfl (xsw_at b1 (by decide) (by decide) (by decide) rfl) rfl ?_
    refine Rn_ms (σ' := (41, [some (vR a0)], [vR a0], (G0, M))) hc 1 rfl ?_
    refine R_bind e (fun k2 hk2 e => ?_)
    refine Rn_cv hc rfl rfl (by decide) (ii := xi_50) rfl rfl rfl (h0 : Tg _ = 7) (by decide) rfl (le := [some (vR a0)]) rfl (v := some (vI k2.1)) (M' := k2.2) (t_70 h0 (d := d + 1) hk2 rfl) ?_
    show Rn rom (d + 4) 49 (44, [some (vR a0)], [vI k2.1], (G0, k2.2)) out
    cases e
    exact R_end (Rn_iret hc rfl rfl (xretI rfl rfl)) hK
  refine R_ite e (fun b3 e => ?_) (fun b3 e => ?_)
  · refine Rn_tsw (off := 51) (tgt := 55) hc rfl rfl (xsw_at b3 (by decide) (by decide) (by decide) rfl) rfl ?_
    refine Rn_ms (σ' := (56, [some (vR a0)], [vR a0], (G0, M))) hc 1 rfl ?_
    refine R_bind e (fun k4 hk4 e => ?_)
    refine Rn_cv hc rfl rfl (by decide) (ii := xi_53) rfl rfl rfl (h0 : Tg _ = 7) (by decide) rfl (le := [some (vR a0), none]) rfl (v := some (vI k4.1)) (M' := k4.2) (t_73 h0 (d := d + 0) hk4 rfl) ?_
    show Rn rom (d + 4) 49 (59, [some (vR a0)], [vI k4.1], (G0, k4.2)) out
    cases e
    exact R_end (Rn_iret hc rfl rfl (xretI rfl rfl)) hK
  refine R_ite e (fun b5 e => ?_) (fun b5 e => ?_)
  · refine Rn_tsw (off := 41) (tgt := 45) hc rfl rfl (xsw_at b5 (by decide) (by decide) (by decide) rfl) rfl ?_
    refine Rn_ms (σ' := (46, [some (vR a0)], [vR a0], (G0, M))) hc 1 rfl ?_
    refine R_bind e (fun k6 hk6 e => ?_)
    refine Rn_cv hc rfl rfl (by decide) (ii := xi_51) rfl rfl rfl (h0 : Tg _ = 7) (by decide) rfl (le := [some (vR a0)]) rfl (v := some (vI k6.1)) (M' := k6.2) (t_71 h0 (d := d + 0) hk6 rfl) ?_
    show Rn rom (d + 4) 49 (49, [some (vR a0)], [vI k6.1], (G0, k6.2)) out
    cases e
    exact R_end (Rn_iret hc rfl rfl (xretI rfl rfl)) hK
  refine R_ite e (fun b7 e => ?_) (fun b7 e => ?_)
  · refine Rn_tsw (off := 51) (tgt := 55) hc rfl rfl (xsw_at b7 (by decide) (by decide) (by decide) rfl) rfl ?_
    refine Rn_ms (σ' := (56, [some (vR a0)], [vR a0], (G0, M))) hc 1 rfl ?_
    refine R_bind e (fun k8 hk8 e => ?_)
    refine Rn_cv hc rfl rfl (by decide) (ii := xi_53) rfl rfl rfl (h0 : Tg _ = 7) (by decide) rfl (le := [some (vR a0), none]) rfl (v := some (vI k8.1)) (M' := k8.2) (t_73 h0 (d := d + 0) hk8 rfl) ?_
    show Rn rom (d + 4) 49 (59, [some (vR a0)], [vI k8.1], (G0, k8.2)) out
    cases e
    exact R_end (Rn_iret hc rfl rfl (xretI rfl rfl)) hK
  refine R_ite e (fun b9 e => ?_) (fun b9 e => ?_)
  · refine Rn_tsw (off := 46) (tgt := 50) hc rfl rfl (xsw_at b9 (by decide) (by decide) (by decide) rfl) rfl ?_
    refine Rn_ms (σ' := (51, [some (vR a0)], [vR a0], (G0, M))) hc 1 rfl ?_
    refine R_bnd e (fun k10 hk10 e => ?_)
    refine Rn_cv hc rfl rfl (by decide) (ii := xi_52) rfl rfl rfl (h0 : Tg _ = 7) (by decide) rfl (le := [some (vR a0)]) rfl (v := some (vI k10.1)) (M' := k10.2) (t_72 h0 (d := d + 3) hk10.symm rfl) ?_
    show Rn rom (d + 4) 49 (54, [some (vR a0)], [vI k10.1], (G0, k10.2)) out
    cases e
    exact R_end (Rn_iret hc rfl rfl (xretI rfl rfl)) hK
  refine Rn_tsw (off := 51) (tgt := 55) hc rfl rfl (xsw_df (by omega)) rfl ?_
  refine Rn_ms (σ' := (56, [some (vR a0)], [vR a0], (G0, M))) hc 1 rfl ?_
  refine R_bind e (fun k11 hk11 e => ?_)
  refine Rn_cv hc rfl rfl (by decide) (ii := xi_53) rfl rfl rfl (h0 : Tg _ = 7) (by decide) rfl (le := [some (vR a0), none]) rfl (v := some (vI k11.1)) (M' := k11.2) (t_73 h0 (d := d + 0) hk11 rfl) ?_
  show Rn rom (d + 4) 49 (59, [some (vR a0)], [vI k11.1], (G0, k11.2)) out
  cases e
  exact R_end (Rn_iret hc rfl rfl (xretI rfl rfl)) hK
/-- PedalLayers$Pedal.stopPedal -/
def f_75 (M : xM) (a0 : Nat) : Int × xM :=
  if wr (M a0 4) = 0 then
    ((-2), M)
  else
    if wr (M a0 4) = 4 then
      ((-2), M)
    else
      if wr (M a0 4) = 1 then
        bnd (xset M a0 4 0) (fun M4 =>
        ((M4 a0 4), M4)
        )
      else
        bnd (xset M a0 4 4) (fun M5 =>
        ((M5 a0 4), M5)
        )
theorem t_75 {rom : xRom} {d : Nat} {M : xM} {a0 : Nat} (h0 : Tg a0 = 7) {r : Int × xM} {out : Option xV × xH} (e : f_75 M a0 = r) (hK : eIW out r) : Rn rom (d + 0) 55 (0, [some (vR a0)], [], (G0, M)) out := by
  have hc : xkall.getD 55 [] = xk_55 := rfl
  unfold f_75 at e
  refine Rn_ms (σ' := (1, [some (vR a0)], [vR a0], (G0, M))) hc 1 rfl ?_
  refine Rn_getI hc rfl h0 (by decide) (by decide) ?_
  show Rn rom (d + 0) 55 (4, [some (vR a0)], [vI (M a0 4)], (G0, M)) out
  refine R_ite e (fun b1 e => ?_) (fun b1 e => ?_)
  · refine Rn_ifT (tgt := 15) hc rfl rfl (by decide) b1 ?_
    refine Rn_ms (σ' := (17, [some (vR a0)], [vI (-2)], (G0, M))) hc 1 rfl ?_
    cases e
    exact R_end (Rn_iret hc rfl rfl (xretI rfl rfl)) hK
  · refine Rn_ifF hc rfl rfl (by decide) b1 ?_
    refine Rn_ms (σ' := (8, [some (vR a0)], [vR a0], (G0, M))) hc 1 rfl ?_
    refine Rn_getI hc rfl h0 (by decide) (by decide) ?_
    refine Rn_ms (σ' := (12, [some (vR a0)], [vI 4, vI (M a0 4)], (G0, M))) hc 1 rfl ?_
    refine R_ite e (fun b2 e => ?_) (fun b2 e => ?_)
    · refine Rn_icF hc rfl rfl (by decide) (fun w => w b2) ?_
      refine Rn_ms (σ' := (17, [some (vR a0)], [vI (-2)], (G0, M))) hc 1 rfl ?_
      cases e
      exact R_end (Rn_iret hc rfl rfl (xretI rfl rfl)) hK
    · refine Rn_icT (tgt := 18) hc rfl rfl (by decide) (fun w => b2 w) ?_
      refine Rn_ms (σ' := (20, [some (vR a0)], [vR a0, vR a0], (G0, M))) hc 2 rfl ?_
      refine Rn_getI hc rfl h0 (by decide) (by decide) ?_
      refine Rn_ms (σ' := (24, [some (vR a0)], [vI 1, vI (M a0 4), vR a0], (G0, M))) hc 1 rfl ?_
      refine R_ite e (fun b3 e => ?_) (fun b3 e => ?_)
      · refine Rn_icF hc rfl rfl (by decide) (fun w => w b3) ?_
        refine Rn_ms (σ' := (32, [some (vR a0)], [vI 0, vR a0], (G0, M))) hc 2 rfl ?_
        refine R_bnd e (fun M4 hM4 e => ?_)
        refine Rn_putI' hM4 hc rfl h0 (by decide) (Or.inl rfl) ?_
        refine Rn_ms (σ' := (36, [some (vR a0)], [vR a0], (G0, M4))) hc 1 rfl ?_
        refine Rn_getI hc rfl h0 (by decide) (by decide) ?_
        show Rn rom (d + 0) 55 (39, [some (vR a0)], [vI (M4 a0 4)], (G0, M4)) out
        cases e
        exact R_end (Rn_iret hc rfl rfl (xretI rfl rfl)) hK
      · refine Rn_icT (tgt := 31) hc rfl rfl (by decide) (fun w => b3 w) ?_
        refine Rn_ms (σ' := (32, [some (vR a0)], [vI 4, vR a0], (G0, M))) hc 1 rfl ?_
        refine R_bnd e (fun M5 hM5 e => ?_)
        refine Rn_putI' hM5 hc rfl h0 (by decide) (Or.inl rfl) ?_
        refine Rn_ms (σ' := (36, [some (vR a0)], [vR a0], (G0, M5))) hc 1 rfl ?_
        refine Rn_getI hc rfl h0 (by decide) (by decide) ?_
        show Rn rom (d + 0) 55 (39, [some (vR a0)], [vI (M5 a0 4)], (G0, M5)) out
        cases e
        exact R_end (Rn_iret hc rfl rfl (xretI rfl rfl)) hK
/-- PedalLayers$Pedal.throwAllAway -/
def f_76 (M : xM) (a0 : Nat) : Int × xM :=
  if wr (M a0 4) = 0 then
    ((-2), M)
  else
    bnd (xset M a0 5 0) (fun M2 =>
    bnd (xset M2 a0 6 0) (fun M3 =>
    bnd (xset M3 a0 7 0) (fun M4 =>
    bnd (xset M4 a0 8 0) (fun M5 =>
    bnd (xset M5 a0 9 0) (fun M6 =>
    bnd (xset M6 a0 4 0) (fun M7 =>
    ((M a0 5), M7)
    ))))))
theorem t_76 {rom : xRom} {d : Nat} {M : xM} {a0 : Nat} (h0 : Tg a0 = 7) {r : Int × xM} {out : Option xV × xH} (e : f_76 M a0 = r) (hK : eIW out r) : Rn rom (d + 0) 56 (0, [some (vR a0), none], [], (G0, M)) out := by
  have hc : xkall.getD 56 [] = xk_56 := rfl
  unfold f_76 at e
  refine Rn_ms (σ' := (1, [some (vR a0), none], [vR a0], (G0, M))) hc 1 rfl ?_
  refine Rn_getI hc rfl h0 (by decide) (by decide) ?_
  show Rn rom (d + 0) 56 (4, [some (vR a0), none], [vI (M a0 4)], (G0, M)) out
  refine R_ite e (fun b1 e => ?_) (fun b1 e => ?_)
  · refine Rn_ifF hc rfl rfl (by decide) (fun w => w b1) ?_
    refine Rn_ms (σ' := (9, [some (vR a0), none], [vI (-2)], (G0, M))) hc 1 rfl ?_
    cases e
    exact R_end (Rn_iret hc rfl rfl (xretI rfl rfl)) hK
  · refine Rn_ifT (tgt := 10) hc rfl rfl (by decide) (fun w => b1 w) ?_
    refine Rn_ms (σ' := (11, [some (vR a0), none], [vR a0], (G0, M))) hc 1 rfl ?_
    refine Rn_getI hc rfl h0 (by decide) (by decide) ?_
    refine Rn_ms (σ' := (17, [some (vR a0), some (vI (M a0 5))], [vI 0, vR a0], (G0, M))) hc 3 rfl ?_
    refine R_bnd e (fun M2 hM2 e => ?_)
    refine Rn_putI' hM2 hc rfl h0 (by decide) (Or.inl rfl) ?_
    refine Rn_ms (σ' := (22, [some (vR a0), some (vI (M a0 5))], [vI 0, vR a0], (G0, M2))) hc 2 rfl ?_
    refine R_bnd e (fun M3 hM3 e => ?_)
    refine Rn_putI' hM3 hc rfl h0 (by decide) (Or.inl rfl) ?_
    refine Rn_ms (σ' := (27, [some (vR a0), some (vI (M a0 5))], [vI 0, vR a0], (G0, M3))) hc 2 rfl ?_
    refine R_bnd e (fun M4 hM4 e => ?_)
    refine Rn_putI' hM4 hc rfl h0 (by decide) (Or.inl rfl) ?_
    refine Rn_ms (σ' := (32, [some (vR a0), some (vI (M a0 5))], [vI 0, vR a0], (G0, M4))) hc 2 rfl ?_
    refine R_bnd e (fun M5 hM5 e => ?_)
    refine Rn_putI' hM5 hc rfl h0 (by decide) (Or.inl rfl) ?_
    refine Rn_ms (σ' := (37, [some (vR a0), some (vI (M a0 5))], [vI 0, vR a0], (G0, M5))) hc 2 rfl ?_
    refine R_bnd e (fun M6 hM6 e => ?_)
    refine Rn_putI' hM6 hc rfl h0 (by decide) (Or.inl rfl) ?_
    refine Rn_ms (σ' := (42, [some (vR a0), some (vI (M a0 5))], [vI 0, vR a0], (G0, M6))) hc 2 rfl ?_
    refine R_bnd e (fun M7 hM7 e => ?_)
    refine Rn_putI' hM7 hc rfl h0 (by decide) (Or.inl rfl) ?_
    refine Rn_ms (σ' := (46, [some (vR a0), some (vI (M a0 5))], [vI (M a0 5)], (G0, M7))) hc 1 rfl ?_
    cases e
    exact R_end (Rn_iret hc rfl rfl (xretI rfl rfl)) hK
/-- PedalLayers$Pedal.cellOfTake -/
def f_78 (M : xM) (a0 : Nat) : Option (Int) :=
  if wr (M a0 4) = 1 then
    some ((wr ((M (a0 + 3) 2) + (M (a0 + 3) 1))).tdiv 2)
  else
    (f_63 M a0).bind (fun k2 =>
    some (f_134 ((wr ((M (a0 + 3) 2) + (M (a0 + 3) 1))).tdiv 2) (2 * k2))
    )
theorem t_78 {rom : xRom} {d : Nat} {M : xM} {a0 : Nat} (h0 : Tg a0 = 7) {r : Int} {out : Option xV × xH} (e : f_78 M a0 = some r) (hK : eI M out r) : Rn rom (d + 3) 58 (0, [some (vR a0), none], [], (G0, M)) out := by
  have hc : xkall.getD 58 [] = xk_58 := rfl
  unfold f_78 at e
  refine Rn_ms (σ' := (1, [some (vR a0), none], [vR a0], (G0, M))) hc 1 rfl ?_
  refine Rn_getR hc rfl h0 (by decide) rfl (gP7_0_2 h0) ?_
  show Rn rom (d + 3) 58 (4, [some (vR a0), none], [vR (a0 + 3)], (G0, M)) out
  refine Rn_getI hc rfl (gT7_3 h0) (by decide) (by decide) ?_
  refine Rn_ms (σ' := (8, [some (vR a0), none], [vR a0, vI (M (a0 + 3) 2)], (G0, M))) hc 1 rfl ?_
  refine Rn_getR hc rfl h0 (by decide) rfl (gP7_0_2 h0) ?_
  show Rn rom (d + 3) 58 (11, [some (vR a0), none], [vR (a0 + 3), vI (M (a0 + 3) 2)], (G0, M)) out
  refine Rn_getI hc rfl (gT7_3 h0) (by decide) (by decide) ?_
  refine Rn_ms (σ' := (16, [some (vR a0), none], [vI 2, vI ((M (a0 + 3) 2) + (M (a0 + 3) 1))], (G0, M))) hc 2 rfl ?_
  refine Rn_div hc rfl ⟨rfl, rfl⟩ (z' := 2) (by decide) (by decide) ?_
  refine Rn_ms (σ' := (19, [some (vR a0), some (vI ((wr ((M (a0 + 3) 2) + (M (a0 + 3) 1))).tdiv 2))], [vR a0], (G0, M))) hc 2 rfl ?_
  refine Rn_getI hc rfl h0 (by decide) (by decide) ?_
  refine Rn_ms (σ' := (23, [some (vR a0), some (vI ((wr ((M (a0 + 3) 2) + (M (a0 + 3) 1))).tdiv 2))], [vI 1, vI (M a0 4)], (G0, M))) hc 1 rfl ?_
  refine R_ite e (fun b1 e => ?_) (fun b1 e => ?_)
  · refine Rn_icF hc rfl rfl (by decide) (fun w => w b1) ?_
    refine Rn_ms (σ' := (40, [some (vR a0), some (vI ((wr ((M (a0 + 3) 2) + (M (a0 + 3) 1))).tdiv 2))], [vI ((wr ((M (a0 + 3) 2) + (M (a0 + 3) 1))).tdiv 2)], (G0, M))) hc 2 rfl ?_
    cases e
    exact R_end (Rn_iret hc rfl rfl (xretI rfl rfl)) hK
  · refine Rn_icT (tgt := 30) hc rfl rfl (by decide) (fun w => b1 w) ?_
    refine Rn_ms (σ' := (33, [some (vR a0), some (vI ((wr ((M (a0 + 3) 2) + (M (a0 + 3) 1))).tdiv 2))], [vR a0, vI 2, vI ((wr ((M (a0 + 3) 2) + (M (a0 + 3) 1))).tdiv 2)], (G0, M))) hc 3 rfl ?_
    refine R_bind e (fun k2 hk2 e => ?_)
    refine Rn_cv hc rfl rfl (by decide) (ii := xi_43) rfl rfl rfl (h0 : Tg _ = 7) (by decide) rfl (le := [some (vR a0), none]) rfl (v := some (vI k2)) (M' := M) (t_63 h0 (d := d + 0) hk2 rfl) ?_
    refine Rn_ms (σ' := (37, [some (vR a0), some (vI ((wr ((M (a0 + 3) 2) + (M (a0 + 3) 1))).tdiv 2))], [vI (2 * k2), vI ((wr ((M (a0 + 3) 2) + (M (a0 + 3) 1))).tdiv 2)], (G0, M))) hc 1 rfl ?_
    refine Rn_cs hc rfl rfl (by decide) (ii := xi_103) rfl rfl rfl (le := [some (vI ((wr ((M (a0 + 3) 2) + (M (a0 + 3) 1))).tdiv 2)), some (vI (2 * k2))]) rfl (v := some (vI (f_134 ((wr ((M (a0 + 3) 2) + (M (a0 + 3) 1))).tdiv 2) (2 * k2)))) (M' := M) (t_134  (d := d + 2) rfl rfl) ?_
    show Rn rom (d + 3) 58 (40, [some (vR a0), some (vI ((wr ((M (a0 + 3) 2) + (M (a0 + 3) 1))).tdiv 2))], [vI (f_134 ((wr ((M (a0 + 3) 2) + (M (a0 + 3) 1))).tdiv 2) (2 * k2))], (G0, M)) out
    cases e
    exact R_end (Rn_iret hc rfl rfl (xretI rfl rfl)) hK
