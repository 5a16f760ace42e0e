/-! functions for methods, by program (wip/whole/gen/dec.py) -/
/-- PedalLayers$Pedal.hitNote -/
def f_77 (M : xM) (a0 : Nat) (a1 : Int) (a2 : Int) : Option (Int × xM) :=
  if wr a1 < 0 then
    some ((-1), M)
  else
    if 24 ≤ wr a1 then
      some ((-1), M)
    else
      if wr a2 < 1 then
        some ((-1), M)
      else
        if wr a2 ≤ 99 then
          if wr (f_60 M a0) = 0 then
            some ((-2), M)
          else
            (f_78 M a0).bind (fun k6 =>
            bnd (f_31 M (a0 + 4) k6 (a1 + (f_65 M a0)) a2) (fun k7 =>
            some (k7.1, k7.2)
            ))
        else
          some ((-1), M)
theorem t_77 {rom : xRom} {d : Nat} {M : xM} {a0 : Nat} {a1 : Int} {a2 : Int} (h0 : Tg a0 = 7) {r : Int × xM} {out : Option xV × xH} (e : f_77 M a0 a1 a2 = some r) (hK : eIW out r) : Rn rom (d + 4) 57 (0, [some (vR a0), some (vI a1), some (vI a2)], [], (G0, M)) out := by
  have hc : xkall.getD 57 [] = xk_57 := rfl
  unfold f_77 at e
  refine Rn_ms (σ' := (1, [some (vR a0), some (vI a1), some (vI a2)], [vI a1], (G0, M))) hc 1 rfl ?_
  refine R_ite e (fun b1 e => ?_) (fun b1 e => ?_)
  · refine Rn_ifT (tgt := 21) hc rfl rfl (by decide) b1 ?_
    refine Rn_ms (σ' := (22, [some (vR a0), some (vI a1), some (vI a2)], [vI (-1)], (G0, M))) hc 1 rfl ?_
    cases e
    exact R_end (Rn_iret hc rfl rfl (xretI rfl rfl)) hK
  · refine Rn_ifF hc rfl rfl (by decide) b1 ?_
    refine Rn_ms (σ' := (7, [some (vR a0), some (vI a1), some (vI a2)], [vI 24, vI a1], (G0, M))) hc 2 rfl ?_
    refine R_ite e (fun b2 e => ?_) (fun b2 e => ?_)
    · refine Rn_icT (tgt := 21) hc rfl rfl (by decide) b2 ?_
      refine Rn_ms (σ' := (22, [some (vR a0), some (vI a1), some (vI a2)], [vI (-1)], (G0, M))) hc 1 rfl ?_
      cases e
      exact R_end (Rn_iret hc rfl rfl (xretI rfl rfl)) hK
    · refine Rn_icF hc rfl rfl (by decide) b2 ?_
      refine Rn_ms (σ' := (12, [some (vR a0), some (vI a1), some (vI a2)], [vI 1, vI a2], (G0, M))) hc 2 rfl ?_
      refine R_ite e (fun b3 e => ?_) (fun b3 e => ?_)
      · refine Rn_icT (tgt := 21) hc rfl rfl (by decide) b3 ?_
        refine Rn_ms (σ' := (22, [some (vR a0), some (vI a1), some (vI a2)], [vI (-1)], (G0, M))) hc 1 rfl ?_
        cases e
        exact R_end (Rn_iret hc rfl rfl (xretI rfl rfl)) hK
      · refine Rn_icF hc rfl rfl (by decide) b3 ?_
        refine Rn_ms (σ' := (18, [some (vR a0), some (vI a1), some (vI a2)], [vI 99, vI a2], (G0, M))) hc 2 rfl ?_
        refine R_ite e (fun b4 e => ?_) (fun b4 e => ?_)
        · refine Rn_icT (tgt := 23) hc rfl rfl (by decide) b4 ?_
          refine Rn_ms (σ' := (24, [some (vR a0), some (vI a1), some (vI a2)], [vR a0], (G0, M))) hc 1 rfl ?_
          refine Rn_cv hc rfl rfl (by decide) (ii := xi_40) rfl rfl rfl (h0 : Tg _ = 7) (by decide) rfl (le := [some (vR a0)]) rfl (v := some (vI (f_60 M a0))) (M' := M) (t_60 h0 (d := d + 3) rfl rfl) ?_
          show Rn rom (d + 4) 57 (27, [some (vR a0), some (vI a1), some (vI a2)], [vI (f_60 M a0)], (G0, M)) out
          refine R_ite e (fun b5 e => ?_) (fun b5 e => ?_)
          · refine Rn_ifF hc rfl rfl (by decide) (fun w => w b5) ?_
            refine Rn_ms (σ' := (32, [some (vR a0), some (vI a1), some (vI a2)], [vI (-2)], (G0, M))) hc 1 rfl ?_
            cases e
            exact R_end (Rn_iret hc rfl rfl (xretI rfl rfl)) hK
          · refine Rn_ifT (tgt := 33) hc rfl rfl (by decide) (fun w => b5 w) ?_
            refine Rn_ms (σ' := (34, [some (vR a0), some (vI a1), some (vI a2)], [vR a0], (G0, M))) hc 1 rfl ?_
            refine Rn_getR hc rfl h0 (by decide) rfl (gP7_0_2 h0) ?_
            show Rn rom (d + 4) 57 (37, [some (vR a0), some (vI a1), some (vI a2)], [vR (a0 + 3)], (G0, M)) out
            refine Rn_getR hc rfl (gT7_3 h0) (by decide) rfl (gP7_3_0 h0) ?_
            refine Rn_ms (σ' := (41, [some (vR a0), some (vI a1), some (vI a2)], [vR a0, vR (a0 + 4)], (G0, M))) hc 1 rfl ?_
            refine R_bind e (fun k6 hk6 e => ?_)
            refine Rn_cv hc rfl rfl (by decide) (ii := xi_58) rfl rfl rfl (h0 : Tg _ = 7) (by decide) rfl (le := [some (vR a0), none]) rfl (v := some (vI k6)) (M' := M) (t_78 h0 (d := d + 0) hk6 rfl) ?_
            refine Rn_ms (σ' := (46, [some (vR a0), some (vI a1), some (vI a2)], [vR a0, vI a1, vI k6, vR (a0 + 4)], (G0, M))) hc 2 rfl ?_
            refine Rn_cv hc rfl rfl (by decide) (ii := xi_45) rfl rfl rfl (h0 : Tg _ = 7) (by decide) rfl (le := [some (vR a0)]) rfl (v := some (vI (f_65 M a0))) (M' := M) (t_65 h0 (d := d + 3) rfl rfl) ?_
            refine Rn_ms (σ' := (51, [some (vR a0), some (vI a1), some (vI a2)], [vI a2, vI (a1 + (f_65 M a0)), vI k6, vR (a0 + 4)], (G0, M))) hc 2 rfl ?_
            refine R_bnd e (fun k7 hk7 e => ?_)
            refine Rn_cv hc rfl rfl (by decide) (ii := xi_23) rfl rfl rfl ((gT7_4 h0) : Tg _ = 4) (by decide) rfl (le := [some (vR (a0 + 4)), some (vI k6), some (vI (a1 + (f_65 M a0))), some (vI a2), none]) rfl (v := some (vI k7.1)) (M' := k7.2) (t_31 (gT7_4 h0) (d := d + 2) hk7.symm rfl) ?_
            show Rn rom (d + 4) 57 (54, [some (vR a0), some (vI a1), some (vI a2)], [vI k7.1], (G0, k7.2)) out
            cases e
            exact R_end (Rn_iret hc rfl rfl (xretI rfl rfl)) hK
        · refine Rn_icF hc rfl rfl (by decide) b4 ?_
          refine Rn_ms (σ' := (22, [some (vR a0), some (vI a1), some (vI a2)], [vI (-1)], (G0, M))) hc 1 rfl ?_
          cases e
          exact R_end (Rn_iret hc rfl rfl (xretI rfl rfl)) hK
def f_82_L2b (a0 : Nat) (v1 : Int) (M : xM) : Option ((Int × xM) ⊕ (xM)) :=
  if wr (M a0 5) ≤ wr v1 then
    some (.inr (M))
  else
    if (f_57 a0 v1) = 0 then
      some (.inl ((v1 + 1), M))
    else
      gd (Tg (f_57 a0 v1) = 3) (
      (f_35 M ((f_57 a0 v1) + 1) (f_59 M a0 2)).bind (fun k4 =>
      bnd (xset k4 (f_57 a0 v1) 2 ((k4 (f_57 a0 v1) 2) + 1)) (fun M5 =>
      some (.inl ((v1 + 1), M5))
      )))
theorem t_82_L2b {rom : xRom} {d : Nat} {a0 : Nat} {v1 : Int} {M : xM} (h0 : Tg a0 = 7) {r : (Int × xM) ⊕ (xM)} {out : Option xV × xH} (e : f_82_L2b a0 v1 M = some r) (hK : ((Sum.elim (fun s => Rn rom (d + 2) 62 (2, [some (vR a0), some (vI s.1), none], [], (G0, s.2)) out) (eVW out))) r) : Rn rom (d + 2) 62 (2, [some (vR a0), some (vI v1), none], [], (G0, M)) out := by
  have hc : xkall.getD 62 [] = xk_62 := rfl
  unfold f_82_L2b at e
  refine Rn_ms (σ' := (4, [some (vR a0), some (vI v1), none], [vR a0, vI v1], (G0, M))) hc 2 rfl ?_
  refine Rn_getI hc rfl h0 (by decide) (by decide) ?_
  show Rn rom (d + 2) 62 (7, [some (vR a0), some (vI v1), none], [vI (M a0 5), vI v1], (G0, M)) out
  refine R_ite e (fun b1 e => ?_) (fun b1 e => ?_)
  · refine Rn_icT (tgt := 48) hc rfl rfl (by decide) b1 ?_
    show Rn rom (d + 2) 62 (48, [some (vR a0), some (vI v1), none], [], (G0, M)) out
    cases e
    exact R_end (Rn_vret hc rfl rfl rfl rfl) hK
  · refine Rn_icF hc rfl rfl (by decide) b1 ?_
    refine Rn_ms (σ' := (12, [some (vR a0), some (vI v1), none], [vI v1, vR a0], (G0, M))) hc 2 rfl ?_
    refine Rn_cv hc rfl rfl (by decide) (ii := xi_37) rfl rfl rfl (h0 : Tg _ = 7) (by decide) rfl (le := [some (vR a0), some (vI v1)]) rfl (v := some (vR (f_57 a0 v1))) (M' := M) (t_57 h0 (d := d + 1) rfl rfl) ?_
    refine Rn_ms (σ' := (17, [some (vR a0), some (vI v1), some (vR (f_57 a0 v1))], [vR (f_57 a0 v1)], (G0, M))) hc 2 rfl ?_
    refine R_ite e (fun b2 e => ?_) (fun b2 e => ?_)
    · refine Rn_nuT (tgt := 42) hc rfl rfl (by decide) b2 ?_
      refine Rn_ms (σ' := (2, [some (vR a0), some (vI (v1 + 1)), some (vR (f_57 a0 v1))], [], (G0, M))) hc 2 rfl ?_
      cases e
      exact Rn_weak (xle_s (xle_s (xle_n xle_0))) hK
    · refine Rn_nuF hc rfl rfl (by decide) b2 ?_
      refine Rn_ms (σ' := (21, [some (vR a0), some (vI v1), some (vR (f_57 a0 v1))], [vR (f_57 a0 v1)], (G0, M))) hc 1 rfl ?_
      refine R_gd e (fun g3 e => ?_)
      refine Rn_getR hc rfl g3 (by decide) rfl (gP3_0_0 g3) ?_
      refine Rn_ms (σ' := (26, [some (vR a0), some (vI v1), some (vR (f_57 a0 v1))], [vI 2, vR a0, vR ((f_57 a0 v1) + 1)], (G0, M))) hc 2 rfl ?_
      refine Rn_cv hc rfl rfl (by decide) (ii := xi_39) rfl rfl rfl (h0 : Tg _ = 7) (by decide) rfl (le := [some (vR a0), some (vI 2)]) rfl (v := some (vI (f_59 M a0 2))) (M' := M) (t_59 h0 (d := d + 1) rfl rfl) ?_
      show Rn rom (d + 2) 62 (29, [some (vR a0), some (vI v1), some (vR (f_57 a0 v1))], [vI (f_59 M a0 2), vR ((f_57 a0 v1) + 1)], (G0, M)) out
      refine R_bind e (fun k4 hk4 e => ?_)
      refine Rn_cv hc rfl rfl (by decide) (ii := xi_27) rfl rfl rfl ((gT3_1 g3) : Tg _ = 4) (by decide) rfl (le := [some (vR ((f_57 a0 v1) + 1)), some (vI (f_59 M a0 2)), none]) rfl (v := none) (M' := k4) (t_35 (gT3_1 g3) (d := d + 0) hk4 rfl) ?_
      refine Rn_ms (σ' := (34, [some (vR a0), some (vI v1), some (vR (f_57 a0 v1))], [vR (f_57 a0 v1), vR (f_57 a0 v1)], (G0, k4))) hc 2 rfl ?_
      refine Rn_getI hc rfl g3 (by decide) (by decide) ?_
      refine Rn_ms (σ' := (39, [some (vR a0), some (vI v1), some (vR (f_57 a0 v1))], [vI ((k4 (f_57 a0 v1) 2) + 1), vR (f_57 a0 v1)], (G0, k4))) hc 2 rfl ?_
      refine R_bnd e (fun M5 hM5 e => ?_)
      refine Rn_putI' hM5 hc rfl g3 (by decide) (Or.inl rfl) ?_
      refine Rn_ms (σ' := (2, [some (vR a0), some (vI (v1 + 1)), some (vR (f_57 a0 v1))], [], (G0, M5))) hc 2 rfl ?_
      cases e
      exact Rn_weak (xle_s (xle_s (xle_n xle_0))) hK
def f_82_L2 (a0 : Nat) (s : Int × xM) : Option (xM) := loop NF (fun s => f_82_L2b a0 s.1 s.2) s
theorem t_82_L2 {rom : xRom} {d : Nat} {a0 : Nat} (h0 : Tg a0 = 7) {s : Int × xM} {r : xM} {out : Option xV × xH} (e : f_82_L2 a0 s = some r) (hK : (eVW out) r) : Rn rom (d + 2) 62 (2, [some (vR a0), some (vI s.1), none], [], (G0, s.2)) out := by
  unfold f_82_L2 at e
  revert e hK
  exact R_loop (b := fun s => f_82_L2b a0 s.1 s.2) (G := fun s => Rn rom (d + 2) 62 (2, [some (vR a0), some (vI s.1), none], [], (G0, s.2)) out) (K := eVW out) (fun s r e hK => t_82_L2b h0 e hK) NF s r
/-- PedalLayers$Pedal.fadeLayers -/
def f_82 (M : xM) (a0 : Nat) : Option (xM) :=
  f_82_L2 a0 (0, M)
theorem t_82 {rom : xRom} {d : Nat} {M : xM} {a0 : Nat} (h0 : Tg a0 = 7) {r : xM} {out : Option xV × xH} (e : f_82 M a0 = some r) (hK : eVW out r) : Rn rom (d + 2) 62 (0, [some (vR a0), none, none], [], (G0, M)) out := by
  have hc : xkall.getD 62 [] = xk_62 := rfl
  unfold f_82 at e
  refine Rn_ms (σ' := (2, [some (vR a0), some (vI 0), none], [], (G0, M))) hc 2 rfl ?_
  exact Rn_weak (xle_s (xle_s (xle_s xle_0))) (t_82_L2 h0 e hK)
/-- PedalLayers$Pedal.moveLoop -/
def f_81 (M : xM) (a0 : Nat) (a1 : Int) : Option (Int × xM) :=
  (f_62 M a0 (M a0 5)).bind (fun k1 =>
  bnd (xset M a0 7 ((M a0 7) + a1)) (fun M2 =>
  bnd (xset M2 a0 9 ((M2 a0 9) + a1)) (fun M3 =>
  if wr (2 * k1) ≤ wr (M3 a0 7) then
    bnd (xset M3 a0 7 ((M3 a0 7) - (2 * k1))) (fun M5 =>
    bnd (xset M5 a0 8 ((M5 a0 8) + 1)) (fun M6 =>
    (f_82 M6 a0).bind (fun k7 =>
    some (1, k7)
    )))
  else
    some (0, M3)
  )))
theorem t_81 {rom : xRom} {d : Nat} {M : xM} {a0 : Nat} {a1 : Int} (h0 : Tg a0 = 7) {r : Int × xM} {out : Option xV × xH} (e : f_81 M a0 a1 = some r) (hK : eIW out r) : Rn rom (d + 3) 61 (0, [some (vR a0), some (vI a1), none], [], (G0, M)) out := by
  have hc : xkall.getD 61 [] = xk_61 := rfl
  unfold f_81 at e
  refine Rn_ms (σ' := (3, [some (vR a0), some (vI a1), none], [vR a0, vR a0, vI 2], (G0, M))) hc 3 rfl ?_
  refine Rn_getI hc rfl h0 (by decide) (by decide) ?_
  show Rn rom (d + 3) 61 (6, [some (vR a0), some (vI a1), none], [vI (M a0 5), vR a0, vI 2], (G0, M)) out
  refine R_bind e (fun k1 hk1 e => ?_)
  refine Rn_cv hc rfl rfl (by decide) (ii := xi_42) rfl rfl rfl (h0 : Tg _ = 7) (by decide) rfl (le := [some (vR a0), some (vI (M a0 5)), none, none, none]) rfl (v := some (vI k1)) (M' := M) (t_62 h0 (d := d + 1) hk1 rfl) ?_
  refine Rn_ms (σ' := (13, [some (vR a0), some (vI a1), some (vI (2 * k1))], [vR a0, vR a0], (G0, M))) hc 4 rfl ?_
  refine Rn_getI hc rfl h0 (by decide) (by decide) ?_
  refine Rn_ms (σ' := (18, [some (vR a0), some (vI a1), some (vI (2 * k1))], [vI ((M a0 7) + a1), vR a0], (G0, M))) hc 2 rfl ?_
  refine R_bnd e (fun M2 hM2 e => ?_)
  refine Rn_putI' hM2 hc rfl h0 (by decide) (Or.inl rfl) ?_
  refine Rn_ms (σ' := (23, [some (vR a0), some (vI a1), some (vI (2 * k1))], [vR a0, vR a0], (G0, M2))) hc 2 rfl ?_
  refine Rn_getI hc rfl h0 (by decide) (by decide) ?_
  refine Rn_ms (σ' := (28, [some (vR a0), some (vI a1), some (vI (2 * k1))], [vI ((M2 a0 9) + a1), vR a0], (G0, M2))) hc 2 rfl ?_
  refine R_bnd e (fun M3 hM3 e => ?_)
  refine Rn_putI' hM3 hc rfl h0 (by decide) (Or.inl rfl) ?_
  refine Rn_ms (σ' := (32, [some (vR a0), some (vI a1), some (vI (2 * k1))], [vR a0], (G0, M3))) hc 1 rfl ?_
  refine Rn_getI hc rfl h0 (by decide) (by decide) ?_
  refine Rn_ms (σ' := (36, [some (vR a0), some (vI a1), some (vI (2 * k1))], [vI (2 * k1), vI (M3 a0 7)], (G0, M3))) hc 1 rfl ?_
  refine R_ite e (fun b4 e => ?_) (fun b4 e => ?_)
  · refine Rn_icT (tgt := 41) hc rfl rfl (by decide) b4 ?_
    refine Rn_ms (σ' := (43, [some (vR a0), some (vI a1), some (vI (2 * k1))], [vR a0, vR a0], (G0, M3))) hc 2 rfl ?_
    refine Rn_getI hc rfl h0 (by decide) (by decide) ?_
    refine Rn_ms (σ' := (48, [some (vR a0), some (vI a1), some (vI (2 * k1))], [vI ((M3 a0 7) - (2 * k1)), vR a0], (G0, M3))) hc 2 rfl ?_
    refine R_bnd e (fun M5 hM5 e => ?_)
    refine Rn_putI' hM5 hc rfl h0 (by decide) (Or.inl rfl) ?_
    refine Rn_ms (σ' := (53, [some (vR a0), some (vI a1), some (vI (2 * k1))], [vR a0, vR a0], (G0, M5))) hc 2 rfl ?_
    refine Rn_getI hc rfl h0 (by decide) (by decide) ?_
    refine Rn_ms (σ' := (58, [some (vR a0), some (vI a1), some (vI (2 * k1))], [vI ((M5 a0 8) + 1), vR a0], (G0, M5))) hc 2 rfl ?_
    refine R_bnd e (fun M6 hM6 e => ?_)
    refine Rn_putI' hM6 hc rfl h0 (by decide) (Or.inl rfl) ?_
    refine Rn_ms (σ' := (62, [some (vR a0), some (vI a1), some (vI (2 * k1))], [vR a0], (G0, M6))) hc 1 rfl ?_
    refine R_bind e (fun k7 hk7 e => ?_)
    refine Rn_cv hc rfl rfl (by decide) (ii := xi_62) rfl rfl rfl (h0 : Tg _ = 7) (by decide) rfl (le := [some (vR a0), none, none]) rfl (v := none) (M' := k7) (t_82 h0 (d := d + 0) hk7 rfl) ?_
    refine Rn_ms (σ' := (66, [some (vR a0), some (vI a1), some (vI (2 * k1))], [vI 1], (G0, k7))) hc 1 rfl ?_
    cases e
    exact R_end (Rn_iret hc rfl rfl (xretI rfl rfl)) hK
  · refine Rn_icF hc rfl rfl (by decide) b4 ?_
    refine Rn_ms (σ' := (40, [some (vR a0), some (vI a1), some (vI (2 * k1))], [vI 0], (G0, M3))) hc 1 rfl ?_
    cases e
    exact R_end (Rn_iret hc rfl rfl (xretI rfl rfl)) hK
/-- PedalLayers$Pedal.longestTake -/
def f_80 (M : xM) (a0 : Nat) : Option (Int) :=
  if wr (M a0 4) = 1 then
    some (48)
  else
    (f_63 M a0).bind (fun k2 =>
    some (4 * k2)
    )
theorem t_80 {rom : xRom} {d : Nat} {M : xM} {a0 : Nat} (h0 : Tg a0 = 7) {r : Int} {out : Option xV × xH} (e : f_80 M a0 = some r) (hK : eI M out r) : Rn rom (d + 3) 60 (0, [some (vR a0)], [], (G0, M)) out := by
  have hc : xkall.getD 60 [] = xk_60 := rfl
  unfold f_80 at e
  refine Rn_ms (σ' := (1, [some (vR a0)], [vR a0], (G0, M))) hc 1 rfl ?_
  refine Rn_getI hc rfl h0 (by decide) (by decide) ?_
  refine Rn_ms (σ' := (5, [some (vR a0)], [vI 1, vI (M a0 4)], (G0, M))) hc 1 rfl ?_
  refine R_ite e (fun b1 e => ?_) (fun b1 e => ?_)
  · refine Rn_icF hc rfl rfl (by decide) (fun w => w b1) ?_
    refine Rn_ms (σ' := (19, [some (vR a0)], [vI 48], (G0, M))) hc 2 rfl ?_
    cases e
    exact R_end (Rn_iret hc rfl rfl (xretI rfl rfl)) hK
  · refine Rn_icT (tgt := 13) hc rfl rfl (by decide) (fun w => b1 w) ?_
    refine Rn_ms (σ' := (15, [some (vR a0)], [vR a0, vI 4], (G0, M))) hc 2 rfl ?_
    refine R_bind e (fun k2 hk2 e => ?_)
    refine Rn_cv hc rfl rfl (by decide) (ii := xi_43) rfl rfl rfl (h0 : Tg _ = 7) (by decide) rfl (le := [some (vR a0), none]) rfl (v := some (vI k2)) (M' := M) (t_63 h0 (d := d + 0) hk2 rfl) ?_
    refine Rn_ms (σ' := (19, [some (vR a0)], [vI (4 * k2)], (G0, M))) hc 1 rfl ?_
    cases e
    exact R_end (Rn_iret hc rfl rfl (xretI rfl rfl)) hK
def f_79_L54 (M : xM) (a0 : Nat) (c1 : Int) (c2 : Int) (c4 : Int) (s0 : Int) (s1 : Int) : Option ((Int × Int × xM) ⊕ (Int × xM)) :=
  if wr (f_60 M a0) = 0 then
    some (.inl ((s0 + s1), (c4 + 1), M))
  else
    bnd (xset M (a0 + 3) 1 ((M (a0 + 3) 1) + c2)) (fun M7 =>
    (f_80 M7 a0).bind (fun k8 =>
    if wr (M7 (a0 + 3) 1) < wr k8 then
      some (.inl ((s0 + s1), (c4 + 1), M7))
    else
      (f_73 M7 a0).bind (fun k10 =>
      some (.inl ((s0 + s1), (c4 + 1), k10.2))
      )
    ))
theorem t_79_L54 {rom : xRom} {d : Nat} {a0 : Nat} {c1 : Int} {c2 : Int} {c4 : Int} {s0 : Int} {s1 : Int} {M : xM} (h0 : Tg a0 = 7) {r : (Int × Int × xM) ⊕ (Int × xM)} {out : Option xV × xH} (e : f_79_L54 M a0 c1 c2 c4 s0 s1 = some r) (hK : ((Sum.elim (fun s => Rn rom (d + 4) 59 (31, [some (vR a0), some (vI c1), some (vI c2), some (vI s.1), some (vI s.2.1)], [], (G0, s.2.2)) out) (eIW out))) r) : Rn rom (d + 4) 59 (54, [some (vR a0), some (vI c1), some (vI c2), none, some (vI c4)], [vI s1, vI s0], (G0, M)) out := by
  have hc : xkall.getD 59 [] = xk_59 := rfl
  unfold f_79_L54 at e
  refine Rn_ms (σ' := (57, [some (vR a0), some (vI c1), some (vI c2), some (vI (s0 + s1)), some (vI c4)], [vR a0], (G0, M))) hc 3 rfl ?_
  refine Rn_cv hc rfl rfl (by decide) (ii := xi_40) rfl rfl rfl (h0 : Tg _ = 7) (by decide) rfl (le := [some (vR a0)]) rfl (v := some (vI (f_60 M a0))) (M' := M) (t_60 h0 (d := d + 3) rfl rfl) ?_
  show Rn rom (d + 4) 59 (60, [some (vR a0), some (vI c1), some (vI c2), some (vI (s0 + s1)), some (vI c4)], [vI (f_60 M a0)], (G0, M)) out
  refine R_ite e (fun b6 e => ?_) (fun b6 e => ?_)
  · refine Rn_ifF hc rfl rfl (by decide) (fun w => w b6) ?_
    refine Rn_ms (σ' := (31, [some (vR a0), some (vI c1), some (vI c2), some (vI (s0 + s1)), some (vI (c4 + 1))], [], (G0, M))) hc 3 rfl ?_
    cases e
    exact Rn_weak (xle_s (xle_s (xle_s (xle_s (xle_s xle_0))))) hK
  · refine Rn_ifT (tgt := 66) hc rfl rfl (by decide) (fun w => b6 w) ?_
    refine Rn_ms (σ' := (67, [some (vR a0), some (vI c1), some (vI c2), some (vI (s0 + s1)), some (vI c4)], [vR a0], (G0, M))) hc 1 rfl ?_
    refine Rn_getR hc rfl h0 (by decide) rfl (gP7_0_2 h0) ?_
    refine Rn_ms (σ' := (71, [some (vR a0), some (vI c1), some (vI c2), some (vI (s0 + s1)), some (vI c4)], [vR (a0 + 3), vR (a0 + 3)], (G0, M))) hc 1 rfl ?_
    refine Rn_getI hc rfl (gT7_3 h0) (by decide) (by decide) ?_
    refine Rn_ms (σ' := (76, [some (vR a0), some (vI c1), some (vI c2), some (vI (s0 + s1)), some (vI c4)], [vI ((M (a0 + 3) 1) + c2), vR (a0 + 3)], (G0, M))) hc 2 rfl ?_
    refine R_bnd e (fun M7 hM7 e => ?_)
    refine Rn_putI' hM7 hc rfl (gT7_3 h0) (by decide) (Or.inl rfl) ?_
    refine Rn_ms (σ' := (80, [some (vR a0), some (vI c1), some (vI c2), some (vI (s0 + s1)), some (vI c4)], [vR a0], (G0, M7))) hc 1 rfl ?_
    refine Rn_getR hc rfl h0 (by decide) rfl (gP7_0_2 h0) ?_
    show Rn rom (d + 4) 59 (83, [some (vR a0), some (vI c1), some (vI c2), some (vI (s0 + s1)), some (vI c4)], [vR (a0 + 3)], (G0, M7)) out
    refine Rn_getI hc rfl (gT7_3 h0) (by decide) (by decide) ?_
    refine Rn_ms (σ' := (87, [some (vR a0), some (vI c1), some (vI c2), some (vI (s0 + s1)), some (vI c4)], [vR a0, vI (M7 (a0 + 3) 1)], (G0, M7))) hc 1 rfl ?_
    refine R_bind e (fun k8 hk8 e => ?_)
    refine Rn_cv hc rfl rfl (by decide) (ii := xi_60) rfl rfl rfl (h0 : Tg _ = 7) (by decide) rfl (le := [some (vR a0)]) rfl (v := some (vI k8)) (M' := M7) (t_80 h0 (d := d + 0) hk8 rfl) ?_
    show Rn rom (d + 4) 59 (90, [some (vR a0), some (vI c1), some (vI c2), some (vI (s0 + s1)), some (vI c4)], [vI k8, vI (M7 (a0 + 3) 1)], (G0, M7)) out
    refine R_ite e (fun b9 e => ?_) (fun b9 e => ?_)
    · refine Rn_icT (tgt := 98) hc rfl rfl (by decide) b9 ?_
      refine Rn_ms (σ' := (31, [some (vR a0), some (vI c1), some (vI c2), some (vI (s0 + s1)), some (vI (c4 + 1))], [], (G0, M7))) hc 2 rfl ?_
      cases e
      exact Rn_weak (xle_s (xle_s (xle_s (xle_s (xle_s xle_0))))) hK
    · refine Rn_icF hc rfl rfl (by decide) b9 ?_
      refine Rn_ms (σ' := (94, [some (vR a0), some (vI c1), some (vI c2), some (vI (s0 + s1)), some (vI c4)], [vR a0], (G0, M7))) hc 1 rfl ?_
      refine R_bind e (fun k10 hk10 e => ?_)
      refine Rn_cv hc rfl rfl (by decide) (ii := xi_53) rfl rfl rfl (h0 : Tg _ = 7) (by decide) rfl (le := [some (vR a0), none]) rfl (v := some (vI k10.1)) (M' := k10.2) (t_73 h0 (d := d + 0) hk10 rfl) ?_
      refine Rn_ms (σ' := (31, [some (vR a0), some (vI c1), some (vI c2), some (vI (s0 + s1)), some (vI (c4 + 1))], [], (G0, k10.2))) hc 3 rfl ?_
      cases e
      exact Rn_weak (xle_s (xle_s (xle_s (xle_s (xle_s xle_0))))) hK
def f_79_L31b (a0 : Nat) (c1 : Int) (c2 : Int) (v3 : Int) (v4 : Int) (M : xM) : Option ((Int × Int × xM) ⊕ (Int × xM)) :=
  if wr c1 ≤ wr v4 then
    some (.inr ((v3, M)))
  else
    if wr (f_61 M a0) = 0 then
      f_79_L54 M a0 c1 c2 v4 v3 0
    else
      (f_81 M a0 c2).bind (fun k11 =>
      f_79_L54 k11.2 a0 c1 c2 v4 v3 k11.1
      )
theorem t_79_L31b {rom : xRom} {d : Nat} {a0 : Nat} {c1 : Int} {c2 : Int} {v3 : Int} {v4 : Int} {M : xM} (h0 : Tg a0 = 7) {r : (Int × Int × xM) ⊕ (Int × xM)} {out : Option xV × xH} (e : f_79_L31b a0 c1 c2 v3 v4 M = some r) (hK : ((Sum.elim (fun s => Rn rom (d + 4) 59 (31, [some (vR a0), some (vI c1), some (vI c2), some (vI s.1), some (vI s.2.1)], [], (G0, s.2.2)) out) (eIW out))) r) : Rn rom (d + 4) 59 (31, [some (vR a0), some (vI c1), some (vI c2), some (vI v3), some (vI v4)], [], (G0, M)) out := by
  have hc : xkall.getD 59 [] = xk_59 := rfl
  unfold f_79_L31b at e
  refine Rn_ms (σ' := (34, [some (vR a0), some (vI c1), some (vI c2), some (vI v3), some (vI v4)], [vI c1, vI v4], (G0, M))) hc 2 rfl ?_
  refine R_ite e (fun b4 e => ?_) (fun b4 e => ?_)
  · refine Rn_icT (tgt := 104) hc rfl rfl (by decide) b4 ?_
    refine Rn_ms (σ' := (105, [some (vR a0), some (vI c1), some (vI c2), some (vI v3), some (vI v4)], [vI v3], (G0, M))) hc 1 rfl ?_
    cases e
    exact R_end (Rn_iret hc rfl rfl (xretI rfl rfl)) hK
  · refine Rn_icF hc rfl rfl (by decide) b4 ?_
    refine Rn_ms (σ' := (39, [some (vR a0), some (vI c1), some (vI c2), some (vI v3), some (vI v4)], [vR a0, vI v3], (G0, M))) hc 2 rfl ?_
    refine Rn_cv hc rfl rfl (by decide) (ii := xi_41) rfl rfl rfl (h0 : Tg _ = 7) (by decide) rfl (le := [some (vR a0)]) rfl (v := some (vI (f_61 M a0))) (M' := M) (t_61 h0 (d := d + 3) rfl rfl) ?_
    show Rn rom (d + 4) 59 (42, [some (vR a0), some (vI c1), some (vI c2), some (vI v3), some (vI v4)], [vI (f_61 M a0), vI v3], (G0, M)) out
    refine R_ite e (fun b5 e => ?_) (fun b5 e => ?_)
    · refine Rn_ifT (tgt := 53) hc rfl rfl (by decide) b5 ?_
      refine Rn_ms (σ' := (54, [some (vR a0), some (vI c1), some (vI c2), some (vI v3), some (vI v4)], [vI 0, vI v3], (G0, M))) hc 1 rfl ?_
      exact Rn_weak (xle_s (xle_s (xle_s (xle_n (xle_s xle_0))))) (t_79_L54 h0 e hK)
    · refine Rn_ifF hc rfl rfl (by decide) b5 ?_
      refine Rn_ms (σ' := (47, [some (vR a0), some (vI c1), some (vI c2), some (vI v3), some (vI v4)], [vI c2, vR a0, vI v3], (G0, M))) hc 2 rfl ?_
      refine R_bind e (fun k11 hk11 e => ?_)
      refine Rn_cv hc rfl rfl (by decide) (ii := xi_61) rfl rfl rfl (h0 : Tg _ = 7) (by decide) rfl (le := [some (vR a0), some (vI c2), none]) rfl (v := some (vI k11.1)) (M' := k11.2) (t_81 h0 (d := d + 0) hk11 rfl) ?_
      refine Rn_ms (σ' := (54, [some (vR a0), some (vI c1), some (vI c2), some (vI v3), some (vI v4)], [vI k11.1, vI v3], (G0, k11.2))) hc 1 rfl ?_
      exact Rn_weak (xle_s (xle_s (xle_s (xle_n (xle_s xle_0))))) (t_79_L54 h0 e hK)
def f_79_L31 (a0 : Nat) (c1 : Int) (c2 : Int) (s : Int × Int × xM) : Option (Int × xM) := loop NF (fun s => f_79_L31b a0 c1 c2 s.1 s.2.1 s.2.2) s
theorem t_79_L31 {rom : xRom} {d : Nat} {a0 : Nat} {c1 : Int} {c2 : Int} (h0 : Tg a0 = 7) {s : Int × Int × xM} {r : Int × xM} {out : Option xV × xH} (e : f_79_L31 a0 c1 c2 s = some r) (hK : (eIW out) r) : Rn rom (d + 4) 59 (31, [some (vR a0), some (vI c1), some (vI c2), some (vI s.1), some (vI s.2.1)], [], (G0, s.2.2)) out := by
  unfold f_79_L31 at e
  revert e hK
  exact R_loop (b := fun s => f_79_L31b a0 c1 c2 s.1 s.2.1 s.2.2) (G := fun s => Rn rom (d + 4) 59 (31, [some (vR a0), some (vI c1), some (vI c2), some (vI s.1), some (vI s.2.1)], [], (G0, s.2.2)) out) (K := eIW out) (fun s r e hK => t_79_L31b h0 e hK) NF s r
/-- PedalLayers$Pedal.runTicks -/
def f_79 (M : xM) (a0 : Nat) (a1 : Int) : Option (Int × xM) :=
  if wr a1 < 1 then
    some ((-1), M)
  else
    if wr a1 ≤ 99 then
      if wr (M a0 3) = 0 then
        f_79_L31 a0 a1 2 (0, 0, M)
      else
        f_79_L31 a0 a1 1 (0, 0, M)
    else
      some ((-1), M)
theorem t_79 {rom : xRom} {d : Nat} {M : xM} {a0 : Nat} {a1 : Int} (h0 : Tg a0 = 7) {r : Int × xM} {out : Option xV × xH} (e : f_79 M a0 a1 = some r) (hK : eIW out r) : Rn rom (d + 4) 59 (0, [some (vR a0), some (vI a1), none, none, none], [], (G0, M)) out := by
  have hc : xkall.getD 59 [] = xk_59 := rfl
  unfold f_79 at e
  refine Rn_ms (σ' := (2, [some (vR a0), some (vI a1), none, none, none], [vI 1, vI a1], (G0, M))) hc 2 rfl ?_
  refine R_ite e (fun b1 e => ?_) (fun b1 e => ?_)
  · refine Rn_icT (tgt := 11) hc rfl rfl (by decide) b1 ?_
    refine Rn_ms (σ' := (12, [some (vR a0), some (vI a1), none, none, none], [vI (-1)], (G0, M))) hc 1 rfl ?_
    cases e
    exact R_end (Rn_iret hc rfl rfl (xretI rfl rfl)) hK
  · refine Rn_icF hc rfl rfl (by decide) b1 ?_
    refine Rn_ms (σ' := (8, [some (vR a0), some (vI a1), none, none, none], [vI 99, vI a1], (G0, M))) hc 2 rfl ?_
    refine R_ite e (fun b2 e => ?_) (fun b2 e => ?_)
    · refine Rn_icT (tgt := 13) hc rfl rfl (by decide) b2 ?_
      refine Rn_ms (σ' := (14, [some (vR a0), some (vI a1), none, none, none], [vR a0], (G0, M))) hc 1 rfl ?_
      refine Rn_getI hc rfl h0 (by decide) (by decide) ?_
      show Rn rom (d + 4) 59 (17, [some (vR a0), some (vI a1), none, none, none], [vI (M a0 3)], (G0, M)) out
      refine R_ite e (fun b3 e => ?_) (fun b3 e => ?_)
      · refine Rn_ifT (tgt := 24) hc rfl rfl (by decide) b3 ?_
        refine Rn_ms (σ' := (31, [some (vR a0), some (vI a1), some (vI 2), some (vI 0), some (vI 0)], [], (G0, M))) hc 6 rfl ?_
        exact Rn_weak (xle_s (xle_s (xle_s (xle_s (xle_s xle_0))))) (t_79_L31 h0 e hK)
      · refine Rn_ifF hc rfl rfl (by decide) b3 ?_
        refine Rn_ms (σ' := (31, [some (vR a0), some (vI a1), some (vI 1), some (vI 0), some (vI 0)], [], (G0, M))) hc 7 rfl ?_
        exact Rn_weak (xle_s (xle_s (xle_s (xle_s (xle_s xle_0))))) (t_79_L31 h0 e hK)
    · refine Rn_icF hc rfl rfl (by decide) b2 ?_
      refine Rn_ms (σ' := (12, [some (vR a0), some (vI a1), none, none, none], [vI (-1)], (G0, M))) hc 1 rfl ?_
      cases e
      exact R_end (Rn_iret hc rfl rfl (xretI rfl rfl)) hK
/-- PedalLayers$Pedal.peelOff -/
def f_83 (M : xM) (a0 : Nat) : Option (Int × xM) :=
  if wr (f_60 M a0) = 0 then
    if 2 ≤ wr (M a0 5) then
      bnd (xset M a0 5 ((M a0 5) - 1)) (fun M3 =>
      bnd (xset M3 a0 6 ((M3 a0 6) + 1)) (fun M4 =>
      (f_62 M4 a0 (M4 a0 5)).bind (fun k5 =>
      bnd (xset M4 a0 7 (f_134 (M4 a0 7) (2 * k5))) (fun M6 =>
      some ((M6 a0 5), M6)
      ))))
    else
      some ((-2), M)
  else
    some ((-2), M)
theorem t_83 {rom : xRom} {d : Nat} {M : xM} {a0 : Nat} (h0 : Tg a0 = 7) {r : Int × xM} {out : Option xV × xH} (e : f_83 M a0 = some r) (hK : eIW out r) : Rn rom (d + 2) 63 (0, [some (vR a0)], [], (G0, M)) out := by
  have hc : xkall.getD 63 [] = xk_63 := rfl
  unfold f_83 at e
  refine Rn_ms (σ' := (1, [some (vR a0)], [vR a0], (G0, M))) hc 1 rfl ?_
  refine Rn_cv hc rfl rfl (by decide) (ii := xi_40) rfl rfl rfl (h0 : Tg _ = 7) (by decide) rfl (le := [some (vR a0)]) rfl (v := some (vI (f_60 M a0))) (M' := M) (t_60 h0 (d := d + 1) rfl rfl) ?_
  show Rn rom (d + 2) 63 (4, [some (vR a0)], [vI (f_60 M a0)], (G0, M)) out
  refine R_ite e (fun b1 e => ?_) (fun b1 e => ?_)
  · refine Rn_ifF hc rfl rfl (by decide) (fun w => w b1) ?_
    refine Rn_ms (σ' := (8, [some (vR a0)], [vR a0], (G0, M))) hc 1 rfl ?_
    refine Rn_getI hc rfl h0 (by decide) (by decide) ?_
    refine Rn_ms (σ' := (12, [some (vR a0)], [vI 2, vI (M a0 5)], (G0, M))) hc 1 rfl ?_
    refine R_ite e (fun b2 e => ?_) (fun b2 e => ?_)
    · refine Rn_icT (tgt := 18) hc rfl rfl (by decide) b2 ?_
      refine Rn_ms (σ' := (20, [some (vR a0)], [vR a0, vR a0], (G0, M))) hc 2 rfl ?_
      refine Rn_getI hc rfl h0 (by decide) (by decide) ?_
      refine Rn_ms (σ' := (25, [some (vR a0)], [vI ((M a0 5) - 1), vR a0], (G0, M))) hc 2 rfl ?_
      refine R_bnd e (fun M3 hM3 e => ?_)
      refine Rn_putI' hM3 hc rfl h0 (by decide) (Or.inl rfl) ?_
      refine Rn_ms (σ' := (30, [some (vR a0)], [vR a0, vR a0], (G0, M3))) hc 2 rfl ?_
      refine Rn_getI hc rfl h0 (by decide) (by decide) ?_
      refine Rn_ms (σ' := (35, [some (vR a0)], [vI ((M3 a0 6) + 1), vR a0], (G0, M3))) hc 2 rfl ?_
      refine R_bnd e (fun M4 hM4 e => ?_)
      refine Rn_putI' hM4 hc rfl h0 (by decide) (Or.inl rfl) ?_
      refine Rn_ms (σ' := (40, [some (vR a0)], [vR a0, vR a0], (G0, M4))) hc 2 rfl ?_
      refine Rn_getI hc rfl h0 (by decide) (by decide) ?_
      refine Rn_ms (σ' := (46, [some (vR a0)], [vR a0, vR a0, vI 2, vI (M4 a0 7), vR a0], (G0, M4))) hc 3 rfl ?_
      refine Rn_getI hc rfl h0 (by decide) (by decide) ?_
      show Rn rom (d + 2) 63 (49, [some (vR a0)], [vI (M4 a0 5), vR a0, vI 2, vI (M4 a0 7), vR a0], (G0, M4)) out
      refine R_bind e (fun k5 hk5 e => ?_)
      refine Rn_cv hc rfl rfl (by decide) (ii := xi_42) rfl rfl rfl (h0 : Tg _ = 7) (by decide) rfl (le := [some (vR a0), some (vI (M4 a0 5)), none, none, none]) rfl (v := some (vI k5)) (M' := M4) (t_62 h0 (d := d + 0) hk5 rfl) ?_
      refine Rn_ms (σ' := (53, [some (vR a0)], [vI (2 * k5), vI (M4 a0 7), vR a0], (G0, M4))) hc 1 rfl ?_
      refine Rn_cs hc rfl rfl (by decide) (ii := xi_103) rfl rfl rfl (le := [some (vI (M4 a0 7)), some (vI (2 * k5))]) rfl (v := some (vI (f_134 (M4 a0 7) (2 * k5)))) (M' := M4) (t_134  (d := d + 1) rfl rfl) ?_
      show Rn rom (d + 2) 63 (56, [some (vR a0)], [vI (f_134 (M4 a0 7) (2 * k5)), vR a0], (G0, M4)) out
      refine R_bnd e (fun M6 hM6 e => ?_)
      refine Rn_putI' hM6 hc rfl h0 (by decide) (Or.inl rfl) ?_
      refine Rn_ms (σ' := (60, [some (vR a0)], [vR a0], (G0, M6))) hc 1 rfl ?_
      refine Rn_getI hc rfl h0 (by decide) (by decide) ?_
      show Rn rom (d + 2) 63 (63, [some (vR a0)], [vI (M6 a0 5)], (G0, M6)) out
      cases e
      exact R_end (Rn_iret hc rfl rfl (xretI rfl rfl)) hK
    · refine Rn_icF hc rfl rfl (by decide) b2 ?_
      refine Rn_ms (σ' := (17, [some (vR a0)], [vI (-2)], (G0, M))) hc 1 rfl ?_
      cases e
      exact R_end (Rn_iret hc rfl rfl (xretI rfl rfl)) hK
  · refine Rn_ifT (tgt := 15) hc rfl rfl (by decide) (fun w => b1 w) ?_
    refine Rn_ms (σ' := (17, [some (vR a0)], [vI (-2)], (G0, M))) hc 1 rfl ?_
    cases e
    exact R_end (Rn_iret hc rfl rfl (xretI rfl rfl)) hK
/-- PedalLayers$Pedal.putBack -/
def f_84 (M : xM) (a0 : Nat) : Int × xM :=
  if wr (f_60 M a0) = 0 then
    if wr (M a0 6) = 0 then
      ((-2), M)
    else
      bnd (xset M a0 5 ((M a0 5) + 1)) (fun M3 =>
      bnd (xset M3 a0 6 ((M3 a0 6) - 1)) (fun M4 =>
      ((M4 a0 5), M4)
      ))
  else
    ((-2), M)
theorem t_84 {rom : xRom} {d : Nat} {M : xM} {a0 : Nat} (h0 : Tg a0 = 7) {r : Int × xM} {out : Option xV × xH} (e : f_84 M a0 = r) (hK : eIW out r) : Rn rom (d + 1) 64 (0, [some (vR a0)], [], (G0, M)) out := by
  have hc : xkall.getD 64 [] = xk_64 := rfl
  unfold f_84 at e
  refine Rn_ms (σ' := (1, [some (vR a0)], [vR a0], (G0, M))) hc 1 rfl ?_
  refine Rn_cv hc rfl rfl (by decide) (ii := xi_40) rfl rfl rfl (h0 : Tg _ = 7) (by decide) rfl (le := [some (vR a0)]) rfl (v := some (vI (f_60 M a0))) (M' := M) (t_60 h0 (d := d + 0) rfl rfl) ?_
  show Rn rom (d + 1) 64 (4, [some (vR a0)], [vI (f_60 M a0)], (G0, M)) out
  refine R_ite e (fun b1 e => ?_) (fun b1 e => ?_)
  · refine Rn_ifF hc rfl rfl (by decide) (fun w => w b1) ?_
    refine Rn_ms (σ' := (8, [some (vR a0)], [vR a0], (G0, M))) hc 1 rfl ?_
    refine Rn_getI hc rfl h0 (by decide) (by decide) ?_
    show Rn rom (d + 1) 64 (11, [some (vR a0)], [vI (M a0 6)], (G0, M)) out
    refine R_ite e (fun b2 e => ?_) (fun b2 e => ?_)
    · refine Rn_ifF hc rfl rfl (by decide) (fun w => w b2) ?_
      refine Rn_ms (σ' := (16, [some (vR a0)], [vI (-2)], (G0, M))) hc 1 rfl ?_
      cases e
      exact R_end (Rn_iret hc rfl rfl (xretI rfl rfl)) hK
    · refine Rn_ifT (tgt := 17) hc rfl rfl (by decide) (fun w => b2 w) ?_
      refine Rn_ms (σ' := (19, [some (vR a0)], [vR a0, vR a0], (G0, M))) hc 2 rfl ?_
      refine Rn_getI hc rfl h0 (by decide) (by decide) ?_
      refine Rn_ms (σ' := (24, [some (vR a0)], [vI ((M a0 5) + 1), vR a0], (G0, M))) hc 2 rfl ?_
      refine R_bnd e (fun M3 hM3 e => ?_)
      refine Rn_putI' hM3 hc rfl h0 (by decide) (Or.inl rfl) ?_
      refine Rn_ms (σ' := (29, [some (vR a0)], [vR a0, vR a0], (G0, M3))) hc 2 rfl ?_
      refine Rn_getI hc rfl h0 (by decide) (by decide) ?_
      refine Rn_ms (σ' := (34, [some (vR a0)], [vI ((M3 a0 6) - 1), vR a0], (G0, M3))) hc 2 rfl ?_
      refine R_bnd e (fun M4 hM4 e => ?_)
      refine Rn_putI' hM4 hc rfl h0 (by decide) (Or.inl rfl) ?_
      refine Rn_ms (σ' := (38, [some (vR a0)], [vR a0], (G0, M4))) hc 1 rfl ?_
      refine Rn_getI hc rfl h0 (by decide) (by decide) ?_
      show Rn rom (d + 1) 64 (41, [some (vR a0)], [vI (M4 a0 5)], (G0, M4)) out
      cases e
      exact R_end (Rn_iret hc rfl rfl (xretI rfl rfl)) hK
  · refine Rn_ifT (tgt := 14) hc rfl rfl (by decide) (fun w => b1 w) ?_
    refine Rn_ms (σ' := (16, [some (vR a0)], [vI (-2)], (G0, M))) hc 1 rfl ?_
    cases e
    exact R_end (Rn_iret hc rfl rfl (xretI rfl rfl)) hK
/-- PedalLayers$Pedal.switchMute -/
def f_85 (M : xM) (a0 : Nat) (a1 : Int) : Option (Int × xM) :=
  if (f_58 M a0 a1) = 0 then
    some ((-1), M)
  else
    gd (Tg (f_58 M a0 a1) = 3) (
    if wr (M (f_58 M a0 a1) 1) = 0 then
      bnd (xset M (f_58 M a0 a1) 1 1) (fun M4 =>
      if wr (M4 (f_58 M a0 a1) 1) = 0 then
        some (0, M4)
      else
        some (1, M4)
      )
    else
      bnd (xset M (f_58 M a0 a1) 1 0) (fun M6 =>
      if wr (M6 (f_58 M a0 a1) 1) = 0 then
        some (0, M6)
      else
        some (1, M6)
      )
    )
theorem t_85 {rom : xRom} {d : Nat} {M : xM} {a0 : Nat} {a1 : Int} (h0 : Tg a0 = 7) {r : Int × xM} {out : Option xV × xH} (e : f_85 M a0 a1 = some r) (hK : eIW out r) : Rn rom (d + 2) 65 (0, [some (vR a0), some (vI a1), none], [], (G0, M)) out := by
  have hc : xkall.getD 65 [] = xk_65 := rfl
  unfold f_85 at e
  refine Rn_ms (σ' := (2, [some (vR a0), some (vI a1), none], [vI a1, vR a0], (G0, M))) hc 2 rfl ?_
  refine Rn_cv hc rfl rfl (by decide) (ii := xi_38) rfl rfl rfl (h0 : Tg _ = 7) (by decide) rfl (le := [some (vR a0), some (vI a1)]) rfl (v := some (vR (f_58 M a0 a1))) (M' := M) (t_58 h0 (d := d + 0) rfl rfl) ?_
  refine Rn_ms (σ' := (7, [some (vR a0), some (vI a1), some (vR (f_58 M a0 a1))], [vR (f_58 M a0 a1)], (G0, M))) hc 2 rfl ?_
  refine R_ite e (fun b1 e => ?_) (fun b1 e => ?_)
  · refine Rn_nnF hc rfl rfl (by decide) b1 ?_
    refine Rn_ms (σ' := (11, [some (vR a0), some (vI a1), some (vR (f_58 M a0 a1))], [vI (-1)], (G0, M))) hc 1 rfl ?_
    cases e
    exact R_end (Rn_iret hc rfl rfl (xretI rfl rfl)) hK
  · refine Rn_nnT (tgt := 12) hc rfl rfl (by decide) b1 ?_
    refine Rn_ms (σ' := (14, [some (vR a0), some (vI a1), some (vR (f_58 M a0 a1))], [vR (f_58 M a0 a1), vR (f_58 M a0 a1)], (G0, M))) hc 2 rfl ?_
    refine R_gd e (fun g2 e => ?_)
    refine Rn_getI hc rfl g2 (by decide) (by decide) ?_
    show Rn rom (d + 2) 65 (17, [some (vR a0), some (vI a1), some (vR (f_58 M a0 a1))], [vI (M (f_58 M a0 a1) 1), vR (f_58 M a0 a1)], (G0, M)) out
    refine R_ite e (fun b3 e => ?_) (fun b3 e => ?_)
    · refine Rn_ifF hc rfl rfl (by decide) (fun w => w b3) ?_
      refine Rn_ms (σ' := (25, [some (vR a0), some (vI a1), some (vR (f_58 M a0 a1))], [vI 1, vR (f_58 M a0 a1)], (G0, M))) hc 2 rfl ?_
      refine R_bnd e (fun M4 hM4 e => ?_)
      refine Rn_putI' hM4 hc rfl g2 (by decide) (Or.inr ⟨rfl, by decide⟩) ?_
      refine Rn_ms (σ' := (29, [some (vR a0), some (vI a1), some (vR (f_58 M a0 a1))], [vR (f_58 M a0 a1)], (G0, M4))) hc 1 rfl ?_
      refine Rn_getI hc rfl g2 (by decide) (by decide) ?_
      show Rn rom (d + 2) 65 (32, [some (vR a0), some (vI a1), some (vR (f_58 M a0 a1))], [vI (M4 (f_58 M a0 a1) 1)], (G0, M4)) out
      refine R_ite e (fun b5 e => ?_) (fun b5 e => ?_)
      · refine Rn_ifT (tgt := 39) hc rfl rfl (by decide) b5 ?_
        refine Rn_ms (σ' := (40, [some (vR a0), some (vI a1), some (vR (f_58 M a0 a1))], [vI 0], (G0, M4))) hc 1 rfl ?_
        cases e
        exact R_end (Rn_iret hc rfl rfl (xretI rfl rfl)) hK
      · refine Rn_ifF hc rfl rfl (by decide) b5 ?_
        refine Rn_ms (σ' := (40, [some (vR a0), some (vI a1), some (vR (f_58 M a0 a1))], [vI 1], (G0, M4))) hc 2 rfl ?_
        cases e
        exact R_end (Rn_iret hc rfl rfl (xretI rfl rfl)) hK
    · refine Rn_ifT (tgt := 24) hc rfl rfl (by decide) (fun w => b3 w) ?_
      refine Rn_ms (σ' := (25, [some (vR a0), some (vI a1), some (vR (f_58 M a0 a1))], [vI 0, vR (f_58 M a0 a1)], (G0, M))) hc 1 rfl ?_
      refine R_bnd e (fun M6 hM6 e => ?_)
      refine Rn_putI' hM6 hc rfl g2 (by decide) (Or.inr ⟨rfl, by decide⟩) ?_
      refine Rn_ms (σ' := (29, [some (vR a0), some (vI a1), some (vR (f_58 M a0 a1))], [vR (f_58 M a0 a1)], (G0, M6))) hc 1 rfl ?_
      refine Rn_getI hc rfl g2 (by decide) (by decide) ?_
      show Rn rom (d + 2) 65 (32, [some (vR a0), some (vI a1), some (vR (f_58 M a0 a1))], [vI (M6 (f_58 M a0 a1) 1)], (G0, M6)) out
      refine R_ite e (fun b7 e => ?_) (fun b7 e => ?_)
      · refine Rn_ifT (tgt := 39) hc rfl rfl (by decide) b7 ?_
        refine Rn_ms (σ' := (40, [some (vR a0), some (vI a1), some (vR (f_58 M a0 a1))], [vI 0], (G0, M6))) hc 1 rfl ?_
        cases e
        exact R_end (Rn_iret hc rfl rfl (xretI rfl rfl)) hK
      · refine Rn_ifF hc rfl rfl (by decide) b7 ?_
        refine Rn_ms (σ' := (40, [some (vR a0), some (vI a1), some (vR (f_58 M a0 a1))], [vI 1], (G0, M6))) hc 2 rfl ?_
        cases e
        exact R_end (Rn_iret hc rfl rfl (xretI rfl rfl)) hK
/-- PedalLayers$Pedal.switchSpeed -/
def f_86 (M : xM) (a0 : Nat) : Int × xM :=
  if wr (M a0 3) = 0 then
    bnd (xset M a0 3 1) (fun M2 =>
    if wr (M2 a0 3) = 0 then
      (0, M2)
    else
      (1, M2)
    )
  else
    bnd (xset M a0 3 0) (fun M4 =>
    if wr (M4 a0 3) = 0 then
      (0, M4)
    else
      (1, M4)
    )
theorem t_86 {rom : xRom} {d : Nat} {M : xM} {a0 : Nat} (h0 : Tg a0 = 7) {r : Int × xM} {out : Option xV × xH} (e : f_86 M a0 = r) (hK : eIW out r) : Rn rom (d + 0) 66 (0, [some (vR a0)], [], (G0, M)) out := by
  have hc : xkall.getD 66 [] = xk_66 := rfl
  unfold f_86 at e
  refine Rn_ms (σ' := (2, [some (vR a0)], [vR a0, vR a0], (G0, M))) hc 2 rfl ?_
  refine Rn_getI hc rfl h0 (by decide) (by decide) ?_
  show Rn rom (d + 0) 66 (5, [some (vR a0)], [vI (M a0 3), vR a0], (G0, M)) out
  refine R_ite e (fun b1 e => ?_) (fun b1 e => ?_)
  · refine Rn_ifF hc rfl rfl (by decide) (fun w => w b1) ?_
    refine Rn_ms (σ' := (13, [some (vR a0)], [vI 1, vR a0], (G0, M))) hc 2 rfl ?_
    refine R_bnd e (fun M2 hM2 e => ?_)
    refine Rn_putI' hM2 hc rfl h0 (by decide) (Or.inr ⟨rfl, by decide⟩) ?_
    refine Rn_ms (σ' := (17, [some (vR a0)], [vR a0], (G0, M2))) hc 1 rfl ?_
    refine Rn_getI hc rfl h0 (by decide) (by decide) ?_
    show Rn rom (d + 0) 66 (20, [some (vR a0)], [vI (M2 a0 3)], (G0, M2)) out
    refine R_ite e (fun b3 e => ?_) (fun b3 e => ?_)
    · refine Rn_ifT (tgt := 27) hc rfl rfl (by decide) b3 ?_
      refine Rn_ms (σ' := (28, [some (vR a0)], [vI 0], (G0, M2))) hc 1 rfl ?_
      cases e
      exact R_end (Rn_iret hc rfl rfl (xretI rfl rfl)) hK
    · refine Rn_ifF hc rfl rfl (by decide) b3 ?_
      refine Rn_ms (σ' := (28, [some (vR a0)], [vI 1], (G0, M2))) hc 2 rfl ?_
      cases e
      exact R_end (Rn_iret hc rfl rfl (xretI rfl rfl)) hK
  · refine Rn_ifT (tgt := 12) hc rfl rfl (by decide) (fun w => b1 w) ?_
    refine Rn_ms (σ' := (13, [some (vR a0)], [vI 0, vR a0], (G0, M))) hc 1 rfl ?_
    refine R_bnd e (fun M4 hM4 e => ?_)
    refine Rn_putI' hM4 hc rfl h0 (by decide) (Or.inr ⟨rfl, by decide⟩) ?_
    refine Rn_ms (σ' := (17, [some (vR a0)], [vR a0], (G0, M4))) hc 1 rfl ?_
    refine Rn_getI hc rfl h0 (by decide) (by decide) ?_
    show Rn rom (d + 0) 66 (20, [some (vR a0)], [vI (M4 a0 3)], (G0, M4)) out
    refine R_ite e (fun b5 e => ?_) (fun b5 e => ?_)
    · refine Rn_ifT (tgt := 27) hc rfl rfl (by decide) b5 ?_
      refine Rn_ms (σ' := (28, [some (vR a0)], [vI 0], (G0, M4))) hc 1 rfl ?_
      cases e
      exact R_end (Rn_iret hc rfl rfl (xretI rfl rfl)) hK
    · refine Rn_ifF hc rfl rfl (by decide) b5 ?_
      refine Rn_ms (σ' := (28, [some (vR a0)], [vI 1], (G0, M4))) hc 2 rfl ?_
      cases e
      exact R_end (Rn_iret hc rfl rfl (xretI rfl rfl)) hK
/-- PedalLayers.isValueOf -/
def f_133 (rom : xRom) (M : xM) (a0 : Int) (a1 : Int) : Option (Int) :=
  if wr a0 < 0 then
    some (0)
  else
    if wr ((rom 0).1 : Int) ≤ wr a0 then
      some (0)
    else
      if wr ((rom 1).1 : Int) ≤ wr a0 then
        some (0)
      else
        gd (0 ≤ wr a0 ∧ wr a0 < (rom 0).1) (
        if wr a1 < wr ((rom 0).2 (wr a0).toNat) then
          some (0)
        else
          gd (0 ≤ wr a0 ∧ wr a0 < (rom 1).1) (
          if wr ((rom 1).2 (wr a0).toNat) < wr a1 then
            some (0)
          else
            some (1)
          )
        )
theorem t_133 {rom : xRom} {d : Nat} {M : xM} {a0 : Int} {a1 : Int} {r : Int} {out : Option xV × xH} (e : f_133 rom M a0 a1 = some r) (hK : eI M out r) : Rn rom (d + 0) 102 (0, [some (vI a0), some (vI a1)], [], (G0, M)) out := by
  have hc : xkall.getD 102 [] = xk_102 := rfl
  unfold f_133 at e
  refine Rn_ms (σ' := (1, [some (vI a0), some (vI a1)], [vI a0], (G0, M))) hc 1 rfl ?_
  refine R_ite e (fun b1 e => ?_) (fun b1 e => ?_)
  · refine Rn_ifT (tgt := 42) hc rfl rfl (by decide) b1 ?_
    refine Rn_ms (σ' := (43, [some (vI a0), some (vI a1)], [vI 0], (G0, M))) hc 1 rfl ?_
    cases e
    exact R_end (Rn_iret hc rfl rfl (xretB rfl rfl (by decide))) hK
  · refine Rn_ifF hc rfl rfl (by decide) b1 ?_
    refine Rn_ms (σ' := (5, [some (vI a0), some (vI a1)], [vI a0], (G0, M))) hc 1 rfl ?_
    refine Rn_gets hc rfl ?_
    show Rn rom (d + 0) 102 (8, [some (vI a0), some (vI a1)], [vS 0, vI a0], (G0, M)) out
    refine Rn_romlen hc rfl rfl (by decide) ?_
    show Rn rom (d + 0) 102 (9, [some (vI a0), some (vI a1)], [vI ((rom 0).1 : Int), vI a0], (G0, M)) out
    refine R_ite e (fun b2 e => ?_) (fun b2 e => ?_)
    · refine Rn_icT (tgt := 42) hc rfl rfl (by decide) b2 ?_
      refine Rn_ms (σ' := (43, [some (vI a0), some (vI a1)], [vI 0], (G0, M))) hc 1 rfl ?_
      cases e
      exact R_end (Rn_iret hc rfl rfl (xretB rfl rfl (by decide))) hK
    · refine Rn_icF hc rfl rfl (by decide) b2 ?_
      refine Rn_ms (σ' := (13, [some (vI a0), some (vI a1)], [vI a0], (G0, M))) hc 1 rfl ?_
      refine Rn_gets hc rfl ?_
      show Rn rom (d + 0) 102 (16, [some (vI a0), some (vI a1)], [vS 1, vI a0], (G0, M)) out
      refine Rn_romlen hc rfl rfl (by decide) ?_
      show Rn rom (d + 0) 102 (17, [some (vI a0), some (vI a1)], [vI ((rom 1).1 : Int), vI a0], (G0, M)) out
      refine R_ite e (fun b3 e => ?_) (fun b3 e => ?_)
      · refine Rn_icT (tgt := 42) hc rfl rfl (by decide) b3 ?_
        refine Rn_ms (σ' := (43, [some (vI a0), some (vI a1)], [vI 0], (G0, M))) hc 1 rfl ?_
        cases e
        exact R_end (Rn_iret hc rfl rfl (xretB rfl rfl (by decide))) hK
      · refine Rn_icF hc rfl rfl (by decide) b3 ?_
        refine Rn_ms (σ' := (21, [some (vI a0), some (vI a1)], [vI a1], (G0, M))) hc 1 rfl ?_
        refine Rn_gets hc rfl ?_
        refine Rn_ms (σ' := (25, [some (vI a0), some (vI a1)], [vI a0, vS 0, vI a1], (G0, M))) hc 1 rfl ?_
        refine R_gd e (fun g4 e => ?_)
        refine Rn_romld hc rfl rfl (by decide) g4 rfl ?_
        show Rn rom (d + 0) 102 (26, [some (vI a0), some (vI a1)], [vI ((rom 0).2 (wr a0).toNat), vI a1], (G0, M)) out
        refine R_ite e (fun b5 e => ?_) (fun b5 e => ?_)
        · refine Rn_icT (tgt := 42) hc rfl rfl (by decide) b5 ?_
          refine Rn_ms (σ' := (43, [some (vI a0), some (vI a1)], [vI 0], (G0, M))) hc 1 rfl ?_
          cases e
          exact R_end (Rn_iret hc rfl rfl (xretB rfl rfl (by decide))) hK
        · refine Rn_icF hc rfl rfl (by decide) b5 ?_
          refine Rn_ms (σ' := (30, [some (vI a0), some (vI a1)], [vI a1], (G0, M))) hc 1 rfl ?_
          refine Rn_gets hc rfl ?_
          refine Rn_ms (σ' := (34, [some (vI a0), some (vI a1)], [vI a0, vS 1, vI a1], (G0, M))) hc 1 rfl ?_
          refine R_gd e (fun g6 e => ?_)
          refine Rn_romld hc rfl rfl (by decide) g6 rfl ?_
          show Rn rom (d + 0) 102 (35, [some (vI a0), some (vI a1)], [vI ((rom 1).2 (wr a0).toNat), vI a1], (G0, M)) out
          refine R_ite e (fun b7 e => ?_) (fun b7 e => ?_)
          · refine Rn_icT (tgt := 42) hc rfl rfl (by decide) b7 ?_
            refine Rn_ms (σ' := (43, [some (vI a0), some (vI a1)], [vI 0], (G0, M))) hc 1 rfl ?_
            cases e
            exact R_end (Rn_iret hc rfl rfl (xretB rfl rfl (by decide))) hK
          · refine Rn_icF hc rfl rfl (by decide) b7 ?_
            refine Rn_ms (σ' := (43, [some (vI a0), some (vI a1)], [vI 1], (G0, M))) hc 2 rfl ?_
            cases e
            exact R_end (Rn_iret hc rfl rfl (xretB rfl rfl (by decide))) hK
/-- PedalLayers$Pedal.changeSetting -/
def f_87 (rom : xRom) (M : xM) (a0 : Nat) (a1 : Int) (a2 : Int) : Option (Int × xM) :=
  if wr a1 < 0 then
    some ((-1), M)
  else
    if 3 ≤ wr a1 then
      some ((-1), M)
    else
      (f_133 rom M a1 a2).bind (fun k3 =>
      if wr k3 = 0 then
        some ((-1), M)
      else
        bnd (xset M (a0 + 1) (wr a1).toNat a2) (fun M5 =>
        some ((M (a0 + 1) (wr a1).toNat), M5)
        )
      )
theorem t_87 {rom : xRom} {d : Nat} {M : xM} {a0 : Nat} {a1 : Int} {a2 : Int} (h0 : Tg a0 = 7) {r : Int × xM} {out : Option xV × xH} (e : f_87 rom M a0 a1 a2 = some r) (hK : eIW out r) : Rn rom (d + 1) 67 (0, [some (vR a0), some (vI a1), some (vI a2), none], [], (G0, M)) out := by
  have hc : xkall.getD 67 [] = xk_67 := rfl
  unfold f_87 at e
  refine Rn_ms (σ' := (1, [some (vR a0), some (vI a1), some (vI a2), none], [vI a1], (G0, M))) hc 1 rfl ?_
  refine R_ite e (fun b1 e => ?_) (fun b1 e => ?_)
  · refine Rn_ifT (tgt := 21) hc rfl rfl (by decide) b1 ?_
    refine Rn_ms (σ' := (22, [some (vR a0), some (vI a1), some (vI a2), none], [vI (-1)], (G0, M))) hc 1 rfl ?_
    cases e
    exact R_end (Rn_iret hc rfl rfl (xretI rfl rfl)) hK
  · refine Rn_ifF hc rfl rfl (by decide) b1 ?_
    refine Rn_ms (σ' := (6, [some (vR a0), some (vI a1), some (vI a2), none], [vR a0, vI a1], (G0, M))) hc 2 rfl ?_
    refine Rn_getR hc rfl h0 (by decide) rfl (gP7_0_0 h0) ?_
    show Rn rom (d + 1) 67 (9, [some (vR a0), some (vI a1), some (vI a2), none], [vR (a0 + 1), vI a1], (G0, M)) out
    refine Rn_alen hc rfl rfl (gT7_1 h0) (by decide) (gZ7_1 h0) ?_
    show Rn rom (d + 1) 67 (10, [some (vR a0), some (vI a1), some (vI a2), none], [vI 3, vI a1], (G0, M)) out
    refine R_ite e (fun b2 e => ?_) (fun b2 e => ?_)
    · refine Rn_icT (tgt := 21) hc rfl rfl (by decide) b2 ?_
      refine Rn_ms (σ' := (22, [some (vR a0), some (vI a1), some (vI a2), none], [vI (-1)], (G0, M))) hc 1 rfl ?_
      cases e
      exact R_end (Rn_iret hc rfl rfl (xretI rfl rfl)) hK
    · refine Rn_icF hc rfl rfl (by decide) b2 ?_
      refine Rn_ms (σ' := (15, [some (vR a0), some (vI a1), some (vI a2), none], [vI a2, vI a1], (G0, M))) hc 2 rfl ?_
      refine R_bind e (fun k3 hk3 e => ?_)
      refine Rn_cs hc rfl rfl (by decide) (ii := xi_102) rfl rfl rfl (le := [some (vI a1), some (vI a2)]) rfl (v := some (vI k3)) (M' := M) (t_133  (d := d + 0) hk3 rfl) ?_
      show Rn rom (d + 1) 67 (18, [some (vR a0), some (vI a1), some (vI a2), none], [vI k3], (G0, M)) out
      refine R_ite e (fun b4 e => ?_) (fun b4 e => ?_)
      · refine Rn_ifF hc rfl rfl (by decide) (fun w => w b4) ?_
        refine Rn_ms (σ' := (22, [some (vR a0), some (vI a1), some (vI a2), none], [vI (-1)], (G0, M))) hc 1 rfl ?_
        cases e
        exact R_end (Rn_iret hc rfl rfl (xretI rfl rfl)) hK
      · refine Rn_ifT (tgt := 23) hc rfl rfl (by decide) (fun w => b4 w) ?_
        refine Rn_ms (σ' := (24, [some (vR a0), some (vI a1), some (vI a2), none], [vR a0], (G0, M))) hc 1 rfl ?_
        refine Rn_getR hc rfl h0 (by decide) rfl (gP7_0_0 h0) ?_
        refine Rn_ms (σ' := (28, [some (vR a0), some (vI a1), some (vI a2), none], [vI a1, vR (a0 + 1)], (G0, M))) hc 1 rfl ?_
        refine Rn_iald hc rfl rfl (gT7_1 h0) (gZ7_1 h0) (by omega) rfl ?_
        refine Rn_ms (σ' := (31, [some (vR a0), some (vI a1), some (vI a2), some (vI (M (a0 + 1) (wr a1).toNat))], [vR a0], (G0, M))) hc 2 rfl ?_
        refine Rn_getR hc rfl h0 (by decide) rfl (gP7_0_0 h0) ?_
        refine Rn_ms (σ' := (36, [some (vR a0), some (vI a1), some (vI a2), some (vI (M (a0 + 1) (wr a1).toNat))], [vI a2, vI a1, vR (a0 + 1)], (G0, M))) hc 2 rfl ?_
        refine R_bnd e (fun M5 hM5 e => ?_)
        refine Rn_iast' hM5 hc rfl rfl (gT7_1 h0) (gZ7_1 h0) (by omega) rfl ?_
        refine Rn_ms (σ' := (38, [some (vR a0), some (vI a1), some (vI a2), some (vI (M (a0 + 1) (wr a1).toNat))], [vI (M (a0 + 1) (wr a1).toNat)], (G0, M5))) hc 1 rfl ?_
        cases e
        exact R_end (Rn_iret hc rfl rfl (xretI rfl rfl)) hK
/-- PedalLayers.settle -/
def f_130 (M : xM) (a1 : Int) : Int × xM :=
  if wr a1 < 0 then
    (a1, M)
  else
    bnd (f_24 M) (fun k2 =>
    (a1, k2)
    )
theorem t_130 {rom : xRom} {d : Nat} {M : xM} {a1 : Int} {r : Int × xM} {out : Option xV × xH} (e : f_130 M a1 = r) (hK : eIW out r) : Rn rom (d + 2) 100 (0, [some (vR 1), some (vI a1)], [], (G0, M)) out := by
  have hc : xkall.getD 100 [] = xk_100 := rfl
  unfold f_130 at e
  refine Rn_ms (σ' := (1, [some (vR 1), some (vI a1)], [vI a1], (G0, M))) hc 1 rfl ?_
  refine R_ite e (fun b1 e => ?_) (fun b1 e => ?_)
  · refine Rn_ifT (tgt := 11) hc rfl rfl (by decide) b1 ?_
    refine Rn_ms (σ' := (12, [some (vR 1), some (vI a1)], [vI a1], (G0, M))) hc 1 rfl ?_
    cases e
    exact R_end (Rn_iret hc rfl rfl (xretI rfl rfl)) hK
  · refine Rn_ifF hc rfl rfl (by decide) b1 ?_
    refine Rn_ms (σ' := (5, [some (vR 1), some (vI a1)], [vR 1], (G0, M))) hc 1 rfl ?_
    refine Rn_getR hc rfl tgc_1 (by decide) rfl prc_1_2 ?_
    show Rn rom (d + 2) 100 (8, [some (vR 1), some (vI a1)], [vR 50], (G0, M)) out
    refine R_bnd e (fun k2 hk2 e => ?_)
    refine Rn_cv hc rfl rfl (by decide) (ii := xi_16) rfl rfl rfl (tgc_50 : Tg _ = 2) (by decide) rfl (le := [some (vR 50)]) rfl (v := none) (M' := k2) (t_24  (d := d + 0) hk2.symm rfl) ?_
    refine Rn_ms (σ' := (12, [some (vR 1), some (vI a1)], [vI a1], (G0, k2))) hc 1 rfl ?_
    cases e
    exact R_end (Rn_iret hc rfl rfl (xretI rfl rfl)) hK
/-- PedalLayers.press -/
def f_97 (M : xM) : Option (Int × xM) :=
  (f_23 M 2).bind (fun k1 =>
  (f_69 k1 2).bind (fun k2 =>
  bnd (f_130 k2.2 k2.1) (fun k3 =>
  some (k3.1, k3.2)
  )))
theorem t_97 {rom : xRom} {d : Nat} {M : xM}  {r : Int × xM} {out : Option xV × xH} (e : f_97 M = some r) (hK : eIW out r) : Rn rom (d + 6) 74 (0, [some (vR 1)], [], (G0, M)) out := by
  have hc : xkall.getD 74 [] = xk_74 := rfl
  unfold f_97 at e
  refine Rn_ms (σ' := (1, [some (vR 1)], [vR 1], (G0, M))) hc 1 rfl ?_
  refine Rn_getR hc rfl tgc_1 (by decide) rfl prc_1_2 ?_
  refine Rn_ms (σ' := (5, [some (vR 1)], [vR 1, vR 50], (G0, M))) hc 1 rfl ?_
  refine Rn_getR hc rfl tgc_1 (by decide) rfl prc_1_0 ?_
  show Rn rom (d + 6) 74 (8, [some (vR 1)], [vR 2, vR 50], (G0, M)) out
  refine R_bind e (fun k1 hk1 e => ?_)
  refine Rn_cv hc rfl rfl (by decide) (ii := xi_15) rfl rfl rfl (tgc_50 : Tg _ = 2) (by decide) rfl (le := [some (vR 50), some (vR 2), none]) rfl (v := none) (M' := k1) (t_23 tgc_2 (d := d + 0) hk1 rfl) ?_
  refine Rn_ms (σ' := (13, [some (vR 1)], [vR 1, vR 1], (G0, k1))) hc 2 rfl ?_
  refine Rn_getR hc rfl tgc_1 (by decide) rfl prc_1_0 ?_
  show Rn rom (d + 6) 74 (16, [some (vR 1)], [vR 2, vR 1], (G0, k1)) out
  refine R_bind e (fun k2 hk2 e => ?_)
  refine Rn_cv hc rfl rfl (by decide) (ii := xi_49) rfl rfl rfl (tgc_2 : Tg _ = 7) (by decide) rfl (le := [some (vR 2)]) rfl (v := some (vI k2.1)) (M' := k2.2) (t_69 tgc_2 (d := d + 1) hk2 rfl) ?_
  show Rn rom (d + 6) 74 (19, [some (vR 1)], [vI k2.1, vR 1], (G0, k2.2)) out
  refine R_bnd e (fun k3 hk3 e => ?_)
  refine Rn_cv hc rfl rfl (by decide) (ii := xi_100) rfl rfl rfl (tgc_1 : Tg _ = 10) (by decide) rfl (le := [some (vR 1), some (vI k2.1)]) rfl (v := some (vI k3.1)) (M' := k3.2) (t_130  (d := d + 3) hk3.symm rfl) ?_
  show Rn rom (d + 6) 74 (22, [some (vR 1)], [vI k3.1], (G0, k3.2)) out
  cases e
  exact R_end (Rn_iret hc rfl rfl (xretI rfl rfl)) hK
/-- PedalLayers.stop -/
def f_98 (M : xM) : Option (Int × xM) :=
  (f_23 M 2).bind (fun k1 =>
  bnd (f_75 k1 2) (fun k2 =>
  bnd (f_130 k2.2 k2.1) (fun k3 =>
  some (k3.1, k3.2)
  )))
theorem t_98 {rom : xRom} {d : Nat} {M : xM}  {r : Int × xM} {out : Option xV × xH} (e : f_98 M = some r) (hK : eIW out r) : Rn rom (d + 6) 75 (0, [some (vR 1)], [], (G0, M)) out := by
  have hc : xkall.getD 75 [] = xk_75 := rfl
  unfold f_98 at e
  refine Rn_ms (σ' := (1, [some (vR 1)], [vR 1], (G0, M))) hc 1 rfl ?_
  refine Rn_getR hc rfl tgc_1 (by decide) rfl prc_1_2 ?_
  refine Rn_ms (σ' := (5, [some (vR 1)], [vR 1, vR 50], (G0, M))) hc 1 rfl ?_
  refine Rn_getR hc rfl tgc_1 (by decide) rfl prc_1_0 ?_
  show Rn rom (d + 6) 75 (8, [some (vR 1)], [vR 2, vR 50], (G0, M)) out
  refine R_bind e (fun k1 hk1 e => ?_)
  refine Rn_cv hc rfl rfl (by decide) (ii := xi_15) rfl rfl rfl (tgc_50 : Tg _ = 2) (by decide) rfl (le := [some (vR 50), some (vR 2), none]) rfl (v := none) (M' := k1) (t_23 tgc_2 (d := d + 0) hk1 rfl) ?_
  refine Rn_ms (σ' := (13, [some (vR 1)], [vR 1, vR 1], (G0, k1))) hc 2 rfl ?_
  refine Rn_getR hc rfl tgc_1 (by decide) rfl prc_1_0 ?_
  show Rn rom (d + 6) 75 (16, [some (vR 1)], [vR 2, vR 1], (G0, k1)) out
  refine R_bnd e (fun k2 hk2 e => ?_)
  refine Rn_cv hc rfl rfl (by decide) (ii := xi_55) rfl rfl rfl (tgc_2 : Tg _ = 7) (by decide) rfl (le := [some (vR 2)]) rfl (v := some (vI k2.1)) (M' := k2.2) (t_75 tgc_2 (d := d + 5) hk2.symm rfl) ?_
  show Rn rom (d + 6) 75 (19, [some (vR 1)], [vI k2.1, vR 1], (G0, k2.2)) out
  refine R_bnd e (fun k3 hk3 e => ?_)
  refine Rn_cv hc rfl rfl (by decide) (ii := xi_100) rfl rfl rfl (tgc_1 : Tg _ = 10) (by decide) rfl (le := [some (vR 1), some (vI k2.1)]) rfl (v := some (vI k3.1)) (M' := k3.2) (t_130  (d := d + 3) hk3.symm rfl) ?_
  show Rn rom (d + 6) 75 (22, [some (vR 1)], [vI k3.1], (G0, k3.2)) out
  cases e
  exact R_end (Rn_iret hc rfl rfl (xretI rfl rfl)) hK
/-- PedalLayers.empty -/
def f_99 (M : xM) : Option (Int × xM) :=
  (f_23 M 2).bind (fun k1 =>
  bnd (f_76 k1 2) (fun k2 =>
  bnd (f_130 k2.2 k2.1) (fun k3 =>
  some (k3.1, k3.2)
  )))
theorem t_99 {rom : xRom} {d : Nat} {M : xM}  {r : Int × xM} {out : Option xV × xH} (e : f_99 M = some r) (hK : eIW out r) : Rn rom (d + 6) 76 (0, [some (vR 1)], [], (G0, M)) out := by
  have hc : xkall.getD 76 [] = xk_76 := rfl
  unfold f_99 at e
  refine Rn_ms (σ' := (1, [some (vR 1)], [vR 1], (G0, M))) hc 1 rfl ?_
  refine Rn_getR hc rfl tgc_1 (by decide) rfl prc_1_2 ?_
  refine Rn_ms (σ' := (5, [some (vR 1)], [vR 1, vR 50], (G0, M))) hc 1 rfl ?_
  refine Rn_getR hc rfl tgc_1 (by decide) rfl prc_1_0 ?_
  show Rn rom (d + 6) 76 (8, [some (vR 1)], [vR 2, vR 50], (G0, M)) out
  refine R_bind e (fun k1 hk1 e => ?_)
  refine Rn_cv hc rfl rfl (by decide) (ii := xi_15) rfl rfl rfl (tgc_50 : Tg _ = 2) (by decide) rfl (le := [some (vR 50), some (vR 2), none]) rfl (v := none) (M' := k1) (t_23 tgc_2 (d := d + 0) hk1 rfl) ?_
  refine Rn_ms (σ' := (13, [some (vR 1)], [vR 1, vR 1], (G0, k1))) hc 2 rfl ?_
  refine Rn_getR hc rfl tgc_1 (by decide) rfl prc_1_0 ?_
  show Rn rom (d + 6) 76 (16, [some (vR 1)], [vR 2, vR 1], (G0, k1)) out
  refine R_bnd e (fun k2 hk2 e => ?_)
  refine Rn_cv hc rfl rfl (by decide) (ii := xi_56) rfl rfl rfl (tgc_2 : Tg _ = 7) (by decide) rfl (le := [some (vR 2), none]) rfl (v := some (vI k2.1)) (M' := k2.2) (t_76 tgc_2 (d := d + 5) hk2.symm rfl) ?_
  show Rn rom (d + 6) 76 (19, [some (vR 1)], [vI k2.1, vR 1], (G0, k2.2)) out
  refine R_bnd e (fun k3 hk3 e => ?_)
  refine Rn_cv hc rfl rfl (by decide) (ii := xi_100) rfl rfl rfl (tgc_1 : Tg _ = 10) (by decide) rfl (le := [some (vR 1), some (vI k2.1)]) rfl (v := some (vI k3.1)) (M' := k3.2) (t_130  (d := d + 3) hk3.symm rfl) ?_
  show Rn rom (d + 6) 76 (22, [some (vR 1)], [vI k3.1], (G0, k3.2)) out
  cases e
  exact R_end (Rn_iret hc rfl rfl (xretI rfl rfl)) hK
/-- PedalLayers.hit -/
def f_100 (M : xM) (a1 : Int) (a2 : Int) : Option (Int × xM) :=
  (f_23 M 2).bind (fun k1 =>
  (f_77 k1 2 a1 a2).bind (fun k2 =>
  bnd (f_130 k2.2 k2.1) (fun k3 =>
  some (k3.1, k3.2)
  )))
theorem t_100 {rom : xRom} {d : Nat} {M : xM} {a1 : Int} {a2 : Int} {r : Int × xM} {out : Option xV × xH} (e : f_100 M a1 a2 = some r) (hK : eIW out r) : Rn rom (d + 6) 77 (0, [some (vR 1), some (vI a1), some (vI a2)], [], (G0, M)) out := by
  have hc : xkall.getD 77 [] = xk_77 := rfl
  unfold f_100 at e
  refine Rn_ms (σ' := (1, [some (vR 1), some (vI a1), some (vI a2)], [vR 1], (G0, M))) hc 1 rfl ?_
  refine Rn_getR hc rfl tgc_1 (by decide) rfl prc_1_2 ?_
  refine Rn_ms (σ' := (5, [some (vR 1), some (vI a1), some (vI a2)], [vR 1, vR 50], (G0, M))) hc 1 rfl ?_
  refine Rn_getR hc rfl tgc_1 (by decide) rfl prc_1_0 ?_
  show Rn rom (d + 6) 77 (8, [some (vR 1), some (vI a1), some (vI a2)], [vR 2, vR 50], (G0, M)) out
  refine R_bind e (fun k1 hk1 e => ?_)
  refine Rn_cv hc rfl rfl (by decide) (ii := xi_15) rfl rfl rfl (tgc_50 : Tg _ = 2) (by decide) rfl (le := [some (vR 50), some (vR 2), none]) rfl (v := none) (M' := k1) (t_23 tgc_2 (d := d + 0) hk1 rfl) ?_
  refine Rn_ms (σ' := (13, [some (vR 1), some (vI a1), some (vI a2)], [vR 1, vR 1], (G0, k1))) hc 2 rfl ?_
  refine Rn_getR hc rfl tgc_1 (by decide) rfl prc_1_0 ?_
  refine Rn_ms (σ' := (18, [some (vR 1), some (vI a1), some (vI a2)], [vI a2, vI a1, vR 2, vR 1], (G0, k1))) hc 2 rfl ?_
  refine R_bind e (fun k2 hk2 e => ?_)
  refine Rn_cv hc rfl rfl (by decide) (ii := xi_57) rfl rfl rfl (tgc_2 : Tg _ = 7) (by decide) rfl (le := [some (vR 2), some (vI a1), some (vI a2)]) rfl (v := some (vI k2.1)) (M' := k2.2) (t_77 tgc_2 (d := d + 1) hk2 rfl) ?_
  show Rn rom (d + 6) 77 (21, [some (vR 1), some (vI a1), some (vI a2)], [vI k2.1, vR 1], (G0, k2.2)) out
  refine R_bnd e (fun k3 hk3 e => ?_)
  refine Rn_cv hc rfl rfl (by decide) (ii := xi_100) rfl rfl rfl (tgc_1 : Tg _ = 10) (by decide) rfl (le := [some (vR 1), some (vI k2.1)]) rfl (v := some (vI k3.1)) (M' := k3.2) (t_130  (d := d + 3) hk3.symm rfl) ?_
  show Rn rom (d + 6) 77 (24, [some (vR 1), some (vI a1), some (vI a2)], [vI k3.1], (G0, k3.2)) out
  cases e
  exact R_end (Rn_iret hc rfl rfl (xretI rfl rfl)) hK
/-- PedalLayers.pass -/
def f_101 (M : xM) (a1 : Int) : Option (Int × xM) :=
  (f_23 M 2).bind (fun k1 =>
  (f_79 k1 2 a1).bind (fun k2 =>
  bnd (f_130 k2.2 k2.1) (fun k3 =>
  some (k3.1, k3.2)
  )))
theorem t_101 {rom : xRom} {d : Nat} {M : xM} {a1 : Int} {r : Int × xM} {out : Option xV × xH} (e : f_101 M a1 = some r) (hK : eIW out r) : Rn rom (d + 6) 78 (0, [some (vR 1), some (vI a1)], [], (G0, M)) out := by
  have hc : xkall.getD 78 [] = xk_78 := rfl
  unfold f_101 at e
  refine Rn_ms (σ' := (1, [some (vR 1), some (vI a1)], [vR 1], (G0, M))) hc 1 rfl ?_
  refine Rn_getR hc rfl tgc_1 (by decide) rfl prc_1_2 ?_
  refine Rn_ms (σ' := (5, [some (vR 1), some (vI a1)], [vR 1, vR 50], (G0, M))) hc 1 rfl ?_
  refine Rn_getR hc rfl tgc_1 (by decide) rfl prc_1_0 ?_
  show Rn rom (d + 6) 78 (8, [some (vR 1), some (vI a1)], [vR 2, vR 50], (G0, M)) out
  refine R_bind e (fun k1 hk1 e => ?_)
  refine Rn_cv hc rfl rfl (by decide) (ii := xi_15) rfl rfl rfl (tgc_50 : Tg _ = 2) (by decide) rfl (le := [some (vR 50), some (vR 2), none]) rfl (v := none) (M' := k1) (t_23 tgc_2 (d := d + 0) hk1 rfl) ?_
  refine Rn_ms (σ' := (13, [some (vR 1), some (vI a1)], [vR 1, vR 1], (G0, k1))) hc 2 rfl ?_
  refine Rn_getR hc rfl tgc_1 (by decide) rfl prc_1_0 ?_
  refine Rn_ms (σ' := (17, [some (vR 1), some (vI a1)], [vI a1, vR 2, vR 1], (G0, k1))) hc 1 rfl ?_
  refine R_bind e (fun k2 hk2 e => ?_)
  refine Rn_cv hc rfl rfl (by decide) (ii := xi_59) rfl rfl rfl (tgc_2 : Tg _ = 7) (by decide) rfl (le := [some (vR 2), some (vI a1), none, none, none]) rfl (v := some (vI k2.1)) (M' := k2.2) (t_79 tgc_2 (d := d + 1) hk2 rfl) ?_
  show Rn rom (d + 6) 78 (20, [some (vR 1), some (vI a1)], [vI k2.1, vR 1], (G0, k2.2)) out
  refine R_bnd e (fun k3 hk3 e => ?_)
  refine Rn_cv hc rfl rfl (by decide) (ii := xi_100) rfl rfl rfl (tgc_1 : Tg _ = 10) (by decide) rfl (le := [some (vR 1), some (vI k2.1)]) rfl (v := some (vI k3.1)) (M' := k3.2) (t_130  (d := d + 3) hk3.symm rfl) ?_
  show Rn rom (d + 6) 78 (23, [some (vR 1), some (vI a1)], [vI k3.1], (G0, k3.2)) out
  cases e
  exact R_end (Rn_iret hc rfl rfl (xretI rfl rfl)) hK
/-- PedalLayers.peel -/
def f_102 (M : xM) : Option (Int × xM) :=
  (f_23 M 2).bind (fun k1 =>
  (f_83 k1 2).bind (fun k2 =>
  bnd (f_130 k2.2 k2.1) (fun k3 =>
  some (k3.1, k3.2)
  )))
theorem t_102 {rom : xRom} {d : Nat} {M : xM}  {r : Int × xM} {out : Option xV × xH} (e : f_102 M = some r) (hK : eIW out r) : Rn rom (d + 6) 79 (0, [some (vR 1)], [], (G0, M)) out := by
  have hc : xkall.getD 79 [] = xk_79 := rfl
  unfold f_102 at e
  refine Rn_ms (σ' := (1, [some (vR 1)], [vR 1], (G0, M))) hc 1 rfl ?_
  refine Rn_getR hc rfl tgc_1 (by decide) rfl prc_1_2 ?_
  refine Rn_ms (σ' := (5, [some (vR 1)], [vR 1, vR 50], (G0, M))) hc 1 rfl ?_
  refine Rn_getR hc rfl tgc_1 (by decide) rfl prc_1_0 ?_
  show Rn rom (d + 6) 79 (8, [some (vR 1)], [vR 2, vR 50], (G0, M)) out
  refine R_bind e (fun k1 hk1 e => ?_)
  refine Rn_cv hc rfl rfl (by decide) (ii := xi_15) rfl rfl rfl (tgc_50 : Tg _ = 2) (by decide) rfl (le := [some (vR 50), some (vR 2), none]) rfl (v := none) (M' := k1) (t_23 tgc_2 (d := d + 0) hk1 rfl) ?_
  refine Rn_ms (σ' := (13, [some (vR 1)], [vR 1, vR 1], (G0, k1))) hc 2 rfl ?_
  refine Rn_getR hc rfl tgc_1 (by decide) rfl prc_1_0 ?_
  show Rn rom (d + 6) 79 (16, [some (vR 1)], [vR 2, vR 1], (G0, k1)) out
  refine R_bind e (fun k2 hk2 e => ?_)
  refine Rn_cv hc rfl rfl (by decide) (ii := xi_63) rfl rfl rfl (tgc_2 : Tg _ = 7) (by decide) rfl (le := [some (vR 2)]) rfl (v := some (vI k2.1)) (M' := k2.2) (t_83 tgc_2 (d := d + 3) hk2 rfl) ?_
  show Rn rom (d + 6) 79 (19, [some (vR 1)], [vI k2.1, vR 1], (G0, k2.2)) out
  refine R_bnd e (fun k3 hk3 e => ?_)
  refine Rn_cv hc rfl rfl (by decide) (ii := xi_100) rfl rfl rfl (tgc_1 : Tg _ = 10) (by decide) rfl (le := [some (vR 1), some (vI k2.1)]) rfl (v := some (vI k3.1)) (M' := k3.2) (t_130  (d := d + 3) hk3.symm rfl) ?_
  show Rn rom (d + 6) 79 (22, [some (vR 1)], [vI k3.1], (G0, k3.2)) out
  cases e
  exact R_end (Rn_iret hc rfl rfl (xretI rfl rfl)) hK
/-- PedalLayers.back -/
def f_103 (M : xM) : Option (Int × xM) :=
  (f_23 M 2).bind (fun k1 =>
  bnd (f_84 k1 2) (fun k2 =>
  bnd (f_130 k2.2 k2.1) (fun k3 =>
  some (k3.1, k3.2)
  )))
theorem t_103 {rom : xRom} {d : Nat} {M : xM}  {r : Int × xM} {out : Option xV × xH} (e : f_103 M = some r) (hK : eIW out r) : Rn rom (d + 6) 80 (0, [some (vR 1)], [], (G0, M)) out := by
  have hc : xkall.getD 80 [] = xk_80 := rfl
  unfold f_103 at e
  refine Rn_ms (σ' := (1, [some (vR 1)], [vR 1], (G0, M))) hc 1 rfl ?_
  refine Rn_getR hc rfl tgc_1 (by decide) rfl prc_1_2 ?_
  refine Rn_ms (σ' := (5, [some (vR 1)], [vR 1, vR 50], (G0, M))) hc 1 rfl ?_
  refine Rn_getR hc rfl tgc_1 (by decide) rfl prc_1_0 ?_
  show Rn rom (d + 6) 80 (8, [some (vR 1)], [vR 2, vR 50], (G0, M)) out
  refine R_bind e (fun k1 hk1 e => ?_)
  refine Rn_cv hc rfl rfl (by decide) (ii := xi_15) rfl rfl rfl (tgc_50 : Tg _ = 2) (by decide) rfl (le := [some (vR 50), some (vR 2), none]) rfl (v := none) (M' := k1) (t_23 tgc_2 (d := d + 0) hk1 rfl) ?_
  refine Rn_ms (σ' := (13, [some (vR 1)], [vR 1, vR 1], (G0, k1))) hc 2 rfl ?_
  refine Rn_getR hc rfl tgc_1 (by decide) rfl prc_1_0 ?_
  show Rn rom (d + 6) 80 (16, [some (vR 1)], [vR 2, vR 1], (G0, k1)) out
  refine R_bnd e (fun k2 hk2 e => ?_)
  refine Rn_cv hc rfl rfl (by decide) (ii := xi_64) rfl rfl rfl (tgc_2 : Tg _ = 7) (by decide) rfl (le := [some (vR 2)]) rfl (v := some (vI k2.1)) (M' := k2.2) (t_84 tgc_2 (d := d + 4) hk2.symm rfl) ?_
  show Rn rom (d + 6) 80 (19, [some (vR 1)], [vI k2.1, vR 1], (G0, k2.2)) out
  refine R_bnd e (fun k3 hk3 e => ?_)
  refine Rn_cv hc rfl rfl (by decide) (ii := xi_100) rfl rfl rfl (tgc_1 : Tg _ = 10) (by decide) rfl (le := [some (vR 1), some (vI k2.1)]) rfl (v := some (vI k3.1)) (M' := k3.2) (t_130  (d := d + 3) hk3.symm rfl) ?_
  show Rn rom (d + 6) 80 (22, [some (vR 1)], [vI k3.1], (G0, k3.2)) out
  cases e
  exact R_end (Rn_iret hc rfl rfl (xretI rfl rfl)) hK
/-- PedalLayers.mute -/
def f_104 (M : xM) (a1 : Int) : Option (Int × xM) :=
  (f_23 M 2).bind (fun k1 =>
  (f_85 k1 2 a1).bind (fun k2 =>
  bnd (f_130 k2.2 k2.1) (fun k3 =>
  some (k3.1, k3.2)
  )))
theorem t_104 {rom : xRom} {d : Nat} {M : xM} {a1 : Int} {r : Int × xM} {out : Option xV × xH} (e : f_104 M a1 = some r) (hK : eIW out r) : Rn rom (d + 6) 81 (0, [some (vR 1), some (vI a1)], [], (G0, M)) out := by
  have hc : xkall.getD 81 [] = xk_81 := rfl
  unfold f_104 at e
  refine Rn_ms (σ' := (1, [some (vR 1), some (vI a1)], [vR 1], (G0, M))) hc 1 rfl ?_
  refine Rn_getR hc rfl tgc_1 (by decide) rfl prc_1_2 ?_
  refine Rn_ms (σ' := (5, [some (vR 1), some (vI a1)], [vR 1, vR 50], (G0, M))) hc 1 rfl ?_
  refine Rn_getR hc rfl tgc_1 (by decide) rfl prc_1_0 ?_
  show Rn rom (d + 6) 81 (8, [some (vR 1), some (vI a1)], [vR 2, vR 50], (G0, M)) out
  refine R_bind e (fun k1 hk1 e => ?_)
  refine Rn_cv hc rfl rfl (by decide) (ii := xi_15) rfl rfl rfl (tgc_50 : Tg _ = 2) (by decide) rfl (le := [some (vR 50), some (vR 2), none]) rfl (v := none) (M' := k1) (t_23 tgc_2 (d := d + 0) hk1 rfl) ?_
  refine Rn_ms (σ' := (13, [some (vR 1), some (vI a1)], [vR 1, vR 1], (G0, k1))) hc 2 rfl ?_
  refine Rn_getR hc rfl tgc_1 (by decide) rfl prc_1_0 ?_
  refine Rn_ms (σ' := (17, [some (vR 1), some (vI a1)], [vI a1, vR 2, vR 1], (G0, k1))) hc 1 rfl ?_
  refine R_bind e (fun k2 hk2 e => ?_)
  refine Rn_cv hc rfl rfl (by decide) (ii := xi_65) rfl rfl rfl (tgc_2 : Tg _ = 7) (by decide) rfl (le := [some (vR 2), some (vI a1), none]) rfl (v := some (vI k2.1)) (M' := k2.2) (t_85 tgc_2 (d := d + 3) hk2 rfl) ?_
  show Rn rom (d + 6) 81 (20, [some (vR 1), some (vI a1)], [vI k2.1, vR 1], (G0, k2.2)) out
  refine R_bnd e (fun k3 hk3 e => ?_)
  refine Rn_cv hc rfl rfl (by decide) (ii := xi_100) rfl rfl rfl (tgc_1 : Tg _ = 10) (by decide) rfl (le := [some (vR 1), some (vI k2.1)]) rfl (v := some (vI k3.1)) (M' := k3.2) (t_130  (d := d + 3) hk3.symm rfl) ?_
  show Rn rom (d + 6) 81 (23, [some (vR 1), some (vI a1)], [vI k3.1], (G0, k3.2)) out
  cases e
  exact R_end (Rn_iret hc rfl rfl (xretI rfl rfl)) hK
/-- PedalLayers.speed -/
def f_105 (M : xM) : Option (Int × xM) :=
  (f_23 M 2).bind (fun k1 =>
  bnd (f_86 k1 2) (fun k2 =>
  bnd (f_130 k2.2 k2.1) (fun k3 =>
  some (k3.1, k3.2)
  )))
theorem t_105 {rom : xRom} {d : Nat} {M : xM}  {r : Int × xM} {out : Option xV × xH} (e : f_105 M = some r) (hK : eIW out r) : Rn rom (d + 6) 82 (0, [some (vR 1)], [], (G0, M)) out := by
  have hc : xkall.getD 82 [] = xk_82 := rfl
  unfold f_105 at e
  refine Rn_ms (σ' := (1, [some (vR 1)], [vR 1], (G0, M))) hc 1 rfl ?_
  refine Rn_getR hc rfl tgc_1 (by decide) rfl prc_1_2 ?_
  refine Rn_ms (σ' := (5, [some (vR 1)], [vR 1, vR 50], (G0, M))) hc 1 rfl ?_
  refine Rn_getR hc rfl tgc_1 (by decide) rfl prc_1_0 ?_
  show Rn rom (d + 6) 82 (8, [some (vR 1)], [vR 2, vR 50], (G0, M)) out
  refine R_bind e (fun k1 hk1 e => ?_)
  refine Rn_cv hc rfl rfl (by decide) (ii := xi_15) rfl rfl rfl (tgc_50 : Tg _ = 2) (by decide) rfl (le := [some (vR 50), some (vR 2), none]) rfl (v := none) (M' := k1) (t_23 tgc_2 (d := d + 0) hk1 rfl) ?_
  refine Rn_ms (σ' := (13, [some (vR 1)], [vR 1, vR 1], (G0, k1))) hc 2 rfl ?_
  refine Rn_getR hc rfl tgc_1 (by decide) rfl prc_1_0 ?_
  show Rn rom (d + 6) 82 (16, [some (vR 1)], [vR 2, vR 1], (G0, k1)) out
  refine R_bnd e (fun k2 hk2 e => ?_)
  refine Rn_cv hc rfl rfl (by decide) (ii := xi_66) rfl rfl rfl (tgc_2 : Tg _ = 7) (by decide) rfl (le := [some (vR 2)]) rfl (v := some (vI k2.1)) (M' := k2.2) (t_86 tgc_2 (d := d + 5) hk2.symm rfl) ?_
  show Rn rom (d + 6) 82 (19, [some (vR 1)], [vI k2.1, vR 1], (G0, k2.2)) out
  refine R_bnd e (fun k3 hk3 e => ?_)
  refine Rn_cv hc rfl rfl (by decide) (ii := xi_100) rfl rfl rfl (tgc_1 : Tg _ = 10) (by decide) rfl (le := [some (vR 1), some (vI k2.1)]) rfl (v := some (vI k3.1)) (M' := k3.2) (t_130  (d := d + 3) hk3.symm rfl) ?_
  show Rn rom (d + 6) 82 (22, [some (vR 1)], [vI k3.1], (G0, k3.2)) out
  cases e
  exact R_end (Rn_iret hc rfl rfl (xretI rfl rfl)) hK
/-- PedalLayers.set -/
def f_106 (rom : xRom) (M : xM) (a1 : Int) (a2 : Int) : Option (Int × xM) :=
  (f_23 M 2).bind (fun k1 =>
  (f_87 rom k1 2 a1 a2).bind (fun k2 =>
  bnd (f_130 k2.2 k2.1) (fun k3 =>
  some (k3.1, k3.2)
  )))
theorem t_106 {rom : xRom} {d : Nat} {M : xM} {a1 : Int} {a2 : Int} {r : Int × xM} {out : Option xV × xH} (e : f_106 rom M a1 a2 = some r) (hK : eIW out r) : Rn rom (d + 6) 83 (0, [some (vR 1), some (vI a1), some (vI a2)], [], (G0, M)) out := by
  have hc : xkall.getD 83 [] = xk_83 := rfl
  unfold f_106 at e
  refine Rn_ms (σ' := (1, [some (vR 1), some (vI a1), some (vI a2)], [vR 1], (G0, M))) hc 1 rfl ?_
  refine Rn_getR hc rfl tgc_1 (by decide) rfl prc_1_2 ?_
  refine Rn_ms (σ' := (5, [some (vR 1), some (vI a1), some (vI a2)], [vR 1, vR 50], (G0, M))) hc 1 rfl ?_
  refine Rn_getR hc rfl tgc_1 (by decide) rfl prc_1_0 ?_
  show Rn rom (d + 6) 83 (8, [some (vR 1), some (vI a1), some (vI a2)], [vR 2, vR 50], (G0, M)) out
  refine R_bind e (fun k1 hk1 e => ?_)
  refine Rn_cv hc rfl rfl (by decide) (ii := xi_15) rfl rfl rfl (tgc_50 : Tg _ = 2) (by decide) rfl (le := [some (vR 50), some (vR 2), none]) rfl (v := none) (M' := k1) (t_23 tgc_2 (d := d + 0) hk1 rfl) ?_
  refine Rn_ms (σ' := (13, [some (vR 1), some (vI a1), some (vI a2)], [vR 1, vR 1], (G0, k1))) hc 2 rfl ?_
  refine Rn_getR hc rfl tgc_1 (by decide) rfl prc_1_0 ?_
  refine Rn_ms (σ' := (18, [some (vR 1), some (vI a1), some (vI a2)], [vI a2, vI a1, vR 2, vR 1], (G0, k1))) hc 2 rfl ?_
  refine R_bind e (fun k2 hk2 e => ?_)
  refine Rn_cv hc rfl rfl (by decide) (ii := xi_67) rfl rfl rfl (tgc_2 : Tg _ = 7) (by decide) rfl (le := [some (vR 2), some (vI a1), some (vI a2), none]) rfl (v := some (vI k2.1)) (M' := k2.2) (t_87 tgc_2 (d := d + 4) hk2 rfl) ?_
  show Rn rom (d + 6) 83 (21, [some (vR 1), some (vI a1), some (vI a2)], [vI k2.1, vR 1], (G0, k2.2)) out
  refine R_bnd e (fun k3 hk3 e => ?_)
  refine Rn_cv hc rfl rfl (by decide) (ii := xi_100) rfl rfl rfl (tgc_1 : Tg _ = 10) (by decide) rfl (le := [some (vR 1), some (vI k2.1)]) rfl (v := some (vI k3.1)) (M' := k3.2) (t_130  (d := d + 3) hk3.symm rfl) ?_
  show Rn rom (d + 6) 83 (24, [some (vR 1), some (vI a1), some (vI a2)], [vI k3.1], (G0, k3.2)) out
  cases e
  exact R_end (Rn_iret hc rfl rfl (xretI rfl rfl)) hK
/-- PedalLayers.layer -/
def f_112 (M : xM) (a1 : Int) (a2 : Int) : Option (Int) :=
  if (f_58 M 2 a1) = 0 then
    some (-1)
  else
    if wr a2 = 0 then
      gd (Tg (f_58 M 2 a1) = 3) (
      some (f_29 M ((f_58 M 2 a1) + 1))
      )
    else
    if wr a2 = 1 then
      gd (Tg (f_58 M 2 a1) = 3) (
      (f_36 M ((f_58 M 2 a1) + 1)).bind (fun k6 =>
      some (k6)
      ))
    else
    if wr a2 = 2 then
      gd (Tg (f_58 M 2 a1) = 3) (
      (f_37 M ((f_58 M 2 a1) + 1)).bind (fun k9 =>
      some (k9)
      ))
    else
    if wr a2 = 3 then
      gd (Tg (f_58 M 2 a1) = 3) (
      (f_38 M ((f_58 M 2 a1) + 1) 0).bind (fun k12 =>
      some (k12)
      ))
    else
    if wr a2 = 4 then
      gd (Tg (f_58 M 2 a1) = 3) (
      if wr (M (f_58 M 2 a1) 1) = 0 then
        some (0)
      else
        some (1)
      )
    else
    if wr a2 = 5 then
      gd (Tg (f_58 M 2 a1) = 3) (
      some (M (f_58 M 2 a1) 2)
      )
    else
    some (-1)
theorem t_112 {rom : xRom} {d : Nat} {M : xM} {a1 : Int} {a2 : Int} {r : Int} {out : Option xV × xH} (e : f_112 M a1 a2 = some r) (hK : eI M out r) : Rn rom (d + 3) 84 (0, [some (vR 1), some (vI a1), some (vI a2), none], [], (G0, M)) out := by
  have hc : xkall.getD 84 [] = xk_84 := rfl
  unfold f_112 at e
  refine Rn_ms (σ' := (1, [some (vR 1), some (vI a1), some (vI a2), none], [vR 1], (G0, M))) hc 1 rfl ?_
  refine Rn_getR hc rfl tgc_1 (by decide) rfl prc_1_0 ?_
  refine Rn_ms (σ' := (5, [some (vR 1), some (vI a1), some (vI a2), none], [vI a1, vR 2], (G0, M))) hc 1 rfl ?_
  refine Rn_cv hc rfl rfl (by decide) (ii := xi_38) rfl rfl rfl (tgc_2 : Tg _ = 7) (by decide) rfl (le := [some (vR 2), some (vI a1)]) rfl (v := some (vR (f_58 M 2 a1))) (M' := M) (t_58 tgc_2 (d := d + 1) rfl rfl) ?_
  refine Rn_ms (σ' := (10, [some (vR 1), some (vI a1), some (vI a2), some (vR (f_58 M 2 a1))], [vR (f_58 M 2 a1)], (G0, M))) hc 2 rfl ?_
  refine R_ite e (fun b1 e => ?_) (fun b1 e => ?_)
  · refine Rn_nnF hc rfl rfl (by decide) b1 ?_
    refine Rn_ms (σ' := (14, [some (vR 1), some (vI a1), some (vI a2), some (vR (f_58 M 2 a1))], [vI (-1)], (G0, M))) hc 1 rfl ?_
    cases e
    exact R_end (Rn_iret hc rfl rfl (xretI rfl rfl)) hK
  · refine Rn_nnT (tgt := 15) hc rfl rfl (by decide) b1 ?_
    refine Rn_ms (σ' := (16, [some (vR 1), some (vI a1), some (vI a2), some (vR (f_58 M 2 a1))], [vI a2], (G0, M))) hc 1 rfl ?_
    refine R_ite e (fun b2 e => ?_) (fun b2 e => ?_)
    · refine Rn_tsw (off := 40) (tgt := 56) hc rfl rfl (xsw_at b2 (by decide) (by decide) (by decide) rfl) rfl ?_
      refine Rn_ms (σ' := (57, [some (vR 1), some (vI a1), some (vI a2), some (vR (f_58 M 2 a1))], [vR (f_58 M 2 a1)], (G0, M))) hc 1 rfl ?_
      refine R_gd e (fun g3 e => ?_)
      refine Rn_getR hc rfl g3 (by decide) rfl (gP3_0_0 g3) ?_
      show Rn rom (d + 3) 84 (60, [some (vR 1), some (vI a1), some (vI a2), some (vR (f_58 M 2 a1))], [vR ((f_58 M 2 a1) + 1)], (G0, M)) out
      refine Rn_cv hc rfl rfl (by decide) (ii := xi_21) rfl rfl rfl ((gT3_1 g3) : Tg _ = 4) (by decide) rfl (le := [some (vR ((f_58 M 2 a1) + 1))]) rfl (v := some (vI (f_29 M ((f_58 M 2 a1) + 1)))) (M' := M) (t_29 (gT3_1 g3) (d := d + 2) rfl rfl) ?_
      show Rn rom (d + 3) 84 (63, [some (vR 1), some (vI a1), some (vI a2), some (vR (f_58 M 2 a1))], [vI (f_29 M ((f_58 M 2 a1) + 1))], (G0, M)) out
      cases e
      exact R_end (Rn_iret hc rfl rfl (xretI rfl rfl)) hK
    refine R_ite e (fun b4 e => ?_) (fun b4 e => ?_)
    · refine Rn_tsw (off := 48) (tgt := 64) hc rfl rfl (xsw_at b4 (by decide) (by decide) (by decide) rfl) rfl ?_
      refine Rn_ms (σ' := (65, [some (vR 1), some (vI a1), some (vI a2), some (vR (f_58 M 2 a1))], [vR (f_58 M 2 a1)], (G0, M))) hc 1 rfl ?_
      refine R_gd e (fun g5 e => ?_)
      refine Rn_getR hc rfl g5 (by decide) rfl (gP3_0_0 g5) ?_
      show Rn rom (d + 3) 84 (68, [some (vR 1), some (vI a1), some (vI a2), some (vR (f_58 M 2 a1))], [vR ((f_58 M 2 a1) + 1)], (G0, M)) out
      refine R_bind e (fun k6 hk6 e => ?_)
      refine Rn_cv hc rfl rfl (by decide) (ii := xi_28) rfl rfl rfl ((gT3_1 g5) : Tg _ = 4) (by decide) rfl (le := [some (vR ((f_58 M 2 a1) + 1)), none, none]) rfl (v := some (vI k6)) (M' := M) (t_36 (gT3_1 g5) (d := d + 2) hk6 rfl) ?_
      show Rn rom (d + 3) 84 (71, [some (vR 1), some (vI a1), some (vI a2), some (vR (f_58 M 2 a1))], [vI k6], (G0, M)) out
      cases e
      exact R_end (Rn_iret hc rfl rfl (xretI rfl rfl)) hK
    refine R_ite e (fun b7 e => ?_) (fun b7 e => ?_)
    · refine Rn_tsw (off := 56) (tgt := 72) hc rfl rfl (xsw_at b7 (by decide) (by decide) (by decide) rfl) rfl ?_
      refine Rn_ms (σ' := (73, [some (vR 1), some (vI a1), some (vI a2), some (vR (f_58 M 2 a1))], [vR (f_58 M 2 a1)], (G0, M))) hc 1 rfl ?_
      refine R_gd e (fun g8 e => ?_)
      refine Rn_getR hc rfl g8 (by decide) rfl (gP3_0_0 g8) ?_
      show Rn rom (d + 3) 84 (76, [some (vR 1), some (vI a1), some (vI a2), some (vR (f_58 M 2 a1))], [vR ((f_58 M 2 a1) + 1)], (G0, M)) out
      refine R_bind e (fun k9 hk9 e => ?_)
      refine Rn_cv hc rfl rfl (by decide) (ii := xi_29) rfl rfl rfl ((gT3_1 g8) : Tg _ = 4) (by decide) rfl (le := [some (vR ((f_58 M 2 a1) + 1)), none, none]) rfl (v := some (vI k9)) (M' := M) (t_37 (gT3_1 g8) (d := d + 2) hk9 rfl) ?_
      show Rn rom (d + 3) 84 (79, [some (vR 1), some (vI a1), some (vI a2), some (vR (f_58 M 2 a1))], [vI k9], (G0, M)) out
      cases e
      exact R_end (Rn_iret hc rfl rfl (xretI rfl rfl)) hK
    refine R_ite e (fun b10 e => ?_) (fun b10 e => ?_)
    · refine Rn_tsw (off := 64) (tgt := 80) hc rfl rfl (xsw_at b10 (by decide) (by decide) (by decide) rfl) rfl ?_
      refine Rn_ms (σ' := (81, [some (vR 1), some (vI a1), some (vI a2), some (vR (f_58 M 2 a1))], [vR (f_58 M 2 a1)], (G0, M))) hc 1 rfl ?_
      refine R_gd e (fun g11 e => ?_)
      refine Rn_getR hc rfl g11 (by decide) rfl (gP3_0_0 g11) ?_
      refine Rn_ms (σ' := (85, [some (vR 1), some (vI a1), some (vI a2), some (vR (f_58 M 2 a1))], [vI 0, vR ((f_58 M 2 a1) + 1)], (G0, M))) hc 1 rfl ?_
      refine R_bind e (fun k12 hk12 e => ?_)
      refine Rn_cv hc rfl rfl (by decide) (ii := xi_30) rfl rfl rfl ((gT3_1 g11) : Tg _ = 4) (by decide) rfl (le := [some (vR ((f_58 M 2 a1) + 1)), some (vI 0), none, none, none]) rfl (v := some (vI k12)) (M' := M) (t_38 (gT3_1 g11) (d := d + 0) hk12 rfl) ?_
      show Rn rom (d + 3) 84 (88, [some (vR 1), some (vI a1), some (vI a2), some (vR (f_58 M 2 a1))], [vI k12], (G0, M)) out
      cases e
      exact R_end (Rn_iret hc rfl rfl (xretI rfl rfl)) hK
    refine R_ite e (fun b13 e => ?_) (fun b13 e => ?_)
    · refine Rn_tsw (off := 73) (tgt := 89) hc rfl rfl (xsw_at b13 (by decide) (by decide) (by decide) rfl) rfl ?_
      refine Rn_ms (σ' := (90, [some (vR 1), some (vI a1), some (vI a2), some (vR (f_58 M 2 a1))], [vR (f_58 M 2 a1)], (G0, M))) hc 1 rfl ?_
      refine R_gd e (fun g14 e => ?_)
      refine Rn_getI hc rfl g14 (by decide) (by decide) ?_
      show Rn rom (d + 3) 84 (93, [some (vR 1), some (vI a1), some (vI a2), some (vR (f_58 M 2 a1))], [vI (M (f_58 M 2 a1) 1)], (G0, M)) out
      refine R_ite e (fun b15 e => ?_) (fun b15 e => ?_)
      · refine Rn_ifT (tgt := 100) hc rfl rfl (by decide) b15 ?_
        refine Rn_ms (σ' := (101, [some (vR 1), some (vI a1), some (vI a2), some (vR (f_58 M 2 a1))], [vI 0], (G0, M))) hc 1 rfl ?_
        cases e
        exact R_end (Rn_iret hc rfl rfl (xretI rfl rfl)) hK
      · refine Rn_ifF hc rfl rfl (by decide) b15 ?_
        refine Rn_ms (σ' := (101, [some (vR 1), some (vI a1), some (vI a2), some (vR (f_58 M 2 a1))], [vI 1], (G0, M))) hc 2 rfl ?_
        cases e
        exact R_end (Rn_iret hc rfl rfl (xretI rfl rfl)) hK
    refine R_ite e (fun b16 e => ?_) (fun b16 e => ?_)
    · refine Rn_tsw (off := 86) (tgt := 102) hc rfl rfl (xsw_at b16 (by decide) (by decide) (by decide) rfl) rfl ?_
      refine Rn_ms (σ' := (103, [some (vR 1), some (vI a1), some (vI a2), some (vR (f_58 M 2 a1))], [vR (f_58 M 2 a1)], (G0, M))) hc 1 rfl ?_
      refine R_gd e (fun g17 e => ?_)
      refine Rn_getI hc rfl g17 (by decide) (by decide) ?_
      show Rn rom (d + 3) 84 (106, [some (vR 1), some (vI a1), some (vI a2), some (vR (f_58 M 2 a1))], [vI (M (f_58 M 2 a1) 2)], (G0, M)) out
      cases e
      exact R_end (Rn_iret hc rfl rfl (xretI rfl rfl)) hK
    refine Rn_tsw (off := 91) (tgt := 107) hc rfl rfl (xsw_df (by omega)) rfl ?_
    refine Rn_ms (σ' := (108, [some (vR 1), some (vI a1), some (vI a2), some (vR (f_58 M 2 a1))], [vI (-1)], (G0, M))) hc 1 rfl ?_
    cases e
    exact R_end (Rn_iret hc rfl rfl (xretI rfl rfl)) hK
/-- PedalLayers.note -/
def f_113 (M : xM) (a1 : Int) (a2 : Int) (a3 : Int) : Option (Int) :=
  if (f_58 M 2 a1) = 0 then
    some (-1)
  else
    if wr (f_132 a3) = 0 then
      some (-1)
    else
      if wr a2 < 0 then
        some (-1)
      else
        gd (Tg (f_58 M 2 a1) = 3) (
        if wr a2 < wr (f_29 M ((f_58 M 2 a1) + 1)) then
          some (f_30 M ((f_58 M 2 a1) + 1) a2 a3)
        else
          some (-1)
        )
theorem t_113 {rom : xRom} {d : Nat} {M : xM} {a1 : Int} {a2 : Int} {a3 : Int} {r : Int} {out : Option xV × xH} (e : f_113 M a1 a2 a3 = some r) (hK : eI M out r) : Rn rom (d + 2) 85 (0, [some (vR 1), some (vI a1), some (vI a2), some (vI a3), none], [], (G0, M)) out := by
  have hc : xkall.getD 85 [] = xk_85 := rfl
  unfold f_113 at e
  refine Rn_ms (σ' := (1, [some (vR 1), some (vI a1), some (vI a2), some (vI a3), none], [vR 1], (G0, M))) hc 1 rfl ?_
  refine Rn_getR hc rfl tgc_1 (by decide) rfl prc_1_0 ?_
  refine Rn_ms (σ' := (5, [some (vR 1), some (vI a1), some (vI a2), some (vI a3), none], [vI a1, vR 2], (G0, M))) hc 1 rfl ?_
  refine Rn_cv hc rfl rfl (by decide) (ii := xi_38) rfl rfl rfl (tgc_2 : Tg _ = 7) (by decide) rfl (le := [some (vR 2), some (vI a1)]) rfl (v := some (vR (f_58 M 2 a1))) (M' := M) (t_58 tgc_2 (d := d + 0) rfl rfl) ?_
  refine Rn_ms (σ' := (12, [some (vR 1), some (vI a1), some (vI a2), some (vI a3), some (vR (f_58 M 2 a1))], [vR (f_58 M 2 a1)], (G0, M))) hc 2 rfl ?_
  refine R_ite e (fun b1 e => ?_) (fun b1 e => ?_)
  · refine Rn_nuT (tgt := 38) hc rfl rfl (by decide) b1 ?_
    refine Rn_ms (σ' := (39, [some (vR 1), some (vI a1), some (vI a2), some (vI a3), some (vR (f_58 M 2 a1))], [vI (-1)], (G0, M))) hc 1 rfl ?_
    cases e
    exact R_end (Rn_iret hc rfl rfl (xretI rfl rfl)) hK
  · refine Rn_nuF hc rfl rfl (by decide) b1 ?_
    refine Rn_ms (σ' := (16, [some (vR 1), some (vI a1), some (vI a2), some (vI a3), some (vR (f_58 M 2 a1))], [vI a3], (G0, M))) hc 1 rfl ?_
    refine Rn_cs hc rfl rfl (by decide) (ii := xi_101) rfl rfl rfl (le := [some (vI a3)]) rfl (v := some (vI (f_132 a3))) (M' := M) (t_132  (d := d + 1) rfl rfl) ?_
    show Rn rom (d + 2) 85 (19, [some (vR 1), some (vI a1), some (vI a2), some (vI a3), some (vR (f_58 M 2 a1))], [vI (f_132 a3)], (G0, M)) out
    refine R_ite e (fun b2 e => ?_) (fun b2 e => ?_)
    · refine Rn_ifT (tgt := 38) hc rfl rfl (by decide) b2 ?_
      refine Rn_ms (σ' := (39, [some (vR 1), some (vI a1), some (vI a2), some (vI a3), some (vR (f_58 M 2 a1))], [vI (-1)], (G0, M))) hc 1 rfl ?_
      cases e
      exact R_end (Rn_iret hc rfl rfl (xretI rfl rfl)) hK
    · refine Rn_ifF hc rfl rfl (by decide) b2 ?_
      refine Rn_ms (σ' := (23, [some (vR 1), some (vI a1), some (vI a2), some (vI a3), some (vR (f_58 M 2 a1))], [vI a2], (G0, M))) hc 1 rfl ?_
      refine R_ite e (fun b3 e => ?_) (fun b3 e => ?_)
      · refine Rn_ifT (tgt := 38) hc rfl rfl (by decide) b3 ?_
        refine Rn_ms (σ' := (39, [some (vR 1), some (vI a1), some (vI a2), some (vI a3), some (vR (f_58 M 2 a1))], [vI (-1)], (G0, M))) hc 1 rfl ?_
        cases e
        exact R_end (Rn_iret hc rfl rfl (xretI rfl rfl)) hK
      · refine Rn_ifF hc rfl rfl (by decide) b3 ?_
        refine Rn_ms (σ' := (29, [some (vR 1), some (vI a1), some (vI a2), some (vI a3), some (vR (f_58 M 2 a1))], [vR (f_58 M 2 a1), vI a2], (G0, M))) hc 2 rfl ?_
        refine R_gd e (fun g4 e => ?_)
        refine Rn_getR hc rfl g4 (by decide) rfl (gP3_0_0 g4) ?_
        show Rn rom (d + 2) 85 (32, [some (vR 1), some (vI a1), some (vI a2), some (vI a3), some (vR (f_58 M 2 a1))], [vR ((f_58 M 2 a1) + 1), vI a2], (G0, M)) out
        refine Rn_cv hc rfl rfl (by decide) (ii := xi_21) rfl rfl rfl ((gT3_1 g4) : Tg _ = 4) (by decide) rfl (le := [some (vR ((f_58 M 2 a1) + 1))]) rfl (v := some (vI (f_29 M ((f_58 M 2 a1) + 1)))) (M' := M) (t_29 (gT3_1 g4) (d := d + 1) rfl rfl) ?_
        show Rn rom (d + 2) 85 (35, [some (vR 1), some (vI a1), some (vI a2), some (vI a3), some (vR (f_58 M 2 a1))], [vI (f_29 M ((f_58 M 2 a1) + 1)), vI a2], (G0, M)) out
        refine R_ite e (fun b5 e => ?_) (fun b5 e => ?_)
        · refine Rn_icT (tgt := 40) hc rfl rfl (by decide) b5 ?_
          refine Rn_ms (σ' := (42, [some (vR 1), some (vI a1), some (vI a2), some (vI a3), some (vR (f_58 M 2 a1))], [vR (f_58 M 2 a1)], (G0, M))) hc 1 rfl ?_
          refine Rn_getR hc rfl g4 (by decide) rfl (gP3_0_0 g4) ?_
          refine Rn_ms (σ' := (47, [some (vR 1), some (vI a1), some (vI a2), some (vI a3), some (vR (f_58 M 2 a1))], [vI a3, vI a2, vR ((f_58 M 2 a1) + 1)], (G0, M))) hc 2 rfl ?_
          refine Rn_cv hc rfl rfl (by decide) (ii := xi_22) rfl rfl rfl ((gT3_1 g4) : Tg _ = 4) (by decide) rfl (le := [some (vR ((f_58 M 2 a1) + 1)), some (vI a2), some (vI a3), none]) rfl (v := some (vI (f_30 M ((f_58 M 2 a1) + 1) a2 a3))) (M' := M) (t_30 (gT3_1 g4) (d := d + 0) rfl rfl) ?_
          show Rn rom (d + 2) 85 (50, [some (vR 1), some (vI a1), some (vI a2), some (vI a3), some (vR (f_58 M 2 a1))], [vI (f_30 M ((f_58 M 2 a1) + 1) a2 a3)], (G0, M)) out
          cases e
          exact R_end (Rn_iret hc rfl rfl (xretI rfl rfl)) hK
        · refine Rn_icF hc rfl rfl (by decide) b5 ?_
          refine Rn_ms (σ' := (39, [some (vR 1), some (vI a1), some (vI a2), some (vI a3), some (vR (f_58 M 2 a1))], [vI (-1)], (G0, M))) hc 1 rfl ?_
          cases e
          exact R_end (Rn_iret hc rfl rfl (xretI rfl rfl)) hK
/-- PedalLayers.ring -/
def f_114 (M : xM) (a1 : Int) (a2 : Int) : Option (Int × xM) :=
  (f_64 M 2 a1).bind (fun k1 =>
  if wr k1 = 0 then
    some ((-1), M)
  else
    if wr (f_132 a2) = 0 then
      some ((-1), M)
    else
      (f_1 M 2 (M 2 5) a1).bind (fun k4 =>
      some ((f_2 k4 a2), k4)
      )
  )
theorem t_114 {rom : xRom} {d : Nat} {M : xM} {a1 : Int} {a2 : Int} {r : Int × xM} {out : Option xV × xH} (e : f_114 M a1 a2 = some r) (hK : eIW out r) : Rn rom (d + 4) 86 (0, [some (vR 1), some (vI a1), some (vI a2)], [], (G0, M)) out := by
  have hc : xkall.getD 86 [] = xk_86 := rfl
  unfold f_114 at e
  refine Rn_ms (σ' := (1, [some (vR 1), some (vI a1), some (vI a2)], [vR 1], (G0, M))) hc 1 rfl ?_
  refine Rn_getR hc rfl tgc_1 (by decide) rfl prc_1_0 ?_
  refine Rn_ms (σ' := (5, [some (vR 1), some (vI a1), some (vI a2)], [vI a1, vR 2], (G0, M))) hc 1 rfl ?_
  refine R_bind e (fun k1 hk1 e => ?_)
  refine Rn_cv hc rfl rfl (by decide) (ii := xi_44) rfl rfl rfl (tgc_2 : Tg _ = 7) (by decide) rfl (le := [some (vR 2), some (vI a1)]) rfl (v := some (vI k1)) (M' := M) (t_64 tgc_2 (d := d + 1) hk1 rfl) ?_
  show Rn rom (d + 4) 86 (8, [some (vR 1), some (vI a1), some (vI a2)], [vI k1], (G0, M)) out
  refine R_ite e (fun b2 e => ?_) (fun b2 e => ?_)
  · refine Rn_ifT (tgt := 18) hc rfl rfl (by decide) b2 ?_
    refine Rn_ms (σ' := (19, [some (vR 1), some (vI a1), some (vI a2)], [vI (-1)], (G0, M))) hc 1 rfl ?_
    cases e
    exact R_end (Rn_iret hc rfl rfl (xretI rfl rfl)) hK
  · refine Rn_ifF hc rfl rfl (by decide) b2 ?_
    refine Rn_ms (σ' := (12, [some (vR 1), some (vI a1), some (vI a2)], [vI a2], (G0, M))) hc 1 rfl ?_
    refine Rn_cs hc rfl rfl (by decide) (ii := xi_101) rfl rfl rfl (le := [some (vI a2)]) rfl (v := some (vI (f_132 a2))) (M' := M) (t_132  (d := d + 3) rfl rfl) ?_
    show Rn rom (d + 4) 86 (15, [some (vR 1), some (vI a1), some (vI a2)], [vI (f_132 a2)], (G0, M)) out
    refine R_ite e (fun b3 e => ?_) (fun b3 e => ?_)
    · refine Rn_ifF hc rfl rfl (by decide) (fun w => w b3) ?_
      refine Rn_ms (σ' := (19, [some (vR 1), some (vI a1), some (vI a2)], [vI (-1)], (G0, M))) hc 1 rfl ?_
      cases e
      exact R_end (Rn_iret hc rfl rfl (xretI rfl rfl)) hK
    · refine Rn_ifT (tgt := 20) hc rfl rfl (by decide) (fun w => b3 w) ?_
      refine Rn_ms (σ' := (21, [some (vR 1), some (vI a1), some (vI a2)], [vR 1], (G0, M))) hc 1 rfl ?_
      refine Rn_getR hc rfl tgc_1 (by decide) rfl prc_1_7 ?_
      refine Rn_ms (σ' := (25, [some (vR 1), some (vI a1), some (vI a2)], [vR 1, vR 177], (G0, M))) hc 1 rfl ?_
      refine Rn_getR hc rfl tgc_1 (by decide) rfl prc_1_0 ?_
      refine Rn_ms (σ' := (29, [some (vR 1), some (vI a1), some (vI a2)], [vR 1, vR 2, vR 177], (G0, M))) hc 1 rfl ?_
      refine Rn_getR hc rfl tgc_1 (by decide) rfl prc_1_0 ?_
      show Rn rom (d + 4) 86 (32, [some (vR 1), some (vI a1), some (vI a2)], [vR 2, vR 2, vR 177], (G0, M)) out
      refine Rn_getI hc rfl tgc_2 (by decide) (by decide) ?_
      refine Rn_ms (σ' := (36, [some (vR 1), some (vI a1), some (vI a2)], [vI a1, vI (M 2 5), vR 2, vR 177], (G0, M))) hc 1 rfl ?_
      refine R_bind e (fun k4 hk4 e => ?_)
      refine Rn_cv hc rfl rfl (by decide) (ii := xi_1) rfl rfl rfl (tgc_177 : Tg _ = 0) (by decide) rfl (le := [some (vR 177), some (vR 2), some (vI (M 2 5)), some (vI a1), none, none, none, none, none]) rfl (v := none) (M' := k4) (t_1 tgc_2 (d := d + 0) hk4 rfl) ?_
      refine Rn_ms (σ' := (40, [some (vR 1), some (vI a1), some (vI a2)], [vR 1], (G0, k4))) hc 1 rfl ?_
      refine Rn_getR hc rfl tgc_1 (by decide) rfl prc_1_7 ?_
      refine Rn_ms (σ' := (44, [some (vR 1), some (vI a1), some (vI a2)], [vI a2, vR 177], (G0, k4))) hc 1 rfl ?_
      refine Rn_cv hc rfl rfl (by decide) (ii := xi_2) rfl rfl rfl (tgc_177 : Tg _ = 0) (by decide) rfl (le := [some (vR 177), some (vI a2)]) rfl (v := some (vI (f_2 k4 a2))) (M' := k4) (t_2  (d := d + 3) rfl rfl) ?_
      show Rn rom (d + 4) 86 (47, [some (vR 1), some (vI a1), some (vI a2)], [vI (f_2 k4 a2)], (G0, k4)) out
      cases e
      exact R_end (Rn_iret hc rfl rfl (xretI rfl rfl)) hK
/-- PedalLayers.heard -/
def f_115 (M : xM) (a1 : Int) (a2 : Int) : Option (Int × xM) :=
  (f_64 M 2 a1).bind (fun k1 =>
  if wr k1 = 0 then
    some ((-1), M)
  else
    (f_1 M 2 (M 2 5) a1).bind (fun k3 =>
    if wr a2 = 0 then
      (f_3 k3).bind (fun k5 =>
      some (k5, k3)
      )
    else
    if wr a2 = 1 then
      (f_4 k3).bind (fun k7 =>
      some (k7, k3)
      )
    else
    if wr a2 = 2 then
      (f_5 k3).bind (fun k9 =>
      some (k9, k3)
      )
    else
    if wr a2 = 3 then
      (f_6 k3).bind (fun k11 =>
      some (k11, k3)
      )
    else
    if wr a2 = 4 then
      (f_7 k3).bind (fun k13 =>
      some (k13, k3)
      )
    else
    some ((-1), k3)
    )
  )
theorem t_115 {rom : xRom} {d : Nat} {M : xM} {a1 : Int} {a2 : Int} {r : Int × xM} {out : Option xV × xH} (e : f_115 M a1 a2 = some r) (hK : eIW out r) : Rn rom (d + 4) 87 (0, [some (vR 1), some (vI a1), some (vI a2)], [], (G0, M)) out := by
  have hc : xkall.getD 87 [] = xk_87 := rfl
  unfold f_115 at e
  refine Rn_ms (σ' := (1, [some (vR 1), some (vI a1), some (vI a2)], [vR 1], (G0, M))) hc 1 rfl ?_
  refine Rn_getR hc rfl tgc_1 (by decide) rfl prc_1_0 ?_
  refine Rn_ms (σ' := (5, [some (vR 1), some (vI a1), some (vI a2)], [vI a1, vR 2], (G0, M))) hc 1 rfl ?_
  refine R_bind e (fun k1 hk1 e => ?_)
  refine Rn_cv hc rfl rfl (by decide) (ii := xi_44) rfl rfl rfl (tgc_2 : Tg _ = 7) (by decide) rfl (le := [some (vR 2), some (vI a1)]) rfl (v := some (vI k1)) (M' := M) (t_64 tgc_2 (d := d + 1) hk1 rfl) ?_
  show Rn rom (d + 4) 87 (8, [some (vR 1), some (vI a1), some (vI a2)], [vI k1], (G0, M)) out
  refine R_ite e (fun b2 e => ?_) (fun b2 e => ?_)
  · refine Rn_ifF hc rfl rfl (by decide) (fun w => w b2) ?_
    refine Rn_ms (σ' := (12, [some (vR 1), some (vI a1), some (vI a2)], [vI (-1)], (G0, M))) hc 1 rfl ?_
    cases e
    exact R_end (Rn_iret hc rfl rfl (xretI rfl rfl)) hK
  · refine Rn_ifT (tgt := 13) hc rfl rfl (by decide) (fun w => b2 w) ?_
    refine Rn_ms (σ' := (14, [some (vR 1), some (vI a1), some (vI a2)], [vR 1], (G0, M))) hc 1 rfl ?_
    refine Rn_getR hc rfl tgc_1 (by decide) rfl prc_1_7 ?_
    refine Rn_ms (σ' := (18, [some (vR 1), some (vI a1), some (vI a2)], [vR 1, vR 177], (G0, M))) hc 1 rfl ?_
    refine Rn_getR hc rfl tgc_1 (by decide) rfl prc_1_0 ?_
    refine Rn_ms (σ' := (22, [some (vR 1), some (vI a1), some (vI a2)], [vR 1, vR 2, vR 177], (G0, M))) hc 1 rfl ?_
    refine Rn_getR hc rfl tgc_1 (by decide) rfl prc_1_0 ?_
    show Rn rom (d + 4) 87 (25, [some (vR 1), some (vI a1), some (vI a2)], [vR 2, vR 2, vR 177], (G0, M)) out
    refine Rn_getI hc rfl tgc_2 (by decide) (by decide) ?_
    refine Rn_ms (σ' := (29, [some (vR 1), some (vI a1), some (vI a2)], [vI a1, vI (M 2 5), vR 2, vR 177], (G0, M))) hc 1 rfl ?_
    refine R_bind e (fun k3 hk3 e => ?_)
    refine Rn_cv hc rfl rfl (by decide) (ii := xi_1) rfl rfl rfl (tgc_177 : Tg _ = 0) (by decide) rfl (le := [some (vR 177), some (vR 2), some (vI (M 2 5)), some (vI a1), none, none, none, none, none]) rfl (v := none) (M' := k3) (t_1 tgc_2 (d := d + 0) hk3 rfl) ?_
    refine Rn_ms (σ' := (33, [some (vR 1), some (vI a1), some (vI a2)], [vI a2], (G0, k3))) hc 1 rfl ?_
    refine R_ite e (fun b4 e => ?_) (fun b4 e => ?_)
    · refine Rn_tsw (off := 35) (tgt := 68) hc rfl rfl (xsw_at b4 (by decide) (by decide) (by decide) rfl) rfl ?_
      refine Rn_ms (σ' := (69, [some (vR 1), some (vI a1), some (vI a2)], [vR 1], (G0, k3))) hc 1 rfl ?_
      refine Rn_getR hc rfl tgc_1 (by decide) rfl prc_1_7 ?_
      show Rn rom (d + 4) 87 (72, [some (vR 1), some (vI a1), some (vI a2)], [vR 177], (G0, k3)) out
      refine R_bind e (fun k5 hk5 e => ?_)
      refine Rn_cv hc rfl rfl (by decide) (ii := xi_3) rfl rfl rfl (tgc_177 : Tg _ = 0) (by decide) rfl (le := [some (vR 177), none, none, none, none, none]) rfl (v := some (vI k5)) (M' := k3) (t_3  (d := d + 3) hk5 rfl) ?_
      show Rn rom (d + 4) 87 (75, [some (vR 1), some (vI a1), some (vI a2)], [vI k5], (G0, k3)) out
      cases e
      exact R_end (Rn_iret hc rfl rfl (xretI rfl rfl)) hK
    refine R_ite e (fun b6 e => ?_) (fun b6 e => ?_)
    · refine Rn_tsw (off := 43) (tgt := 76) hc rfl rfl (xsw_at b6 (by decide) (by decide) (by decide) rfl) rfl ?_
      refine Rn_ms (σ' := (77, [some (vR 1), some (vI a1), some (vI a2)], [vR 1], (G0, k3))) hc 1 rfl ?_
      refine Rn_getR hc rfl tgc_1 (by decide) rfl prc_1_7 ?_
      show Rn rom (d + 4) 87 (80, [some (vR 1), some (vI a1), some (vI a2)], [vR 177], (G0, k3)) out
      refine R_bind e (fun k7 hk7 e => ?_)
      refine Rn_cv hc rfl rfl (by decide) (ii := xi_4) rfl rfl rfl (tgc_177 : Tg _ = 0) (by decide) rfl (le := [some (vR 177), none, none, none, none, none]) rfl (v := some (vI k7)) (M' := k3) (t_4  (d := d + 3) hk7 rfl) ?_
      show Rn rom (d + 4) 87 (83, [some (vR 1), some (vI a1), some (vI a2)], [vI k7], (G0, k3)) out
      cases e
      exact R_end (Rn_iret hc rfl rfl (xretI rfl rfl)) hK
    refine R_ite e (fun b8 e => ?_) (fun b8 e => ?_)
    · refine Rn_tsw (off := 51) (tgt := 84) hc rfl rfl (xsw_at b8 (by decide) (by decide) (by decide) rfl) rfl ?_
      refine Rn_ms (σ' := (85, [some (vR 1), some (vI a1), some (vI a2)], [vR 1], (G0, k3))) hc 1 rfl ?_
      refine Rn_getR hc rfl tgc_1 (by decide) rfl prc_1_7 ?_
      show Rn rom (d + 4) 87 (88, [some (vR 1), some (vI a1), some (vI a2)], [vR 177], (G0, k3)) out
      refine R_bind e (fun k9 hk9 e => ?_)
      refine Rn_cv hc rfl rfl (by decide) (ii := xi_5) rfl rfl rfl (tgc_177 : Tg _ = 0) (by decide) rfl (le := [some (vR 177), none]) rfl (v := some (vI k9)) (M' := k3) (t_5  (d := d + 2) hk9 rfl) ?_
      show Rn rom (d + 4) 87 (91, [some (vR 1), some (vI a1), some (vI a2)], [vI k9], (G0, k3)) out
      cases e
      exact R_end (Rn_iret hc rfl rfl (xretI rfl rfl)) hK
    refine R_ite e (fun b10 e => ?_) (fun b10 e => ?_)
    · refine Rn_tsw (off := 59) (tgt := 92) hc rfl rfl (xsw_at b10 (by decide) (by decide) (by decide) rfl) rfl ?_
      refine Rn_ms (σ' := (93, [some (vR 1), some (vI a1), some (vI a2)], [vR 1], (G0, k3))) hc 1 rfl ?_
      refine Rn_getR hc rfl tgc_1 (by decide) rfl prc_1_7 ?_
      show Rn rom (d + 4) 87 (96, [some (vR 1), some (vI a1), some (vI a2)], [vR 177], (G0, k3)) out
      refine R_bind e (fun k11 hk11 e => ?_)
      refine Rn_cv hc rfl rfl (by decide) (ii := xi_6) rfl rfl rfl (tgc_177 : Tg _ = 0) (by decide) rfl (le := [some (vR 177), none]) rfl (v := some (vI k11)) (M' := k3) (t_6  (d := d + 3) hk11 rfl) ?_
      show Rn rom (d + 4) 87 (99, [some (vR 1), some (vI a1), some (vI a2)], [vI k11], (G0, k3)) out
      cases e
      exact R_end (Rn_iret hc rfl rfl (xretI rfl rfl)) hK
    refine R_ite e (fun b12 e => ?_) (fun b12 e => ?_)
    · refine Rn_tsw (off := 67) (tgt := 100) hc rfl rfl (xsw_at b12 (by decide) (by decide) (by decide) rfl) rfl ?_
      refine Rn_ms (σ' := (101, [some (vR 1), some (vI a1), some (vI a2)], [vR 1], (G0, k3))) hc 1 rfl ?_
      refine Rn_getR hc rfl tgc_1 (by decide) rfl prc_1_7 ?_
      show Rn rom (d + 4) 87 (104, [some (vR 1), some (vI a1), some (vI a2)], [vR 177], (G0, k3)) out
      refine R_bind e (fun k13 hk13 e => ?_)
      refine Rn_cv hc rfl rfl (by decide) (ii := xi_7) rfl rfl rfl (tgc_177 : Tg _ = 0) (by decide) rfl (le := [some (vR 177), none, none, none]) rfl (v := some (vI k13)) (M' := k3) (t_7  (d := d + 3) hk13 rfl) ?_
      show Rn rom (d + 4) 87 (107, [some (vR 1), some (vI a1), some (vI a2)], [vI k13], (G0, k3)) out
      cases e
      exact R_end (Rn_iret hc rfl rfl (xretI rfl rfl)) hK
    refine Rn_tsw (off := 75) (tgt := 108) hc rfl rfl (xsw_df (by omega)) rfl ?_
    refine Rn_ms (σ' := (109, [some (vR 1), some (vI a1), some (vI a2)], [vI (-1)], (G0, k3))) hc 1 rfl ?_
    cases e
    exact R_end (Rn_iret hc rfl rfl (xretI rfl rfl)) hK
