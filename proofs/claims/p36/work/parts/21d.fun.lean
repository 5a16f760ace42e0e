/-! functions for methods, by program (wip/whole/gen/dec.py) -/
/-- PedalLayers.loudest -/
def f_116 (M : xM) : Option (Int × xM) :=
  if wr (M 2 5) = 0 then
    some ((-2), M)
  else
    (f_10 M 2).bind (fun k2 =>
    some (k2.1, k2.2)
    )
theorem t_116 {rom : xRom} {d : Nat} {M : xM}  {r : Int × xM} {out : Option xV × xH} (e : f_116 M = some r) (hK : eIW out r) : Rn rom (d + 5) 88 (0, [some (vR 1)], [], (G0, M)) out := by
  have hc : xkall.getD 88 [] = xk_88 := rfl
  unfold f_116 at e
  refine Rn_ms (σ' := (1, [some (vR 1)], [vR 1], (G0, M))) hc 1 rfl ?_
  refine Rn_getR hc rfl tgc_1 (by decide) rfl prc_1_0 ?_
  show Rn rom (d + 5) 88 (4, [some (vR 1)], [vR 2], (G0, M)) out
  refine Rn_getI hc rfl tgc_2 (by decide) (by decide) ?_
  show Rn rom (d + 5) 88 (7, [some (vR 1)], [vI (M 2 5)], (G0, M)) out
  refine R_ite e (fun b1 e => ?_) (fun b1 e => ?_)
  · refine Rn_ifF hc rfl rfl (by decide) (fun w => w b1) ?_
    refine Rn_ms (σ' := (26, [some (vR 1)], [vI (-2)], (G0, M))) hc 2 rfl ?_
    cases e
    exact R_end (Rn_iret hc rfl rfl (xretI rfl rfl)) hK
  · refine Rn_ifT (tgt := 15) hc rfl rfl (by decide) (fun w => b1 w) ?_
    refine Rn_ms (σ' := (16, [some (vR 1)], [vR 1], (G0, M))) hc 1 rfl ?_
    refine Rn_getR hc rfl tgc_1 (by decide) rfl prc_1_7 ?_
    refine Rn_ms (σ' := (20, [some (vR 1)], [vR 1, vR 177], (G0, M))) hc 1 rfl ?_
    refine Rn_getR hc rfl tgc_1 (by decide) rfl prc_1_0 ?_
    show Rn rom (d + 5) 88 (23, [some (vR 1)], [vR 2, vR 177], (G0, M)) out
    refine R_bind e (fun k2 hk2 e => ?_)
    refine Rn_cv hc rfl rfl (by decide) (ii := xi_10) rfl rfl rfl (tgc_177 : Tg _ = 0) (by decide) rfl (le := [some (vR 177), some (vR 2), none, none, none, none]) rfl (v := some (vI k2.1)) (M' := k2.2) (t_10 tgc_2 (d := d + 0) hk2 rfl) ?_
    show Rn rom (d + 5) 88 (26, [some (vR 1)], [vI k2.1], (G0, k2.2)) out
    cases e
    exact R_end (Rn_iret hc rfl rfl (xretI rfl rfl)) hK
/-- PedalLayers.count -/
def f_119 (M : xM) (a1 : Int) : Option (Int) :=
  if wr a1 = 0 then
    some (M 2 4)
  else
  if wr a1 = 1 then
    (f_62 M 2 (M 2 5)).bind (fun k3 =>
    some (k3)
    )
  else
  if wr a1 = 2 then
    (f_63 M 2).bind (fun k5 =>
    some (k5)
    )
  else
  if wr a1 = 3 then
    some (M 2 5)
  else
  if wr a1 = 4 then
    some (M 2 6)
  else
  if wr a1 = 5 then
    if wr (f_61 M 2) = 0 then
      some (0)
    else
      some (M 2 7)
  else
  if wr a1 = 6 then
    some (M 2 8)
  else
  if wr a1 = 7 then
    if wr (f_60 M 2) = 0 then
      some (0)
    else
      some (M 5 1)
  else
  if wr a1 = 8 then
    if wr (f_60 M 2) = 0 then
      some (0)
    else
      (f_36 M 6).bind (fun k15 =>
      some (k15)
      )
  else
  if wr a1 = 9 then
    if wr (M 2 3) = 0 then
      some (0)
    else
      some (1)
  else
  if wr a1 = 10 then
    some (f_59 M 2 0)
  else
  if wr a1 = 11 then
    some (f_59 M 2 1)
  else
  if wr a1 = 12 then
    some (f_59 M 2 2)
  else
  if wr a1 = 13 then
    some (f_44 M)
  else
  if wr a1 = 14 then
    some (f_21 M)
  else
  if wr a1 = 15 then
    some (M 2 10)
  else
  some (-1)
theorem t_119 {rom : xRom} {d : Nat} {M : xM} {a1 : Int} {r : Int} {out : Option xV × xH} (e : f_119 M a1 = some r) (hK : eI M out r) : Rn rom (d + 3) 89 (0, [some (vR 1), some (vI a1)], [], (G0, M)) out := by
  have hc : xkall.getD 89 [] = xk_89 := rfl
  unfold f_119 at e
  refine Rn_ms (σ' := (1, [some (vR 1), some (vI a1)], [vI a1], (G0, M))) hc 1 rfl ?_
  refine R_ite e (fun b1 e => ?_) (fun b1 e => ?_)
  · refine Rn_tsw (off := 79) (tgt := 80) hc rfl rfl (xsw_at b1 (by decide) (by decide) (by decide) rfl) rfl ?_
    refine Rn_ms (σ' := (81, [some (vR 1), some (vI a1)], [vR 1], (G0, M))) hc 1 rfl ?_
    refine Rn_getR hc rfl tgc_1 (by decide) rfl prc_1_0 ?_
    show Rn rom (d + 3) 89 (84, [some (vR 1), some (vI a1)], [vR 2], (G0, M)) out
    refine Rn_getI hc rfl tgc_2 (by decide) (by decide) ?_
    show Rn rom (d + 3) 89 (87, [some (vR 1), some (vI a1)], [vI (M 2 4)], (G0, M)) out
    cases e
    exact R_end (Rn_iret hc rfl rfl (xretI rfl rfl)) hK
  refine R_ite e (fun b2 e => ?_) (fun b2 e => ?_)
  · refine Rn_tsw (off := 87) (tgt := 88) hc rfl rfl (xsw_at b2 (by decide) (by decide) (by decide) rfl) rfl ?_
    refine Rn_ms (σ' := (89, [some (vR 1), some (vI a1)], [vR 1], (G0, M))) hc 1 rfl ?_
    refine Rn_getR hc rfl tgc_1 (by decide) rfl prc_1_0 ?_
    refine Rn_ms (σ' := (93, [some (vR 1), some (vI a1)], [vR 1, vR 2], (G0, M))) hc 1 rfl ?_
    refine Rn_getR hc rfl tgc_1 (by decide) rfl prc_1_0 ?_
    show Rn rom (d + 3) 89 (96, [some (vR 1), some (vI a1)], [vR 2, vR 2], (G0, M)) out
    refine Rn_getI hc rfl tgc_2 (by decide) (by decide) ?_
    show Rn rom (d + 3) 89 (99, [some (vR 1), some (vI a1)], [vI (M 2 5), vR 2], (G0, M)) out
    refine R_bind e (fun k3 hk3 e => ?_)
    refine Rn_cv hc rfl rfl (by decide) (ii := xi_42) rfl rfl rfl (tgc_2 : Tg _ = 7) (by decide) rfl (le := [some (vR 2), some (vI (M 2 5)), none, none, none]) rfl (v := some (vI k3)) (M' := M) (t_62 tgc_2 (d := d + 1) hk3 rfl) ?_
    show Rn rom (d + 3) 89 (102, [some (vR 1), some (vI a1)], [vI k3], (G0, M)) out
    cases e
    exact R_end (Rn_iret hc rfl rfl (xretI rfl rfl)) hK
  refine R_ite e (fun b4 e => ?_) (fun b4 e => ?_)
  · refine Rn_tsw (off := 102) (tgt := 103) hc rfl rfl (xsw_at b4 (by decide) (by decide) (by decide) rfl) rfl ?_
    refine Rn_ms (σ' := (104, [some (vR 1), some (vI a1)], [vR 1], (G0, M))) hc 1 rfl ?_
    refine Rn_getR hc rfl tgc_1 (by decide) rfl prc_1_0 ?_
    show Rn rom (d + 3) 89 (107, [some (vR 1), some (vI a1)], [vR 2], (G0, M)) out
    refine R_bind e (fun k5 hk5 e => ?_)
    refine Rn_cv hc rfl rfl (by decide) (ii := xi_43) rfl rfl rfl (tgc_2 : Tg _ = 7) (by decide) rfl (le := [some (vR 2), none]) rfl (v := some (vI k5)) (M' := M) (t_63 tgc_2 (d := d + 0) hk5 rfl) ?_
    show Rn rom (d + 3) 89 (110, [some (vR 1), some (vI a1)], [vI k5], (G0, M)) out
    cases e
    exact R_end (Rn_iret hc rfl rfl (xretI rfl rfl)) hK
  refine R_ite e (fun b6 e => ?_) (fun b6 e => ?_)
  · refine Rn_tsw (off := 110) (tgt := 111) hc rfl rfl (xsw_at b6 (by decide) (by decide) (by decide) rfl) rfl ?_
    refine Rn_ms (σ' := (112, [some (vR 1), some (vI a1)], [vR 1], (G0, M))) hc 1 rfl ?_
    refine Rn_getR hc rfl tgc_1 (by decide) rfl prc_1_0 ?_
    show Rn rom (d + 3) 89 (115, [some (vR 1), some (vI a1)], [vR 2], (G0, M)) out
    refine Rn_getI hc rfl tgc_2 (by decide) (by decide) ?_
    show Rn rom (d + 3) 89 (118, [some (vR 1), some (vI a1)], [vI (M 2 5)], (G0, M)) out
    cases e
    exact R_end (Rn_iret hc rfl rfl (xretI rfl rfl)) hK
  refine R_ite e (fun b7 e => ?_) (fun b7 e => ?_)
  · refine Rn_tsw (off := 118) (tgt := 119) hc rfl rfl (xsw_at b7 (by decide) (by decide) (by decide) rfl) rfl ?_
    refine Rn_ms (σ' := (120, [some (vR 1), some (vI a1)], [vR 1], (G0, M))) hc 1 rfl ?_
    refine Rn_getR hc rfl tgc_1 (by decide) rfl prc_1_0 ?_
    show Rn rom (d + 3) 89 (123, [some (vR 1), some (vI a1)], [vR 2], (G0, M)) out
    refine Rn_getI hc rfl tgc_2 (by decide) (by decide) ?_
    show Rn rom (d + 3) 89 (126, [some (vR 1), some (vI a1)], [vI (M 2 6)], (G0, M)) out
    cases e
    exact R_end (Rn_iret hc rfl rfl (xretI rfl rfl)) hK
  refine R_ite e (fun b8 e => ?_) (fun b8 e => ?_)
  · refine Rn_tsw (off := 126) (tgt := 127) hc rfl rfl (xsw_at b8 (by decide) (by decide) (by decide) rfl) rfl ?_
    refine Rn_ms (σ' := (128, [some (vR 1), some (vI a1)], [vR 1], (G0, M))) hc 1 rfl ?_
    refine Rn_getR hc rfl tgc_1 (by decide) rfl prc_1_0 ?_
    show Rn rom (d + 3) 89 (131, [some (vR 1), some (vI a1)], [vR 2], (G0, M)) out
    refine Rn_cv hc rfl rfl (by decide) (ii := xi_41) rfl rfl rfl (tgc_2 : Tg _ = 7) (by decide) rfl (le := [some (vR 2)]) rfl (v := some (vI (f_61 M 2))) (M' := M) (t_61 tgc_2 (d := d + 2) rfl rfl) ?_
    show Rn rom (d + 3) 89 (134, [some (vR 1), some (vI a1)], [vI (f_61 M 2)], (G0, M)) out
    refine R_ite e (fun b9 e => ?_) (fun b9 e => ?_)
    · refine Rn_ifT (tgt := 147) hc rfl rfl (by decide) b9 ?_
      refine Rn_ms (σ' := (148, [some (vR 1), some (vI a1)], [vI 0], (G0, M))) hc 1 rfl ?_
      cases e
      exact R_end (Rn_iret hc rfl rfl (xretI rfl rfl)) hK
    · refine Rn_ifF hc rfl rfl (by decide) b9 ?_
      refine Rn_ms (σ' := (138, [some (vR 1), some (vI a1)], [vR 1], (G0, M))) hc 1 rfl ?_
      refine Rn_getR hc rfl tgc_1 (by decide) rfl prc_1_0 ?_
      show Rn rom (d + 3) 89 (141, [some (vR 1), some (vI a1)], [vR 2], (G0, M)) out
      refine Rn_getI hc rfl tgc_2 (by decide) (by decide) ?_
      refine Rn_ms (σ' := (148, [some (vR 1), some (vI a1)], [vI (M 2 7)], (G0, M))) hc 1 rfl ?_
      cases e
      exact R_end (Rn_iret hc rfl rfl (xretI rfl rfl)) hK
  refine R_ite e (fun b10 e => ?_) (fun b10 e => ?_)
  · refine Rn_tsw (off := 148) (tgt := 149) hc rfl rfl (xsw_at b10 (by decide) (by decide) (by decide) rfl) rfl ?_
    refine Rn_ms (σ' := (150, [some (vR 1), some (vI a1)], [vR 1], (G0, M))) hc 1 rfl ?_
    refine Rn_getR hc rfl tgc_1 (by decide) rfl prc_1_0 ?_
    show Rn rom (d + 3) 89 (153, [some (vR 1), some (vI a1)], [vR 2], (G0, M)) out
    refine Rn_getI hc rfl tgc_2 (by decide) (by decide) ?_
    show Rn rom (d + 3) 89 (156, [some (vR 1), some (vI a1)], [vI (M 2 8)], (G0, M)) out
    cases e
    exact R_end (Rn_iret hc rfl rfl (xretI rfl rfl)) hK
  refine R_ite e (fun b11 e => ?_) (fun b11 e => ?_)
  · refine Rn_tsw (off := 156) (tgt := 157) hc rfl rfl (xsw_at b11 (by decide) (by decide) (by decide) rfl) rfl ?_
    refine Rn_ms (σ' := (158, [some (vR 1), some (vI a1)], [vR 1], (G0, M))) hc 1 rfl ?_
    refine Rn_getR hc rfl tgc_1 (by decide) rfl prc_1_0 ?_
    show Rn rom (d + 3) 89 (161, [some (vR 1), some (vI a1)], [vR 2], (G0, M)) out
    refine Rn_cv hc rfl rfl (by decide) (ii := xi_40) rfl rfl rfl (tgc_2 : Tg _ = 7) (by decide) rfl (le := [some (vR 2)]) rfl (v := some (vI (f_60 M 2))) (M' := M) (t_60 tgc_2 (d := d + 2) rfl rfl) ?_
    show Rn rom (d + 3) 89 (164, [some (vR 1), some (vI a1)], [vI (f_60 M 2)], (G0, M)) out
    refine R_ite e (fun b12 e => ?_) (fun b12 e => ?_)
    · refine Rn_ifT (tgt := 180) hc rfl rfl (by decide) b12 ?_
      refine Rn_ms (σ' := (181, [some (vR 1), some (vI a1)], [vI 0], (G0, M))) hc 1 rfl ?_
      cases e
      exact R_end (Rn_iret hc rfl rfl (xretI rfl rfl)) hK
    · refine Rn_ifF hc rfl rfl (by decide) b12 ?_
      refine Rn_ms (σ' := (168, [some (vR 1), some (vI a1)], [vR 1], (G0, M))) hc 1 rfl ?_
      refine Rn_getR hc rfl tgc_1 (by decide) rfl prc_1_0 ?_
      show Rn rom (d + 3) 89 (171, [some (vR 1), some (vI a1)], [vR 2], (G0, M)) out
      refine Rn_getR hc rfl tgc_2 (by decide) rfl prc_2_2 ?_
      show Rn rom (d + 3) 89 (174, [some (vR 1), some (vI a1)], [vR 5], (G0, M)) out
      refine Rn_getI hc rfl tgc_5 (by decide) (by decide) ?_
      refine Rn_ms (σ' := (181, [some (vR 1), some (vI a1)], [vI (M 5 1)], (G0, M))) hc 1 rfl ?_
      cases e
      exact R_end (Rn_iret hc rfl rfl (xretI rfl rfl)) hK
  refine R_ite e (fun b13 e => ?_) (fun b13 e => ?_)
  · refine Rn_tsw (off := 181) (tgt := 182) hc rfl rfl (xsw_at b13 (by decide) (by decide) (by decide) rfl) rfl ?_
    refine Rn_ms (σ' := (183, [some (vR 1), some (vI a1)], [vR 1], (G0, M))) hc 1 rfl ?_
    refine Rn_getR hc rfl tgc_1 (by decide) rfl prc_1_0 ?_
    show Rn rom (d + 3) 89 (186, [some (vR 1), some (vI a1)], [vR 2], (G0, M)) out
    refine Rn_cv hc rfl rfl (by decide) (ii := xi_40) rfl rfl rfl (tgc_2 : Tg _ = 7) (by decide) rfl (le := [some (vR 2)]) rfl (v := some (vI (f_60 M 2))) (M' := M) (t_60 tgc_2 (d := d + 2) rfl rfl) ?_
    show Rn rom (d + 3) 89 (189, [some (vR 1), some (vI a1)], [vI (f_60 M 2)], (G0, M)) out
    refine R_ite e (fun b14 e => ?_) (fun b14 e => ?_)
    · refine Rn_ifT (tgt := 208) hc rfl rfl (by decide) b14 ?_
      refine Rn_ms (σ' := (209, [some (vR 1), some (vI a1)], [vI 0], (G0, M))) hc 1 rfl ?_
      cases e
      exact R_end (Rn_iret hc rfl rfl (xretI rfl rfl)) hK
    · refine Rn_ifF hc rfl rfl (by decide) b14 ?_
      refine Rn_ms (σ' := (193, [some (vR 1), some (vI a1)], [vR 1], (G0, M))) hc 1 rfl ?_
      refine Rn_getR hc rfl tgc_1 (by decide) rfl prc_1_0 ?_
      show Rn rom (d + 3) 89 (196, [some (vR 1), some (vI a1)], [vR 2], (G0, M)) out
      refine Rn_getR hc rfl tgc_2 (by decide) rfl prc_2_2 ?_
      show Rn rom (d + 3) 89 (199, [some (vR 1), some (vI a1)], [vR 5], (G0, M)) out
      refine Rn_getR hc rfl tgc_5 (by decide) rfl prc_5_0 ?_
      show Rn rom (d + 3) 89 (202, [some (vR 1), some (vI a1)], [vR 6], (G0, M)) out
      refine R_bind e (fun k15 hk15 e => ?_)
      refine Rn_cv hc rfl rfl (by decide) (ii := xi_28) rfl rfl rfl (tgc_6 : Tg _ = 4) (by decide) rfl (le := [some (vR 6), none, none]) rfl (v := some (vI k15)) (M' := M) (t_36 tgc_6 (d := d + 2) hk15 rfl) ?_
      refine Rn_ms (σ' := (209, [some (vR 1), some (vI a1)], [vI k15], (G0, M))) hc 1 rfl ?_
      cases e
      exact R_end (Rn_iret hc rfl rfl (xretI rfl rfl)) hK
  refine R_ite e (fun b16 e => ?_) (fun b16 e => ?_)
  · refine Rn_tsw (off := 209) (tgt := 210) hc rfl rfl (xsw_at b16 (by decide) (by decide) (by decide) rfl) rfl ?_
    refine Rn_ms (σ' := (211, [some (vR 1), some (vI a1)], [vR 1], (G0, M))) hc 1 rfl ?_
    refine Rn_getR hc rfl tgc_1 (by decide) rfl prc_1_0 ?_
    show Rn rom (d + 3) 89 (214, [some (vR 1), some (vI a1)], [vR 2], (G0, M)) out
    refine Rn_getI hc rfl tgc_2 (by decide) (by decide) ?_
    show Rn rom (d + 3) 89 (217, [some (vR 1), some (vI a1)], [vI (M 2 3)], (G0, M)) out
    refine R_ite e (fun b17 e => ?_) (fun b17 e => ?_)
    · refine Rn_ifT (tgt := 224) hc rfl rfl (by decide) b17 ?_
      refine Rn_ms (σ' := (225, [some (vR 1), some (vI a1)], [vI 0], (G0, M))) hc 1 rfl ?_
      cases e
      exact R_end (Rn_iret hc rfl rfl (xretI rfl rfl)) hK
    · refine Rn_ifF hc rfl rfl (by decide) b17 ?_
      refine Rn_ms (σ' := (225, [some (vR 1), some (vI a1)], [vI 1], (G0, M))) hc 2 rfl ?_
      cases e
      exact R_end (Rn_iret hc rfl rfl (xretI rfl rfl)) hK
  refine R_ite e (fun b18 e => ?_) (fun b18 e => ?_)
  · refine Rn_tsw (off := 225) (tgt := 226) hc rfl rfl (xsw_at b18 (by decide) (by decide) (by decide) rfl) rfl ?_
    refine Rn_ms (σ' := (227, [some (vR 1), some (vI a1)], [vR 1], (G0, M))) hc 1 rfl ?_
    refine Rn_getR hc rfl tgc_1 (by decide) rfl prc_1_0 ?_
    refine Rn_ms (σ' := (231, [some (vR 1), some (vI a1)], [vI 0, vR 2], (G0, M))) hc 1 rfl ?_
    refine Rn_cv hc rfl rfl (by decide) (ii := xi_39) rfl rfl rfl (tgc_2 : Tg _ = 7) (by decide) rfl (le := [some (vR 2), some (vI 0)]) rfl (v := some (vI (f_59 M 2 0))) (M' := M) (t_59 tgc_2 (d := d + 2) rfl rfl) ?_
    show Rn rom (d + 3) 89 (234, [some (vR 1), some (vI a1)], [vI (f_59 M 2 0)], (G0, M)) out
    cases e
    exact R_end (Rn_iret hc rfl rfl (xretI rfl rfl)) hK
  refine R_ite e (fun b19 e => ?_) (fun b19 e => ?_)
  · refine Rn_tsw (off := 234) (tgt := 235) hc rfl rfl (xsw_at b19 (by decide) (by decide) (by decide) rfl) rfl ?_
    refine Rn_ms (σ' := (236, [some (vR 1), some (vI a1)], [vR 1], (G0, M))) hc 1 rfl ?_
    refine Rn_getR hc rfl tgc_1 (by decide) rfl prc_1_0 ?_
    refine Rn_ms (σ' := (240, [some (vR 1), some (vI a1)], [vI 1, vR 2], (G0, M))) hc 1 rfl ?_
    refine Rn_cv hc rfl rfl (by decide) (ii := xi_39) rfl rfl rfl (tgc_2 : Tg _ = 7) (by decide) rfl (le := [some (vR 2), some (vI 1)]) rfl (v := some (vI (f_59 M 2 1))) (M' := M) (t_59 tgc_2 (d := d + 2) rfl rfl) ?_
    show Rn rom (d + 3) 89 (243, [some (vR 1), some (vI a1)], [vI (f_59 M 2 1)], (G0, M)) out
    cases e
    exact R_end (Rn_iret hc rfl rfl (xretI rfl rfl)) hK
  refine R_ite e (fun b20 e => ?_) (fun b20 e => ?_)
  · refine Rn_tsw (off := 243) (tgt := 244) hc rfl rfl (xsw_at b20 (by decide) (by decide) (by decide) rfl) rfl ?_
    refine Rn_ms (σ' := (245, [some (vR 1), some (vI a1)], [vR 1], (G0, M))) hc 1 rfl ?_
    refine Rn_getR hc rfl tgc_1 (by decide) rfl prc_1_0 ?_
    refine Rn_ms (σ' := (249, [some (vR 1), some (vI a1)], [vI 2, vR 2], (G0, M))) hc 1 rfl ?_
    refine Rn_cv hc rfl rfl (by decide) (ii := xi_39) rfl rfl rfl (tgc_2 : Tg _ = 7) (by decide) rfl (le := [some (vR 2), some (vI 2)]) rfl (v := some (vI (f_59 M 2 2))) (M' := M) (t_59 tgc_2 (d := d + 2) rfl rfl) ?_
    show Rn rom (d + 3) 89 (252, [some (vR 1), some (vI a1)], [vI (f_59 M 2 2)], (G0, M)) out
    cases e
    exact R_end (Rn_iret hc rfl rfl (xretI rfl rfl)) hK
  refine R_ite e (fun b21 e => ?_) (fun b21 e => ?_)
  · refine Rn_tsw (off := 252) (tgt := 253) hc rfl rfl (xsw_at b21 (by decide) (by decide) (by decide) rfl) rfl ?_
    refine Rn_ms (σ' := (254, [some (vR 1), some (vI a1)], [vR 1], (G0, M))) hc 1 rfl ?_
    refine Rn_getR hc rfl tgc_1 (by decide) rfl prc_1_3 ?_
    show Rn rom (d + 3) 89 (257, [some (vR 1), some (vI a1)], [vR 172], (G0, M)) out
    refine Rn_cv hc rfl rfl (by decide) (ii := xi_33) rfl rfl rfl (tgc_172 : Tg _ = 6) (by decide) rfl (le := [some (vR 172)]) rfl (v := some (vI (f_44 M))) (M' := M) (t_44  (d := d + 2) rfl rfl) ?_
    show Rn rom (d + 3) 89 (260, [some (vR 1), some (vI a1)], [vI (f_44 M)], (G0, M)) out
    cases e
    exact R_end (Rn_iret hc rfl rfl (xretI rfl rfl)) hK
  refine R_ite e (fun b22 e => ?_) (fun b22 e => ?_)
  · refine Rn_tsw (off := 260) (tgt := 261) hc rfl rfl (xsw_at b22 (by decide) (by decide) (by decide) rfl) rfl ?_
    refine Rn_ms (σ' := (262, [some (vR 1), some (vI a1)], [vR 1], (G0, M))) hc 1 rfl ?_
    refine Rn_getR hc rfl tgc_1 (by decide) rfl prc_1_2 ?_
    show Rn rom (d + 3) 89 (265, [some (vR 1), some (vI a1)], [vR 50], (G0, M)) out
    refine Rn_cv hc rfl rfl (by decide) (ii := xi_13) rfl rfl rfl (tgc_50 : Tg _ = 2) (by decide) rfl (le := [some (vR 50)]) rfl (v := some (vI (f_21 M))) (M' := M) (t_21  (d := d + 2) rfl rfl) ?_
    show Rn rom (d + 3) 89 (268, [some (vR 1), some (vI a1)], [vI (f_21 M)], (G0, M)) out
    cases e
    exact R_end (Rn_iret hc rfl rfl (xretI rfl rfl)) hK
  refine R_ite e (fun b23 e => ?_) (fun b23 e => ?_)
  · refine Rn_tsw (off := 268) (tgt := 269) hc rfl rfl (xsw_at b23 (by decide) (by decide) (by decide) rfl) rfl ?_
    refine Rn_ms (σ' := (270, [some (vR 1), some (vI a1)], [vR 1], (G0, M))) hc 1 rfl ?_
    refine Rn_getR hc rfl tgc_1 (by decide) rfl prc_1_0 ?_
    show Rn rom (d + 3) 89 (273, [some (vR 1), some (vI a1)], [vR 2], (G0, M)) out
    refine Rn_getI hc rfl tgc_2 (by decide) (by decide) ?_
    show Rn rom (d + 3) 89 (276, [some (vR 1), some (vI a1)], [vI (M 2 10)], (G0, M)) out
    cases e
    exact R_end (Rn_iret hc rfl rfl (xretI rfl rfl)) hK
  refine Rn_tsw (off := 276) (tgt := 277) hc rfl rfl (xsw_df (by omega)) rfl ?_
  refine Rn_ms (σ' := (278, [some (vR 1), some (vI a1)], [vI (-1)], (G0, M))) hc 1 rfl ?_
  cases e
  exact R_end (Rn_iret hc rfl rfl (xretI rfl rfl)) hK
/-- PedalLayers.loudness -/
def f_120 (M : xM) : Option (UInt64 × xM) :=
  (f_62 M 2 (M 2 5)).bind (fun k1 =>
  if 0 < wr k1 then
    (f_8 M 2 (M 2 5)).bind (fun k3 =>
    gn (FP.ddiv (xi2d k3.1) (xi2d k1)) (
    some ((FP.ddiv (xi2d k3.1) (xi2d k1)), k3.2)
    ))
  else
    some (FP.dconst0, M)
  )
theorem t_120 {rom : xRom} {d : Nat} {M : xM}  {r : UInt64 × xM} {out : Option xV × xH} (e : f_120 M = some r) (hK : eDW out r) : Rn rom (d + 5) 90 (0, [some (vR 1), none], [], (G0, M)) out := by
  have hc : xkall.getD 90 [] = xk_90 := rfl
  unfold f_120 at e
  refine Rn_ms (σ' := (1, [some (vR 1), none], [vR 1], (G0, M))) hc 1 rfl ?_
  refine Rn_getR hc rfl tgc_1 (by decide) rfl prc_1_0 ?_
  refine Rn_ms (σ' := (5, [some (vR 1), none], [vR 1, vR 2], (G0, M))) hc 1 rfl ?_
  refine Rn_getR hc rfl tgc_1 (by decide) rfl prc_1_0 ?_
  show Rn rom (d + 5) 90 (8, [some (vR 1), none], [vR 2, vR 2], (G0, M)) out
  refine Rn_getI hc rfl tgc_2 (by decide) (by decide) ?_
  show Rn rom (d + 5) 90 (11, [some (vR 1), none], [vI (M 2 5), vR 2], (G0, M)) out
  refine R_bind e (fun k1 hk1 e => ?_)
  refine Rn_cv hc rfl rfl (by decide) (ii := xi_42) rfl rfl rfl (tgc_2 : Tg _ = 7) (by decide) rfl (le := [some (vR 2), some (vI (M 2 5)), none, none, none]) rfl (v := some (vI k1)) (M' := M) (t_62 tgc_2 (d := d + 3) hk1 rfl) ?_
  refine Rn_ms (σ' := (16, [some (vR 1), some (vI k1)], [vI k1], (G0, M))) hc 2 rfl ?_
  refine R_ite e (fun b2 e => ?_) (fun b2 e => ?_)
  · refine Rn_ifT (tgt := 21) hc rfl rfl (by decide) b2 ?_
    refine Rn_ms (σ' := (22, [some (vR 1), some (vI k1)], [vR 1], (G0, M))) hc 1 rfl ?_
    refine Rn_getR hc rfl tgc_1 (by decide) rfl prc_1_7 ?_
    refine Rn_ms (σ' := (26, [some (vR 1), some (vI k1)], [vR 1, vR 177], (G0, M))) hc 1 rfl ?_
    refine Rn_getR hc rfl tgc_1 (by decide) rfl prc_1_0 ?_
    refine Rn_ms (σ' := (30, [some (vR 1), some (vI k1)], [vR 1, vR 2, vR 177], (G0, M))) hc 1 rfl ?_
    refine Rn_getR hc rfl tgc_1 (by decide) rfl prc_1_0 ?_
    show Rn rom (d + 5) 90 (33, [some (vR 1), some (vI k1)], [vR 2, vR 2, vR 177], (G0, M)) out
    refine Rn_getI hc rfl tgc_2 (by decide) (by decide) ?_
    show Rn rom (d + 5) 90 (36, [some (vR 1), some (vI k1)], [vI (M 2 5), vR 2, vR 177], (G0, M)) out
    refine R_bind e (fun k3 hk3 e => ?_)
    refine Rn_cv hc rfl rfl (by decide) (ii := xi_8) rfl rfl rfl (tgc_177 : Tg _ = 0) (by decide) rfl (le := [some (vR 177), some (vR 2), some (vI (M 2 5)), none, none, none]) rfl (v := some (vI k3.1)) (M' := k3.2) (t_8 tgc_2 (d := d + 0) hk3 rfl) ?_
    refine Rn_ms (σ' := (42, [some (vR 1), some (vI k1)], [vD (xi2d k1), vD (xi2d k3.1)], (G0, k3.2))) hc 3 rfl ?_
    refine R_gn e (fun g4 e => ?_)
    refine Rn_ddiv hc rfl ⟨rfl, rfl⟩ g4 ?_
    show Rn rom (d + 5) 90 (43, [some (vR 1), some (vI k1)], [vD (FP.ddiv (xi2d k3.1) (xi2d k1))], (G0, k3.2)) out
    cases e
    exact R_end (Rn_dret hc rfl rfl rfl rfl) hK
  · refine Rn_ifF hc rfl rfl (by decide) b2 ?_
    refine Rn_ms (σ' := (20, [some (vR 1), some (vI k1)], [vD FP.dconst0], (G0, M))) hc 1 rfl ?_
    cases e
    exact R_end (Rn_dret hc rfl rfl rfl rfl) hK
/-- PedalLayers.untilMultiple -/
def f_135 (a0 : Int) (a1 : Int) : Int :=
  (f_134 (a1 - (f_134 a0 a1)) a1)
theorem t_135 {rom : xRom} {d : Nat} {M : xM} {a0 : Int} {a1 : Int} {r : Int} {out : Option xV × xH} (e : f_135 a0 a1 = r) (hK : eI M out r) : Rn rom (d + 1) 104 (0, [some (vI a0), some (vI a1)], [], (G0, M)) out := by
  have hc : xkall.getD 104 [] = xk_104 := rfl
  unfold f_135 at e
  refine Rn_ms (σ' := (3, [some (vI a0), some (vI a1)], [vI a1, vI a0, vI a1], (G0, M))) hc 3 rfl ?_
  refine Rn_cs hc rfl rfl (by decide) (ii := xi_103) rfl rfl rfl (le := [some (vI a0), some (vI a1)]) rfl (v := some (vI (f_134 a0 a1))) (M' := M) (t_134  (d := d + 0) rfl rfl) ?_
  refine Rn_ms (σ' := (8, [some (vI a0), some (vI a1)], [vI a1, vI (a1 - (f_134 a0 a1))], (G0, M))) hc 2 rfl ?_
  refine Rn_cs hc rfl rfl (by decide) (ii := xi_103) rfl rfl rfl (le := [some (vI (a1 - (f_134 a0 a1))), some (vI a1)]) rfl (v := some (vI (f_134 (a1 - (f_134 a0 a1)) a1))) (M' := M) (t_134  (d := d + 0) rfl rfl) ?_
  show Rn rom (d + 1) 104 (11, [some (vI a0), some (vI a1)], [vI (f_134 (a1 - (f_134 a0 a1)) a1)], (G0, M)) out
  cases e
  exact R_end (Rn_iret hc rfl rfl (xretI rfl rfl)) hK
/-- PedalLayers.barIn -/
def f_121 (M : xM) : Int :=
  if wr (f_61 M 2) = 0 then
    (-2)
  else
    (f_135 (M 2 9) (2 * (f_59 M 2 0)))
theorem t_121 {rom : xRom} {d : Nat} {M : xM}  {r : Int} {out : Option xV × xH} (e : f_121 M = r) (hK : eI M out r) : Rn rom (d + 2) 91 (0, [some (vR 1)], [], (G0, M)) out := by
  have hc : xkall.getD 91 [] = xk_91 := rfl
  unfold f_121 at e
  refine Rn_ms (σ' := (1, [some (vR 1)], [vR 1], (G0, M))) hc 1 rfl ?_
  refine Rn_getR hc rfl tgc_1 (by decide) rfl prc_1_0 ?_
  show Rn rom (d + 2) 91 (4, [some (vR 1)], [vR 2], (G0, M)) out
  refine Rn_cv hc rfl rfl (by decide) (ii := xi_41) rfl rfl rfl (tgc_2 : Tg _ = 7) (by decide) rfl (le := [some (vR 2)]) rfl (v := some (vI (f_61 M 2))) (M' := M) (t_61 tgc_2 (d := d + 1) rfl rfl) ?_
  show Rn rom (d + 2) 91 (7, [some (vR 1)], [vI (f_61 M 2)], (G0, M)) out
  refine R_ite e (fun b1 e => ?_) (fun b1 e => ?_)
  · refine Rn_ifF hc rfl rfl (by decide) (fun w => w b1) ?_
    refine Rn_ms (σ' := (12, [some (vR 1)], [vI (-2)], (G0, M))) hc 1 rfl ?_
    cases e
    exact R_end (Rn_iret hc rfl rfl (xretI rfl rfl)) hK
  · refine Rn_ifT (tgt := 13) hc rfl rfl (by decide) (fun w => b1 w) ?_
    refine Rn_ms (σ' := (14, [some (vR 1)], [vR 1], (G0, M))) hc 1 rfl ?_
    refine Rn_getR hc rfl tgc_1 (by decide) rfl prc_1_0 ?_
    show Rn rom (d + 2) 91 (17, [some (vR 1)], [vR 2], (G0, M)) out
    refine Rn_getI hc rfl tgc_2 (by decide) (by decide) ?_
    refine Rn_ms (σ' := (22, [some (vR 1)], [vR 1, vI 2, vI (M 2 9)], (G0, M))) hc 2 rfl ?_
    refine Rn_getR hc rfl tgc_1 (by decide) rfl prc_1_0 ?_
    refine Rn_ms (σ' := (26, [some (vR 1)], [vI 0, vR 2, vI 2, vI (M 2 9)], (G0, M))) hc 1 rfl ?_
    refine Rn_cv hc rfl rfl (by decide) (ii := xi_39) rfl rfl rfl (tgc_2 : Tg _ = 7) (by decide) rfl (le := [some (vR 2), some (vI 0)]) rfl (v := some (vI (f_59 M 2 0))) (M' := M) (t_59 tgc_2 (d := d + 1) rfl rfl) ?_
    refine Rn_ms (σ' := (30, [some (vR 1)], [vI (2 * (f_59 M 2 0)), vI (M 2 9)], (G0, M))) hc 1 rfl ?_
    refine Rn_cs hc rfl rfl (by decide) (ii := xi_104) rfl rfl rfl (le := [some (vI (M 2 9)), some (vI (2 * (f_59 M 2 0)))]) rfl (v := some (vI (f_135 (M 2 9) (2 * (f_59 M 2 0))))) (M' := M) (t_135  (d := d + 0) rfl rfl) ?_
    show Rn rom (d + 2) 91 (33, [some (vR 1)], [vI (f_135 (M 2 9) (2 * (f_59 M 2 0)))], (G0, M)) out
    cases e
    exact R_end (Rn_iret hc rfl rfl (xretI rfl rfl)) hK
/-- PedalLayers.drift -/
def f_122 (M : xM) (a1 : Int) : Option (Int) :=
  if wr a1 < 0 then
    some (-1)
  else
    if wr a1 ≤ 99 then
      (f_62 M 2 (M 2 5)).bind (fun k3 =>
      if wr k3 = 0 then
        some (-2)
      else
        if wr k3 ≤ wr (f_135 (a1 * k3) (f_59 M 2 0)) then
          some (-4)
        else
          some (f_135 (a1 * k3) (f_59 M 2 0))
      )
    else
      some (-1)
theorem t_122 {rom : xRom} {d : Nat} {M : xM} {a1 : Int} {r : Int} {out : Option xV × xH} (e : f_122 M a1 = some r) (hK : eI M out r) : Rn rom (d + 2) 92 (0, [some (vR 1), some (vI a1), none, none], [], (G0, M)) out := by
  have hc : xkall.getD 92 [] = xk_92 := rfl
  unfold f_122 at e
  refine Rn_ms (σ' := (1, [some (vR 1), some (vI a1), none, none], [vI a1], (G0, M))) hc 1 rfl ?_
  refine R_ite e (fun b1 e => ?_) (fun b1 e => ?_)
  · refine Rn_ifT (tgt := 10) hc rfl rfl (by decide) b1 ?_
    refine Rn_ms (σ' := (11, [some (vR 1), some (vI a1), none, none], [vI (-1)], (G0, M))) hc 1 rfl ?_
    cases e
    exact R_end (Rn_iret hc rfl rfl (xretI rfl rfl)) hK
  · refine Rn_ifF hc rfl rfl (by decide) b1 ?_
    refine Rn_ms (σ' := (7, [some (vR 1), some (vI a1), none, none], [vI 99, vI a1], (G0, M))) hc 2 rfl ?_
    refine R_ite e (fun b2 e => ?_) (fun b2 e => ?_)
    · refine Rn_icT (tgt := 12) hc rfl rfl (by decide) b2 ?_
      refine Rn_ms (σ' := (13, [some (vR 1), some (vI a1), none, none], [vR 1], (G0, M))) hc 1 rfl ?_
      refine Rn_getR hc rfl tgc_1 (by decide) rfl prc_1_0 ?_
      refine Rn_ms (σ' := (17, [some (vR 1), some (vI a1), none, none], [vR 1, vR 2], (G0, M))) hc 1 rfl ?_
      refine Rn_getR hc rfl tgc_1 (by decide) rfl prc_1_0 ?_
      show Rn rom (d + 2) 92 (20, [some (vR 1), some (vI a1), none, none], [vR 2, vR 2], (G0, M)) out
      refine Rn_getI hc rfl tgc_2 (by decide) (by decide) ?_
      show Rn rom (d + 2) 92 (23, [some (vR 1), some (vI a1), none, none], [vI (M 2 5), vR 2], (G0, M)) out
      refine R_bind e (fun k3 hk3 e => ?_)
      refine Rn_cv hc rfl rfl (by decide) (ii := xi_42) rfl rfl rfl (tgc_2 : Tg _ = 7) (by decide) rfl (le := [some (vR 2), some (vI (M 2 5)), none, none, none]) rfl (v := some (vI k3)) (M' := M) (t_62 tgc_2 (d := d + 0) hk3 rfl) ?_
      refine Rn_ms (σ' := (28, [some (vR 1), some (vI a1), some (vI k3), none], [vI k3], (G0, M))) hc 2 rfl ?_
      refine R_ite e (fun b4 e => ?_) (fun b4 e => ?_)
      · refine Rn_ifF hc rfl rfl (by decide) (fun w => w b4) ?_
        refine Rn_ms (σ' := (33, [some (vR 1), some (vI a1), some (vI k3), none], [vI (-2)], (G0, M))) hc 1 rfl ?_
        cases e
        exact R_end (Rn_iret hc rfl rfl (xretI rfl rfl)) hK
      · refine Rn_ifT (tgt := 34) hc rfl rfl (by decide) (fun w => b4 w) ?_
        refine Rn_ms (σ' := (38, [some (vR 1), some (vI a1), some (vI k3), none], [vR 1, vI (a1 * k3)], (G0, M))) hc 4 rfl ?_
        refine Rn_getR hc rfl tgc_1 (by decide) rfl prc_1_0 ?_
        refine Rn_ms (σ' := (42, [some (vR 1), some (vI a1), some (vI k3), none], [vI 0, vR 2, vI (a1 * k3)], (G0, M))) hc 1 rfl ?_
        refine Rn_cv hc rfl rfl (by decide) (ii := xi_39) rfl rfl rfl (tgc_2 : Tg _ = 7) (by decide) rfl (le := [some (vR 2), some (vI 0)]) rfl (v := some (vI (f_59 M 2 0))) (M' := M) (t_59 tgc_2 (d := d + 1) rfl rfl) ?_
        show Rn rom (d + 2) 92 (45, [some (vR 1), some (vI a1), some (vI k3), none], [vI (f_59 M 2 0), vI (a1 * k3)], (G0, M)) out
        refine Rn_cs hc rfl rfl (by decide) (ii := xi_104) rfl rfl rfl (le := [some (vI (a1 * k3)), some (vI (f_59 M 2 0))]) rfl (v := some (vI (f_135 (a1 * k3) (f_59 M 2 0)))) (M' := M) (t_135  (d := d + 0) rfl rfl) ?_
        refine Rn_ms (σ' := (51, [some (vR 1), some (vI a1), some (vI k3), some (vI (f_135 (a1 * k3) (f_59 M 2 0)))], [vI k3, vI (f_135 (a1 * k3) (f_59 M 2 0))], (G0, M))) hc 3 rfl ?_
        refine R_ite e (fun b5 e => ?_) (fun b5 e => ?_)
        · refine Rn_icT (tgt := 58) hc rfl rfl (by decide) b5 ?_
          refine Rn_ms (σ' := (60, [some (vR 1), some (vI a1), some (vI k3), some (vI (f_135 (a1 * k3) (f_59 M 2 0)))], [vI (-4)], (G0, M))) hc 1 rfl ?_
          cases e
          exact R_end (Rn_iret hc rfl rfl (xretI rfl rfl)) hK
        · refine Rn_icF hc rfl rfl (by decide) b5 ?_
          refine Rn_ms (σ' := (60, [some (vR 1), some (vI a1), some (vI k3), some (vI (f_135 (a1 * k3) (f_59 M 2 0)))], [vI (f_135 (a1 * k3) (f_59 M 2 0))], (G0, M))) hc 2 rfl ?_
          cases e
          exact R_end (Rn_iret hc rfl rfl (xretI rfl rfl)) hK
    · refine Rn_icF hc rfl rfl (by decide) b2 ?_
      refine Rn_ms (σ' := (11, [some (vR 1), some (vI a1), none, none], [vI (-1)], (G0, M))) hc 1 rfl ?_
      cases e
      exact R_end (Rn_iret hc rfl rfl (xretI rfl rfl)) hK
def f_123_L33b (M : xM) (c1 : Int) (c2 : Int) (v3 : Int) : Option ((Int) ⊕ (Int)) :=
  if wr c2 ≤ wr v3 then
    some (.inr (v3))
  else
    if wr (f_134 (v3 * c1) c2) = 0 then
      some (.inr (v3))
    else
      some (.inl (v3 + 1))
theorem t_123_L33b {rom : xRom} {d : Nat} {c1 : Int} {c2 : Int} {v3 : Int} {M : xM} {r : (Int) ⊕ (Int)} {out : Option xV × xH} (e : f_123_L33b M c1 c2 v3 = some r) (hK : ((Sum.elim (fun s => Rn rom (d + 2) 93 (33, [none, some (vI c1), some (vI c2), some (vI s)], [], (G0, M)) out) (eI M out))) r) : Rn rom (d + 2) 93 (33, [none, some (vI c1), some (vI c2), some (vI v3)], [], (G0, M)) out := by
  have hc : xkall.getD 93 [] = xk_93 := rfl
  unfold f_123_L33b at e
  refine Rn_ms (σ' := (35, [none, some (vI c1), some (vI c2), some (vI v3)], [vI c2, vI v3], (G0, M))) hc 2 rfl ?_
  refine R_ite e (fun b3 e => ?_) (fun b3 e => ?_)
  · refine Rn_icT (tgt := 54) hc rfl rfl (by decide) b3 ?_
    refine Rn_ms (σ' := (55, [none, some (vI c1), some (vI c2), some (vI v3)], [vI v3], (G0, M))) hc 1 rfl ?_
    cases e
    exact R_end (Rn_iret hc rfl rfl (xretI rfl rfl)) hK
  · refine Rn_icF hc rfl rfl (by decide) b3 ?_
    refine Rn_ms (σ' := (42, [none, some (vI c1), some (vI c2), some (vI v3)], [vI c2, vI (v3 * c1)], (G0, M))) hc 4 rfl ?_
    refine Rn_cs hc rfl rfl (by decide) (ii := xi_103) rfl rfl rfl (le := [some (vI (v3 * c1)), some (vI c2)]) rfl (v := some (vI (f_134 (v3 * c1) c2))) (M' := M) (t_134  (d := d + 1) rfl rfl) ?_
    show Rn rom (d + 2) 93 (45, [none, some (vI c1), some (vI c2), some (vI v3)], [vI (f_134 (v3 * c1) c2)], (G0, M)) out
    refine R_ite e (fun b4 e => ?_) (fun b4 e => ?_)
    · refine Rn_ifT (tgt := 54) hc rfl rfl (by decide) b4 ?_
      refine Rn_ms (σ' := (55, [none, some (vI c1), some (vI c2), some (vI v3)], [vI v3], (G0, M))) hc 1 rfl ?_
      cases e
      exact R_end (Rn_iret hc rfl rfl (xretI rfl rfl)) hK
    · refine Rn_ifF hc rfl rfl (by decide) b4 ?_
      refine Rn_ms (σ' := (33, [none, some (vI c1), some (vI c2), some (vI (v3 + 1))], [], (G0, M))) hc 2 rfl ?_
      cases e
      exact Rn_weak (xle_s (xle_s (xle_s (xle_s xle_0)))) hK
def f_123_L33 (M : xM) (c1 : Int) (c2 : Int) (s : Int) : Option (Int) := loop NF (fun s => f_123_L33b M c1 c2 s) s
theorem t_123_L33 {rom : xRom} {d : Nat} {c1 : Int} {c2 : Int} {M : xM} {s : Int} {r : Int} {out : Option xV × xH} (e : f_123_L33 M c1 c2 s = some r) (hK : (eI M out) r) : Rn rom (d + 2) 93 (33, [none, some (vI c1), some (vI c2), some (vI s)], [], (G0, M)) out := by
  unfold f_123_L33 at e
  revert e hK
  exact R_loop (b := fun s => f_123_L33b M c1 c2 s) (G := fun s => Rn rom (d + 2) 93 (33, [none, some (vI c1), some (vI c2), some (vI s)], [], (G0, M)) out) (K := eI M out) (fun s r e hK => t_123_L33b  e hK) NF s r
/-- PedalLayers.meets -/
def f_123 (M : xM) : Option (Int) :=
  (f_62 M 2 (M 2 5)).bind (fun k1 =>
  if wr k1 = 0 then
    some (-2)
  else
    f_123_L33 M k1 (f_59 M 2 0) (1)
  )
theorem t_123 {rom : xRom} {d : Nat} {M : xM}  {r : Int} {out : Option xV × xH} (e : f_123 M = some r) (hK : eI M out r) : Rn rom (d + 2) 93 (0, [some (vR 1), none, none, none], [], (G0, M)) out := by
  have hc : xkall.getD 93 [] = xk_93 := rfl
  unfold f_123 at e
  refine Rn_ms (σ' := (1, [some (vR 1), none, none, none], [vR 1], (G0, M))) hc 1 rfl ?_
  refine Rn_getR hc rfl tgc_1 (by decide) rfl prc_1_0 ?_
  refine Rn_ms (σ' := (5, [some (vR 1), none, none, none], [vR 1, vR 2], (G0, M))) hc 1 rfl ?_
  refine Rn_getR hc rfl tgc_1 (by decide) rfl prc_1_0 ?_
  show Rn rom (d + 2) 93 (8, [some (vR 1), none, none, none], [vR 2, vR 2], (G0, M)) out
  refine Rn_getI hc rfl tgc_2 (by decide) (by decide) ?_
  show Rn rom (d + 2) 93 (11, [some (vR 1), none, none, none], [vI (M 2 5), vR 2], (G0, M)) out
  refine R_bind e (fun k1 hk1 e => ?_)
  refine Rn_cv hc rfl rfl (by decide) (ii := xi_42) rfl rfl rfl (tgc_2 : Tg _ = 7) (by decide) rfl (le := [some (vR 2), some (vI (M 2 5)), none, none, none]) rfl (v := some (vI k1)) (M' := M) (t_62 tgc_2 (d := d + 0) hk1 rfl) ?_
  refine Rn_ms (σ' := (16, [some (vR 1), some (vI k1), none, none], [vI k1], (G0, M))) hc 2 rfl ?_
  refine R_ite e (fun b2 e => ?_) (fun b2 e => ?_)
  · refine Rn_ifF hc rfl rfl (by decide) (fun w => w b2) ?_
    refine Rn_ms (σ' := (21, [some (vR 1), some (vI k1), none, none], [vI (-2)], (G0, M))) hc 1 rfl ?_
    cases e
    exact R_end (Rn_iret hc rfl rfl (xretI rfl rfl)) hK
  · refine Rn_ifT (tgt := 22) hc rfl rfl (by decide) (fun w => b2 w) ?_
    refine Rn_ms (σ' := (23, [some (vR 1), some (vI k1), none, none], [vR 1], (G0, M))) hc 1 rfl ?_
    refine Rn_getR hc rfl tgc_1 (by decide) rfl prc_1_0 ?_
    refine Rn_ms (σ' := (27, [some (vR 1), some (vI k1), none, none], [vI 0, vR 2], (G0, M))) hc 1 rfl ?_
    refine Rn_cv hc rfl rfl (by decide) (ii := xi_39) rfl rfl rfl (tgc_2 : Tg _ = 7) (by decide) rfl (le := [some (vR 2), some (vI 0)]) rfl (v := some (vI (f_59 M 2 0))) (M' := M) (t_59 tgc_2 (d := d + 1) rfl rfl) ?_
    refine Rn_ms (σ' := (33, [some (vR 1), some (vI k1), some (vI (f_59 M 2 0)), some (vI 1)], [], (G0, M))) hc 3 rfl ?_
    exact Rn_weak (xle_n (xle_s (xle_s (xle_s xle_0)))) (t_123_L33  e hK)
/-- PedalLayers.rounded -/
def f_124 (M : xM) (a1 : Int) : Option (Int) :=
  if wr a1 < 1 then
    some (-1)
  else
    if wr a1 ≤ 24 then
      (f_68 M 2 a1).bind (fun k3 =>
      some (k3)
      )
    else
      some (-1)
theorem t_124 {rom : xRom} {d : Nat} {M : xM} {a1 : Int} {r : Int} {out : Option xV × xH} (e : f_124 M a1 = some r) (hK : eI M out r) : Rn rom (d + 2) 94 (0, [some (vR 1), some (vI a1)], [], (G0, M)) out := by
  have hc : xkall.getD 94 [] = xk_94 := rfl
  unfold f_124 at e
  refine Rn_ms (σ' := (2, [some (vR 1), some (vI a1)], [vI 1, vI a1], (G0, M))) hc 2 rfl ?_
  refine R_ite e (fun b1 e => ?_) (fun b1 e => ?_)
  · refine Rn_icT (tgt := 11) hc rfl rfl (by decide) b1 ?_
    refine Rn_ms (σ' := (12, [some (vR 1), some (vI a1)], [vI (-1)], (G0, M))) hc 1 rfl ?_
    cases e
    exact R_end (Rn_iret hc rfl rfl (xretI rfl rfl)) hK
  · refine Rn_icF hc rfl rfl (by decide) b1 ?_
    refine Rn_ms (σ' := (8, [some (vR 1), some (vI a1)], [vI 24, vI a1], (G0, M))) hc 2 rfl ?_
    refine R_ite e (fun b2 e => ?_) (fun b2 e => ?_)
    · refine Rn_icT (tgt := 13) hc rfl rfl (by decide) b2 ?_
      refine Rn_ms (σ' := (14, [some (vR 1), some (vI a1)], [vR 1], (G0, M))) hc 1 rfl ?_
      refine Rn_getR hc rfl tgc_1 (by decide) rfl prc_1_0 ?_
      refine Rn_ms (σ' := (18, [some (vR 1), some (vI a1)], [vI a1, vR 2], (G0, M))) hc 1 rfl ?_
      refine R_bind e (fun k3 hk3 e => ?_)
      refine Rn_cv hc rfl rfl (by decide) (ii := xi_48) rfl rfl rfl (tgc_2 : Tg _ = 7) (by decide) rfl (le := [some (vR 2), some (vI a1), none, none, none, none, none]) rfl (v := some (vI k3)) (M' := M) (t_68 tgc_2 (d := d + 0) hk3 rfl) ?_
      show Rn rom (d + 2) 94 (21, [some (vR 1), some (vI a1)], [vI k3], (G0, M)) out
      cases e
      exact R_end (Rn_iret hc rfl rfl (xretI rfl rfl)) hK
    · refine Rn_icF hc rfl rfl (by decide) b2 ?_
      refine Rn_ms (σ' := (12, [some (vR 1), some (vI a1)], [vI (-1)], (G0, M))) hc 1 rfl ?_
      cases e
      exact R_end (Rn_iret hc rfl rfl (xretI rfl rfl)) hK
def f_125_L23b (M : xM) (v1 : Int) (v2 : Int) : Option ((Int × Int) ⊕ (Int)) :=
  if 99 < wr v2 then
    some (.inr ((-4)))
  else
    if wr v1 = 0 then
      some (.inr (v2))
    else
      some (.inl ((f_136 v1 (f_59 M 2 2)), (v2 + 1)))
theorem t_125_L23b {rom : xRom} {d : Nat} {v1 : Int} {v2 : Int} {M : xM} {r : (Int × Int) ⊕ (Int)} {out : Option xV × xH} (e : f_125_L23b M v1 v2 = some r) (hK : ((Sum.elim (fun s => Rn rom (d + 4) 95 (23, [some (vR 1), some (vI s.1), some (vI s.2)], [], (G0, M)) out) (eI M out))) r) : Rn rom (d + 4) 95 (23, [some (vR 1), some (vI v1), some (vI v2)], [], (G0, M)) out := by
  have hc : xkall.getD 95 [] = xk_95 := rfl
  unfold f_125_L23b at e
  refine Rn_ms (σ' := (26, [some (vR 1), some (vI v1), some (vI v2)], [vI 99, vI v2], (G0, M))) hc 2 rfl ?_
  refine R_ite e (fun b3 e => ?_) (fun b3 e => ?_)
  · refine Rn_icT (tgt := 54) hc rfl rfl (by decide) b3 ?_
    refine Rn_ms (σ' := (56, [some (vR 1), some (vI v1), some (vI v2)], [vI (-4)], (G0, M))) hc 1 rfl ?_
    cases e
    exact R_end (Rn_iret hc rfl rfl (xretI rfl rfl)) hK
  · refine Rn_icF hc rfl rfl (by decide) b3 ?_
    refine Rn_ms (σ' := (30, [some (vR 1), some (vI v1), some (vI v2)], [vI v1], (G0, M))) hc 1 rfl ?_
    refine R_ite e (fun b4 e => ?_) (fun b4 e => ?_)
    · refine Rn_ifF hc rfl rfl (by decide) (fun w => w b4) ?_
      refine Rn_ms (σ' := (34, [some (vR 1), some (vI v1), some (vI v2)], [vI v2], (G0, M))) hc 1 rfl ?_
      cases e
      exact R_end (Rn_iret hc rfl rfl (xretI rfl rfl)) hK
    · refine Rn_ifT (tgt := 35) hc rfl rfl (by decide) (fun w => b4 w) ?_
      refine Rn_ms (σ' := (37, [some (vR 1), some (vI v1), some (vI v2)], [vR 1, vI v1], (G0, M))) hc 2 rfl ?_
      refine Rn_getR hc rfl tgc_1 (by decide) rfl prc_1_0 ?_
      refine Rn_ms (σ' := (41, [some (vR 1), some (vI v1), some (vI v2)], [vI 2, vR 2, vI v1], (G0, M))) hc 1 rfl ?_
      refine Rn_cv hc rfl rfl (by decide) (ii := xi_39) rfl rfl rfl (tgc_2 : Tg _ = 7) (by decide) rfl (le := [some (vR 2), some (vI 2)]) rfl (v := some (vI (f_59 M 2 2))) (M' := M) (t_59 tgc_2 (d := d + 3) rfl rfl) ?_
      show Rn rom (d + 4) 95 (44, [some (vR 1), some (vI v1), some (vI v2)], [vI (f_59 M 2 2), vI v1], (G0, M)) out
      refine Rn_cs hc rfl rfl (by decide) (ii := xi_105) rfl rfl rfl (le := [some (vI v1), some (vI (f_59 M 2 2))]) rfl (v := some (vI (f_136 v1 (f_59 M 2 2)))) (M' := M) (t_136  (d := d + 3) rfl rfl) ?_
      refine Rn_ms (σ' := (23, [some (vR 1), some (vI (f_136 v1 (f_59 M 2 2))), some (vI (v2 + 1))], [], (G0, M))) hc 3 rfl ?_
      cases e
      exact Rn_weak (xle_s (xle_s (xle_s xle_0))) hK
def f_125_L23 (M : xM) (s : Int × Int) : Option (Int) := loop NF (fun s => f_125_L23b M s.1 s.2) s
theorem t_125_L23 {rom : xRom} {d : Nat}  {M : xM} {s : Int × Int} {r : Int} {out : Option xV × xH} (e : f_125_L23 M s = some r) (hK : (eI M out) r) : Rn rom (d + 4) 95 (23, [some (vR 1), some (vI s.1), some (vI s.2)], [], (G0, M)) out := by
  unfold f_125_L23 at e
  revert e hK
  exact R_loop (b := fun s => f_125_L23b M s.1 s.2) (G := fun s => Rn rom (d + 4) 95 (23, [some (vR 1), some (vI s.1), some (vI s.2)], [], (G0, M)) out) (K := eI M out) (fun s r e hK => t_125_L23b  e hK) NF s r
/-- PedalLayers.silentIn -/
def f_125 (M : xM) : Option (Int) :=
  if wr (M 2 5) = 0 then
    some (-2)
  else
    (f_67 M 2).bind (fun k2 =>
    f_125_L23 M (k2, 0)
    )
theorem t_125 {rom : xRom} {d : Nat} {M : xM}  {r : Int} {out : Option xV × xH} (e : f_125 M = some r) (hK : eI M out r) : Rn rom (d + 4) 95 (0, [some (vR 1), none, none], [], (G0, M)) out := by
  have hc : xkall.getD 95 [] = xk_95 := rfl
  unfold f_125 at e
  refine Rn_ms (σ' := (1, [some (vR 1), none, none], [vR 1], (G0, M))) hc 1 rfl ?_
  refine Rn_getR hc rfl tgc_1 (by decide) rfl prc_1_0 ?_
  show Rn rom (d + 4) 95 (4, [some (vR 1), none, none], [vR 2], (G0, M)) out
  refine Rn_getI hc rfl tgc_2 (by decide) (by decide) ?_
  show Rn rom (d + 4) 95 (7, [some (vR 1), none, none], [vI (M 2 5)], (G0, M)) out
  refine R_ite e (fun b1 e => ?_) (fun b1 e => ?_)
  · refine Rn_ifF hc rfl rfl (by decide) (fun w => w b1) ?_
    refine Rn_ms (σ' := (12, [some (vR 1), none, none], [vI (-2)], (G0, M))) hc 1 rfl ?_
    cases e
    exact R_end (Rn_iret hc rfl rfl (xretI rfl rfl)) hK
  · refine Rn_ifT (tgt := 13) hc rfl rfl (by decide) (fun w => b1 w) ?_
    refine Rn_ms (σ' := (14, [some (vR 1), none, none], [vR 1], (G0, M))) hc 1 rfl ?_
    refine Rn_getR hc rfl tgc_1 (by decide) rfl prc_1_0 ?_
    show Rn rom (d + 4) 95 (17, [some (vR 1), none, none], [vR 2], (G0, M)) out
    refine R_bind e (fun k2 hk2 e => ?_)
    refine Rn_cv hc rfl rfl (by decide) (ii := xi_47) rfl rfl rfl (tgc_2 : Tg _ = 7) (by decide) rfl (le := [some (vR 2), none, none, none]) rfl (v := some (vI k2)) (M' := M) (t_67 tgc_2 (d := d + 0) hk2 rfl) ?_
    refine Rn_ms (σ' := (23, [some (vR 1), some (vI k2), some (vI 0)], [], (G0, M))) hc 3 rfl ?_
    exact Rn_weak (xle_s (xle_s (xle_s xle_0))) (t_125_L23  e hK)
/-- PedalLayers.ifPeeled -/
def f_126 (M : xM) (a1 : Int) (a2 : Int) : Option (Int × xM) :=
  if wr a1 < 1 then
    some ((-1), M)
  else
    if wr a1 ≤ wr (M 2 5) then
      if wr a2 = 0 then
        (f_62 M 2 a1).bind (fun k4 =>
        some (k4, M)
        )
      else
      if wr a2 = 1 then
        (f_8 M 2 a1).bind (fun k6 =>
        some (k6.1, k6.2)
        )
      else
      if wr a2 = 2 then
        (f_9 M 2 a1).bind (fun k8 =>
        some (k8.1, k8.2)
        )
      else
      some ((-1), M)
    else
      some ((-1), M)
theorem t_126 {rom : xRom} {d : Nat} {M : xM} {a1 : Int} {a2 : Int} {r : Int × xM} {out : Option xV × xH} (e : f_126 M a1 a2 = some r) (hK : eIW out r) : Rn rom (d + 5) 96 (0, [some (vR 1), some (vI a1), some (vI a2)], [], (G0, M)) out := by
  have hc : xkall.getD 96 [] = xk_96 := rfl
  unfold f_126 at e
  refine Rn_ms (σ' := (2, [some (vR 1), some (vI a1), some (vI a2)], [vI 1, vI a1], (G0, M))) hc 2 rfl ?_
  refine R_ite e (fun b1 e => ?_) (fun b1 e => ?_)
  · refine Rn_icT (tgt := 16) hc rfl rfl (by decide) b1 ?_
    refine Rn_ms (σ' := (17, [some (vR 1), some (vI a1), some (vI a2)], [vI (-1)], (G0, M))) hc 1 rfl ?_
    cases e
    exact R_end (Rn_iret hc rfl rfl (xretI rfl rfl)) hK
  · refine Rn_icF hc rfl rfl (by decide) b1 ?_
    refine Rn_ms (σ' := (7, [some (vR 1), some (vI a1), some (vI a2)], [vR 1, vI a1], (G0, M))) hc 2 rfl ?_
    refine Rn_getR hc rfl tgc_1 (by decide) rfl prc_1_0 ?_
    show Rn rom (d + 5) 96 (10, [some (vR 1), some (vI a1), some (vI a2)], [vR 2, vI a1], (G0, M)) out
    refine Rn_getI hc rfl tgc_2 (by decide) (by decide) ?_
    show Rn rom (d + 5) 96 (13, [some (vR 1), some (vI a1), some (vI a2)], [vI (M 2 5), vI a1], (G0, M)) out
    refine R_ite e (fun b2 e => ?_) (fun b2 e => ?_)
    · refine Rn_icT (tgt := 18) hc rfl rfl (by decide) b2 ?_
      refine Rn_ms (σ' := (19, [some (vR 1), some (vI a1), some (vI a2)], [vI a2], (G0, M))) hc 1 rfl ?_
      refine R_ite e (fun b3 e => ?_) (fun b3 e => ?_)
      · refine Rn_tsw (off := 25) (tgt := 44) hc rfl rfl (xsw_at b3 (by decide) (by decide) (by decide) rfl) rfl ?_
        refine Rn_ms (σ' := (45, [some (vR 1), some (vI a1), some (vI a2)], [vR 1], (G0, M))) hc 1 rfl ?_
        refine Rn_getR hc rfl tgc_1 (by decide) rfl prc_1_0 ?_
        refine Rn_ms (σ' := (49, [some (vR 1), some (vI a1), some (vI a2)], [vI a1, vR 2], (G0, M))) hc 1 rfl ?_
        refine R_bind e (fun k4 hk4 e => ?_)
        refine Rn_cv hc rfl rfl (by decide) (ii := xi_42) rfl rfl rfl (tgc_2 : Tg _ = 7) (by decide) rfl (le := [some (vR 2), some (vI a1), none, none, none]) rfl (v := some (vI k4)) (M' := M) (t_62 tgc_2 (d := d + 3) hk4 rfl) ?_
        show Rn rom (d + 5) 96 (52, [some (vR 1), some (vI a1), some (vI a2)], [vI k4], (G0, M)) out
        cases e
        exact R_end (Rn_iret hc rfl rfl (xretI rfl rfl)) hK
      refine R_ite e (fun b5 e => ?_) (fun b5 e => ?_)
      · refine Rn_tsw (off := 34) (tgt := 53) hc rfl rfl (xsw_at b5 (by decide) (by decide) (by decide) rfl) rfl ?_
        refine Rn_ms (σ' := (54, [some (vR 1), some (vI a1), some (vI a2)], [vR 1], (G0, M))) hc 1 rfl ?_
        refine Rn_getR hc rfl tgc_1 (by decide) rfl prc_1_7 ?_
        refine Rn_ms (σ' := (58, [some (vR 1), some (vI a1), some (vI a2)], [vR 1, vR 177], (G0, M))) hc 1 rfl ?_
        refine Rn_getR hc rfl tgc_1 (by decide) rfl prc_1_0 ?_
        refine Rn_ms (σ' := (62, [some (vR 1), some (vI a1), some (vI a2)], [vI a1, vR 2, vR 177], (G0, M))) hc 1 rfl ?_
        refine R_bind e (fun k6 hk6 e => ?_)
        refine Rn_cv hc rfl rfl (by decide) (ii := xi_8) rfl rfl rfl (tgc_177 : Tg _ = 0) (by decide) rfl (le := [some (vR 177), some (vR 2), some (vI a1), none, none, none]) rfl (v := some (vI k6.1)) (M' := k6.2) (t_8 tgc_2 (d := d + 0) hk6 rfl) ?_
        show Rn rom (d + 5) 96 (65, [some (vR 1), some (vI a1), some (vI a2)], [vI k6.1], (G0, k6.2)) out
        cases e
        exact R_end (Rn_iret hc rfl rfl (xretI rfl rfl)) hK
      refine R_ite e (fun b7 e => ?_) (fun b7 e => ?_)
      · refine Rn_tsw (off := 47) (tgt := 66) hc rfl rfl (xsw_at b7 (by decide) (by decide) (by decide) rfl) rfl ?_
        refine Rn_ms (σ' := (67, [some (vR 1), some (vI a1), some (vI a2)], [vR 1], (G0, M))) hc 1 rfl ?_
        refine Rn_getR hc rfl tgc_1 (by decide) rfl prc_1_7 ?_
        refine Rn_ms (σ' := (71, [some (vR 1), some (vI a1), some (vI a2)], [vR 1, vR 177], (G0, M))) hc 1 rfl ?_
        refine Rn_getR hc rfl tgc_1 (by decide) rfl prc_1_0 ?_
        refine Rn_ms (σ' := (75, [some (vR 1), some (vI a1), some (vI a2)], [vI a1, vR 2, vR 177], (G0, M))) hc 1 rfl ?_
        refine R_bind e (fun k8 hk8 e => ?_)
        refine Rn_cv hc rfl rfl (by decide) (ii := xi_9) rfl rfl rfl (tgc_177 : Tg _ = 0) (by decide) rfl (le := [some (vR 177), some (vR 2), some (vI a1), none, none, none]) rfl (v := some (vI k8.1)) (M' := k8.2) (t_9 tgc_2 (d := d + 0) hk8 rfl) ?_
        show Rn rom (d + 5) 96 (78, [some (vR 1), some (vI a1), some (vI a2)], [vI k8.1], (G0, k8.2)) out
        cases e
        exact R_end (Rn_iret hc rfl rfl (xretI rfl rfl)) hK
      refine Rn_tsw (off := 60) (tgt := 79) hc rfl rfl (xsw_df (by omega)) rfl ?_
      refine Rn_ms (σ' := (80, [some (vR 1), some (vI a1), some (vI a2)], [vI (-1)], (G0, M))) hc 1 rfl ?_
      cases e
      exact R_end (Rn_iret hc rfl rfl (xretI rfl rfl)) hK
    · refine Rn_icF hc rfl rfl (by decide) b2 ?_
      refine Rn_ms (σ' := (17, [some (vR 1), some (vI a1), some (vI a2)], [vI (-1)], (G0, M))) hc 1 rfl ?_
      cases e
      exact R_end (Rn_iret hc rfl rfl (xretI rfl rfl)) hK
/-- PedalLayers.undo -/
def f_127 (M : xM) : Option (Int × xM) :=
  bnd (f_25 M) (fun k1 =>
  if k1.1 = 0 then
    some ((-2), k1.2)
  else
    gd (Tg k1.1 = 7) (
    (f_55 k1.2 2 k1.1).bind (fun k4 =>
    some ((f_21 k4), k4)
    ))
  )
theorem t_127 {rom : xRom} {d : Nat} {M : xM}  {r : Int × xM} {out : Option xV × xH} (e : f_127 M = some r) (hK : eIW out r) : Rn rom (d + 5) 97 (0, [some (vR 1), none], [], (G0, M)) out := by
  have hc : xkall.getD 97 [] = xk_97 := rfl
  unfold f_127 at e
  refine Rn_ms (σ' := (1, [some (vR 1), none], [vR 1], (G0, M))) hc 1 rfl ?_
  refine Rn_getR hc rfl tgc_1 (by decide) rfl prc_1_2 ?_
  show Rn rom (d + 5) 97 (4, [some (vR 1), none], [vR 50], (G0, M)) out
  refine R_bnd e (fun k1 hk1 e => ?_)
  refine Rn_cv hc rfl rfl (by decide) (ii := xi_17) rfl rfl rfl (tgc_50 : Tg _ = 2) (by decide) rfl (le := [some (vR 50)]) rfl (v := some (vR k1.1)) (M' := k1.2) (t_25  (d := d + 2) hk1.symm rfl) ?_
  refine Rn_ms (σ' := (9, [some (vR 1), some (vR k1.1)], [vR k1.1], (G0, k1.2))) hc 2 rfl ?_
  refine R_ite e (fun b2 e => ?_) (fun b2 e => ?_)
  · refine Rn_nnF hc rfl rfl (by decide) b2 ?_
    refine Rn_ms (σ' := (14, [some (vR 1), some (vR k1.1)], [vI (-2)], (G0, k1.2))) hc 1 rfl ?_
    cases e
    exact R_end (Rn_iret hc rfl rfl (xretI rfl rfl)) hK
  · refine Rn_nnT (tgt := 15) hc rfl rfl (by decide) b2 ?_
    refine Rn_ms (σ' := (16, [some (vR 1), some (vR k1.1)], [vR 1], (G0, k1.2))) hc 1 rfl ?_
    refine Rn_getR hc rfl tgc_1 (by decide) rfl prc_1_0 ?_
    refine Rn_ms (σ' := (20, [some (vR 1), some (vR k1.1)], [vR k1.1, vR 2], (G0, k1.2))) hc 1 rfl ?_
    refine R_gd e (fun g3 e => ?_)
    refine R_bind e (fun k4 hk4 e => ?_)
    refine Rn_cv hc rfl rfl (by decide) (ii := xi_35) rfl rfl rfl (tgc_2 : Tg _ = 7) (by decide) rfl (le := [some (vR 2), some (vR k1.1), none]) rfl (v := none) (M' := k4) (t_55 tgc_2 g3 (d := d + 0) hk4 rfl) ?_
    refine Rn_ms (σ' := (24, [some (vR 1), some (vR k1.1)], [vR 1], (G0, k4))) hc 1 rfl ?_
    refine Rn_getR hc rfl tgc_1 (by decide) rfl prc_1_2 ?_
    show Rn rom (d + 5) 97 (27, [some (vR 1), some (vR k1.1)], [vR 50], (G0, k4)) out
    refine Rn_cv hc rfl rfl (by decide) (ii := xi_13) rfl rfl rfl (tgc_50 : Tg _ = 2) (by decide) rfl (le := [some (vR 50)]) rfl (v := some (vI (f_21 k4))) (M' := k4) (t_21  (d := d + 4) rfl rfl) ?_
    show Rn rom (d + 5) 97 (30, [some (vR 1), some (vR k1.1)], [vI (f_21 k4)], (G0, k4)) out
    cases e
    exact R_end (Rn_iret hc rfl rfl (xretI rfl rfl)) hK
/-- PedalLayers.save -/
def f_128 (M : xM) : Option (Int × xM) :=
  (f_55 M 26 2).bind (fun k1 =>
  bnd (xset k1 1 8 1) (fun M2 =>
  some ((M2 2 4), M2)
  ))
theorem t_128 {rom : xRom} {d : Nat} {M : xM}  {r : Int × xM} {out : Option xV × xH} (e : f_128 M = some r) (hK : eIW out r) : Rn rom (d + 5) 98 (0, [some (vR 1)], [], (G0, M)) out := by
  have hc : xkall.getD 98 [] = xk_98 := rfl
  unfold f_128 at e
  refine Rn_ms (σ' := (1, [some (vR 1)], [vR 1], (G0, M))) hc 1 rfl ?_
  refine Rn_getR hc rfl tgc_1 (by decide) rfl prc_1_1 ?_
  refine Rn_ms (σ' := (5, [some (vR 1)], [vR 1, vR 26], (G0, M))) hc 1 rfl ?_
  refine Rn_getR hc rfl tgc_1 (by decide) rfl prc_1_0 ?_
  show Rn rom (d + 5) 98 (8, [some (vR 1)], [vR 2, vR 26], (G0, M)) out
  refine R_bind e (fun k1 hk1 e => ?_)
  refine Rn_cv hc rfl rfl (by decide) (ii := xi_35) rfl rfl rfl (tgc_26 : Tg _ = 7) (by decide) rfl (le := [some (vR 26), some (vR 2), none]) rfl (v := none) (M' := k1) (t_55 tgc_26 tgc_2 (d := d + 0) hk1 rfl) ?_
  refine Rn_ms (σ' := (13, [some (vR 1)], [vI 1, vR 1], (G0, k1))) hc 2 rfl ?_
  refine R_bnd e (fun M2 hM2 e => ?_)
  refine Rn_putI' hM2 hc rfl tgc_1 (by decide) (Or.inr ⟨rfl, by decide⟩) ?_
  refine Rn_ms (σ' := (17, [some (vR 1)], [vR 1], (G0, M2))) hc 1 rfl ?_
  refine Rn_getR hc rfl tgc_1 (by decide) rfl prc_1_0 ?_
  show Rn rom (d + 5) 98 (20, [some (vR 1)], [vR 2], (G0, M2)) out
  refine Rn_getI hc rfl tgc_2 (by decide) (by decide) ?_
  show Rn rom (d + 5) 98 (23, [some (vR 1)], [vI (M2 2 4)], (G0, M2)) out
  cases e
  exact R_end (Rn_iret hc rfl rfl (xretI rfl rfl)) hK
/-- PedalLayers.restore -/
def f_129 (M : xM) : Option (Int × xM) :=
  if wr (M 1 8) = 0 then
    some ((-2), M)
  else
    (f_23 M 2).bind (fun k2 =>
    (f_55 k2 2 26).bind (fun k3 =>
    bnd (f_130 k3 (k3 2 4)) (fun k4 =>
    some (k4.1, k4.2)
    )))
theorem t_129 {rom : xRom} {d : Nat} {M : xM}  {r : Int × xM} {out : Option xV × xH} (e : f_129 M = some r) (hK : eIW out r) : Rn rom (d + 6) 99 (0, [some (vR 1)], [], (G0, M)) out := by
  have hc : xkall.getD 99 [] = xk_99 := rfl
  unfold f_129 at e
  refine Rn_ms (σ' := (1, [some (vR 1)], [vR 1], (G0, M))) hc 1 rfl ?_
  refine Rn_getI hc rfl tgc_1 (by decide) (by decide) ?_
  show Rn rom (d + 6) 99 (4, [some (vR 1)], [vI (M 1 8)], (G0, M)) out
  refine R_ite e (fun b1 e => ?_) (fun b1 e => ?_)
  · refine Rn_ifF hc rfl rfl (by decide) (fun w => w b1) ?_
    refine Rn_ms (σ' := (9, [some (vR 1)], [vI (-2)], (G0, M))) hc 1 rfl ?_
    cases e
    exact R_end (Rn_iret hc rfl rfl (xretI rfl rfl)) hK
  · refine Rn_ifT (tgt := 10) hc rfl rfl (by decide) (fun w => b1 w) ?_
    refine Rn_ms (σ' := (11, [some (vR 1)], [vR 1], (G0, M))) hc 1 rfl ?_
    refine Rn_getR hc rfl tgc_1 (by decide) rfl prc_1_2 ?_
    refine Rn_ms (σ' := (15, [some (vR 1)], [vR 1, vR 50], (G0, M))) hc 1 rfl ?_
    refine Rn_getR hc rfl tgc_1 (by decide) rfl prc_1_0 ?_
    show Rn rom (d + 6) 99 (18, [some (vR 1)], [vR 2, vR 50], (G0, M)) out
    refine R_bind e (fun k2 hk2 e => ?_)
    refine Rn_cv hc rfl rfl (by decide) (ii := xi_15) rfl rfl rfl (tgc_50 : Tg _ = 2) (by decide) rfl (le := [some (vR 50), some (vR 2), none]) rfl (v := none) (M' := k2) (t_23 tgc_2 (d := d + 0) hk2 rfl) ?_
    refine Rn_ms (σ' := (22, [some (vR 1)], [vR 1], (G0, k2))) hc 1 rfl ?_
    refine Rn_getR hc rfl tgc_1 (by decide) rfl prc_1_0 ?_
    refine Rn_ms (σ' := (26, [some (vR 1)], [vR 1, vR 2], (G0, k2))) hc 1 rfl ?_
    refine Rn_getR hc rfl tgc_1 (by decide) rfl prc_1_1 ?_
    show Rn rom (d + 6) 99 (29, [some (vR 1)], [vR 26, vR 2], (G0, k2)) out
    refine R_bind e (fun k3 hk3 e => ?_)
    refine Rn_cv hc rfl rfl (by decide) (ii := xi_35) rfl rfl rfl (tgc_2 : Tg _ = 7) (by decide) rfl (le := [some (vR 2), some (vR 26), none]) rfl (v := none) (M' := k3) (t_55 tgc_2 tgc_26 (d := d + 1) hk3 rfl) ?_
    refine Rn_ms (σ' := (34, [some (vR 1)], [vR 1, vR 1], (G0, k3))) hc 2 rfl ?_
    refine Rn_getR hc rfl tgc_1 (by decide) rfl prc_1_0 ?_
    show Rn rom (d + 6) 99 (37, [some (vR 1)], [vR 2, vR 1], (G0, k3)) out
    refine Rn_getI hc rfl tgc_2 (by decide) (by decide) ?_
    show Rn rom (d + 6) 99 (40, [some (vR 1)], [vI (k3 2 4), vR 1], (G0, k3)) out
    refine R_bnd e (fun k4 hk4 e => ?_)
    refine Rn_cv hc rfl rfl (by decide) (ii := xi_100) rfl rfl rfl (tgc_1 : Tg _ = 10) (by decide) rfl (le := [some (vR 1), some (vI (k3 2 4))]) rfl (v := some (vI k4.1)) (M' := k4.2) (t_130  (d := d + 3) hk4.symm rfl) ?_
    show Rn rom (d + 6) 99 (43, [some (vR 1)], [vI k4.1], (G0, k4.2)) out
    cases e
    exact R_end (Rn_iret hc rfl rfl (xretI rfl rfl)) hK
/-- PedalLayersLaw.cell -/
def f_301 (rom : xRom) (M : xM) (a1 : Int) : Option (Int) :=
  if wr ((rom 2).1 : Int) ≤ wr a1 then
    some ((7919 * (a1 + 3)) * (a1 + 11))
  else
    gd (0 ≤ wr a1 ∧ wr a1 < (rom 2).1) (
    some ((rom 2).2 (wr a1).toNat)
    )
set_option maxRecDepth 100000 in
set_option maxHeartbeats 4000000 in
theorem t_301 {rom : xRom} {d : Nat} {M : xM} {a1 : Int} {r : Int} {out : Option xV × xH} (e : f_301 rom M a1 = some r) (hK : eI M out r) : Rn rom (d + 0) 106 (0, [some (vS 2), some (vI a1)], [], (G0, M)) out := by
  have hc : xkall.getD 106 [] = xk_106 := rfl
  unfold f_301 at e
  refine Rn_ms (σ' := (2, [some (vS 2), some (vI a1)], [vS 2, vI a1], (G0, M))) hc 2 rfl ?_
  refine Rn_romlen hc rfl rfl (by decide) ?_
  show Rn rom (d + 0) 106 (3, [some (vS 2), some (vI a1)], [vI ((rom 2).1 : Int), vI a1], (G0, M)) out
  refine R_ite e (fun b1 e => ?_) (fun b1 e => ?_)
  · refine Rn_icT (tgt := 12) hc rfl rfl (by decide) b1 ?_
    refine Rn_ms (σ' := (19, [some (vS 2), some (vI a1)], [vI (7919 * (a1 + 3))], (G0, M))) hc 5 rfl ?_
    refine Rn_ms (σ' := (24, [some (vS 2), some (vI a1)], [vI ((7919 * (a1 + 3)) * (a1 + 11))], (G0, M))) hc 4 rfl ?_
    cases e
    exact R_end (Rn_iret hc rfl rfl (xretI rfl rfl)) hK
  · refine Rn_icF hc rfl rfl (by decide) b1 ?_
    refine Rn_ms (σ' := (8, [some (vS 2), some (vI a1)], [vI a1, vS 2], (G0, M))) hc 2 rfl ?_
    refine R_gd e (fun g2 e => ?_)
    refine Rn_romld hc rfl rfl (by decide) g2 rfl ?_
    refine Rn_ms (σ' := (24, [some (vS 2), some (vI a1)], [vI ((rom 2).2 (wr a1).toNat)], (G0, M))) hc 1 rfl ?_
    cases e
    exact R_end (Rn_iret hc rfl rfl (xretI rfl rfl)) hK
/-- PedalLayersLaw.low -/
def f_302 (a0 : Int) (a1 : Int) : Option (Int) :=
  gd ((wr a1) ≠ 0) (
  some ((wr (xand a0 2147483647)).tmod (wr a1))
  )
set_option maxRecDepth 100000 in
set_option maxHeartbeats 4000000 in
theorem t_302 {rom : xRom} {d : Nat} {M : xM} {a0 : Int} {a1 : Int} {r : Int} {out : Option xV × xH} (e : f_302 a0 a1 = some r) (hK : eI M out r) : Rn rom (d + 0) 107 (0, [some (vI a0), some (vI a1)], [], (G0, M)) out := by
  have hc : xkall.getD 107 [] = xk_107 := rfl
  unfold f_302 at e
  refine Rn_ms (σ' := (5, [some (vI a0), some (vI a1)], [vI a1, vI (xand a0 2147483647)], (G0, M))) hc 4 rfl ?_
  refine R_gd e (fun g1 e => ?_)
  refine Rn_rem hc rfl ⟨rfl, rfl⟩ (z' := (wr a1)) rfl g1 ?_
  show Rn rom (d + 0) 107 (6, [some (vI a0), some (vI a1)], [vI ((wr (xand a0 2147483647)).tmod (wr a1))], (G0, M)) out
  cases e
  exact R_end (Rn_iret hc rfl rfl (xretI rfl rfl)) hK
def f_303_L97 (M : xM) (c1 : Int) (c2 : Int) (c4 : Int) (c5 : Int) (c6 : Int) (c7 : Int) (s0 : Int) (s1 : Int) : Option ((Int × Int × Int × Int) ⊕ (Int)) :=
  if wr c7 ≤ wr c5 then
    some (.inl ((s0 + s1), (c4 + c7), c5, (c6 + 1)))
  else
    some (.inl ((s0 + s1), (c4 + c7), c7, (c6 + 1)))
set_option maxRecDepth 100000 in
set_option maxHeartbeats 4000000 in
theorem t_303_L97 {rom : xRom} {d : Nat} {c1 : Int} {c2 : Int} {c4 : Int} {c5 : Int} {c6 : Int} {c7 : Int} {s0 : Int} {s1 : Int} {M : xM} {r : (Int × Int × Int × Int) ⊕ (Int)} {out : Option xV × xH} (e : f_303_L97 M c1 c2 c4 c5 c6 c7 s0 s1 = some r) (hK : ((Sum.elim (fun s => Rn rom (d + 4) 108 (46, [some (vR 1), some (vI c1), some (vI c2), some (vI s.1), some (vI s.2.1), some (vI s.2.2.1), some (vI s.2.2.2), none], [], (G0, M)) out) (eI M out))) r) : Rn rom (d + 4) 108 (97, [some (vR 1), some (vI c1), some (vI c2), none, some (vI c4), some (vI c5), some (vI c6), some (vI c7)], [vI s1, vI s0], (G0, M)) out := by
  have hc : xkall.getD 108 [] = xk_108 := rfl
  unfold f_303_L97 at e
  refine Rn_ms (σ' := (104, [some (vR 1), some (vI c1), some (vI c2), some (vI (s0 + s1)), some (vI c4), some (vI c5), some (vI c6), some (vI c7)], [vI (c4 + c7)], (G0, M))) hc 5 rfl ?_
  refine Rn_ms (σ' := (110, [some (vR 1), some (vI c1), some (vI c2), some (vI (s0 + s1)), some (vI (c4 + c7)), some (vI c5), some (vI c6), some (vI c7)], [vI c5, vI c7], (G0, M))) hc 3 rfl ?_
  refine R_ite e (fun b20 e => ?_) (fun b20 e => ?_)
  · refine Rn_icT (tgt := 118) hc rfl rfl (by decide) b20 ?_
    refine Rn_ms (σ' := (46, [some (vR 1), some (vI c1), some (vI c2), some (vI (s0 + s1)), some (vI (c4 + c7)), some (vI c5), some (vI (c6 + 1)), some (vI c7)], [], (G0, M))) hc 4 rfl ?_
    cases e
    exact Rn_weak (xle_s (xle_s (xle_s (xle_s (xle_s (xle_s (xle_s (xle_n xle_0)))))))) hK
  · refine Rn_icF hc rfl rfl (by decide) b20 ?_
    refine Rn_ms (σ' := (46, [some (vR 1), some (vI c1), some (vI c2), some (vI (s0 + s1)), some (vI (c4 + c7)), some (vI c7), some (vI (c6 + 1)), some (vI c7)], [], (G0, M))) hc 5 rfl ?_
    cases e
    exact Rn_weak (xle_s (xle_s (xle_s (xle_s (xle_s (xle_s (xle_s (xle_n xle_0)))))))) hK
def f_303_L46b (M : xM) (c1 : Int) (c2 : Int) (v3 : Int) (v4 : Int) (v5 : Int) (v6 : Int) : Option ((Int × Int × Int × Int) ⊕ (Int)) :=
  if wr (c2 * 36) ≤ wr v6 then
    (f_112 M c1 1).bind (fun k6 =>
    if wr k6 = wr v3 then
      (f_112 M c1 2).bind (fun k8 =>
      if wr k8 = wr v4 then
        (f_112 M c1 3).bind (fun k10 =>
        if wr k10 = wr v5 then
          (f_112 M c1 5).bind (fun k12 =>
          if wr k12 < 0 then
            some (.inr (0))
          else
            (f_113 M c1 c2 0).bind (fun k14 =>
            if wr k14 = (-1) then
              some (.inr (1))
            else
              some (.inr (0))
            )
          )
        else
          some (.inr (0))
        )
      else
        some (.inr (0))
      )
    else
      some (.inr (0))
    )
  else
    (f_113 M c1 ((wr v6).tdiv 36) ((wr v6).tmod 36)).bind (fun k16 =>
    if wr k16 < 0 then
      some (.inr (0))
    else
      if wr k16 ≤ 99 then
        if wr k16 ≤ 0 then
          f_303_L97 M c1 c2 v4 v5 v6 k16 v3 0
        else
          f_303_L97 M c1 c2 v4 v5 v6 k16 v3 1
      else
        some (.inr (0))
    )
set_option maxRecDepth 100000 in
set_option maxHeartbeats 4000000 in
theorem t_303_L46b {rom : xRom} {d : Nat} {c1 : Int} {c2 : Int} {v3 : Int} {v4 : Int} {v5 : Int} {v6 : Int} {M : xM} {r : (Int × Int × Int × Int) ⊕ (Int)} {out : Option xV × xH} (e : f_303_L46b M c1 c2 v3 v4 v5 v6 = some r) (hK : ((Sum.elim (fun s => Rn rom (d + 4) 108 (46, [some (vR 1), some (vI c1), some (vI c2), some (vI s.1), some (vI s.2.1), some (vI s.2.2.1), some (vI s.2.2.2), none], [], (G0, M)) out) (eI M out))) r) : Rn rom (d + 4) 108 (46, [some (vR 1), some (vI c1), some (vI c2), some (vI v3), some (vI v4), some (vI v5), some (vI v6), none], [], (G0, M)) out := by
  have hc : xkall.getD 108 [] = xk_108 := rfl
  unfold f_303_L46b at e
  refine Rn_ms (σ' := (52, [some (vR 1), some (vI c1), some (vI c2), some (vI v3), some (vI v4), some (vI v5), some (vI v6), none], [vI (c2 * 36), vI v6], (G0, M))) hc 4 rfl ?_
  refine R_ite e (fun b5 e => ?_) (fun b5 e => ?_)
  · refine Rn_icT (tgt := 128) hc rfl rfl (by decide) b5 ?_
    refine Rn_ms (σ' := (131, [some (vR 1), some (vI c1), some (vI c2), some (vI v3), some (vI v4), some (vI v5), some (vI v6), none], [vI 1, vI c1, vR 1], (G0, M))) hc 3 rfl ?_
    refine R_bind e (fun k6 hk6 e => ?_)
    refine Rn_cv hc rfl rfl (by decide) (ii := xi_84) rfl rfl rfl (tgc_1 : Tg _ = 10) (by decide) rfl (le := [some (vR 1), some (vI c1), some (vI 1), none]) rfl (v := some (vI k6)) (M' := M) (t_112  (d := d + 0) hk6 rfl) ?_
    refine Rn_ms (σ' := (135, [some (vR 1), some (vI c1), some (vI c2), some (vI v3), some (vI v4), some (vI v5), some (vI v6), none], [vI v3, vI k6], (G0, M))) hc 1 rfl ?_
    refine R_ite e (fun b7 e => ?_) (fun b7 e => ?_)
    · refine Rn_icF hc rfl rfl (by decide) (fun w => w b7) ?_
      refine Rn_ms (σ' := (141, [some (vR 1), some (vI c1), some (vI c2), some (vI v3), some (vI v4), some (vI v5), some (vI v6), none], [vI 2, vI c1, vR 1], (G0, M))) hc 3 rfl ?_
      refine R_bind e (fun k8 hk8 e => ?_)
      refine Rn_cv hc rfl rfl (by decide) (ii := xi_84) rfl rfl rfl (tgc_1 : Tg _ = 10) (by decide) rfl (le := [some (vR 1), some (vI c1), some (vI 2), none]) rfl (v := some (vI k8)) (M' := M) (t_112  (d := d + 0) hk8 rfl) ?_
      refine Rn_ms (σ' := (146, [some (vR 1), some (vI c1), some (vI c2), some (vI v3), some (vI v4), some (vI v5), some (vI v6), none], [vI v4, vI k8], (G0, M))) hc 1 rfl ?_
      refine R_ite e (fun b9 e => ?_) (fun b9 e => ?_)
      · refine Rn_icF hc rfl rfl (by decide) (fun w => w b9) ?_
        refine Rn_ms (σ' := (152, [some (vR 1), some (vI c1), some (vI c2), some (vI v3), some (vI v4), some (vI v5), some (vI v6), none], [vI 3, vI c1, vR 1], (G0, M))) hc 3 rfl ?_
        refine R_bind e (fun k10 hk10 e => ?_)
        refine Rn_cv hc rfl rfl (by decide) (ii := xi_84) rfl rfl rfl (tgc_1 : Tg _ = 10) (by decide) rfl (le := [some (vR 1), some (vI c1), some (vI 3), none]) rfl (v := some (vI k10)) (M' := M) (t_112  (d := d + 0) hk10 rfl) ?_
        refine Rn_ms (σ' := (157, [some (vR 1), some (vI c1), some (vI c2), some (vI v3), some (vI v4), some (vI v5), some (vI v6), none], [vI v5, vI k10], (G0, M))) hc 1 rfl ?_
        refine R_ite e (fun b11 e => ?_) (fun b11 e => ?_)
        · refine Rn_icF hc rfl rfl (by decide) (fun w => w b11) ?_
          refine Rn_ms (σ' := (163, [some (vR 1), some (vI c1), some (vI c2), some (vI v3), some (vI v4), some (vI v5), some (vI v6), none], [vI 5, vI c1, vR 1], (G0, M))) hc 3 rfl ?_
          refine R_bind e (fun k12 hk12 e => ?_)
          refine Rn_cv hc rfl rfl (by decide) (ii := xi_84) rfl rfl rfl (tgc_1 : Tg _ = 10) (by decide) rfl (le := [some (vR 1), some (vI c1), some (vI 5), none]) rfl (v := some (vI k12)) (M' := M) (t_112  (d := d + 0) hk12 rfl) ?_
          show Rn rom (d + 4) 108 (166, [some (vR 1), some (vI c1), some (vI c2), some (vI v3), some (vI v4), some (vI v5), some (vI v6), none], [vI k12], (G0, M)) out
          refine R_ite e (fun b13 e => ?_) (fun b13 e => ?_)
          · refine Rn_ifT (tgt := 184) hc rfl rfl (by decide) b13 ?_
            refine Rn_ms (σ' := (185, [some (vR 1), some (vI c1), some (vI c2), some (vI v3), some (vI v4), some (vI v5), some (vI v6), none], [vI 0], (G0, M))) hc 1 rfl ?_
            cases e
            exact R_end (Rn_iret hc rfl rfl (xretB rfl rfl (by decide))) hK
          · refine Rn_ifF hc rfl rfl (by decide) b13 ?_
            refine Rn_ms (σ' := (173, [some (vR 1), some (vI c1), some (vI c2), some (vI v3), some (vI v4), some (vI v5), some (vI v6), none], [vI 0, vI c2, vI c1, vR 1], (G0, M))) hc 4 rfl ?_
            refine R_bind e (fun k14 hk14 e => ?_)
            refine Rn_cv hc rfl rfl (by decide) (ii := xi_85) rfl rfl rfl (tgc_1 : Tg _ = 10) (by decide) rfl (le := [some (vR 1), some (vI c1), some (vI c2), some (vI 0), none]) rfl (v := some (vI k14)) (M' := M) (t_113  (d := d + 1) hk14 rfl) ?_
            refine Rn_ms (σ' := (177, [some (vR 1), some (vI c1), some (vI c2), some (vI v3), some (vI v4), some (vI v5), some (vI v6), none], [vI (-1), vI k14], (G0, M))) hc 1 rfl ?_
            refine R_ite e (fun b15 e => ?_) (fun b15 e => ?_)
            · refine Rn_icF hc rfl rfl (by decide) (fun w => w b15) ?_
              refine Rn_ms (σ' := (185, [some (vR 1), some (vI c1), some (vI c2), some (vI v3), some (vI v4), some (vI v5), some (vI v6), none], [vI 1], (G0, M))) hc 2 rfl ?_
              cases e
              exact R_end (Rn_iret hc rfl rfl (xretB rfl rfl (by decide))) hK
            · refine Rn_icT (tgt := 184) hc rfl rfl (by decide) (fun w => b15 w) ?_
              refine Rn_ms (σ' := (185, [some (vR 1), some (vI c1), some (vI c2), some (vI v3), some (vI v4), some (vI v5), some (vI v6), none], [vI 0], (G0, M))) hc 1 rfl ?_
              cases e
              exact R_end (Rn_iret hc rfl rfl (xretB rfl rfl (by decide))) hK
        · refine Rn_icT (tgt := 184) hc rfl rfl (by decide) (fun w => b11 w) ?_
          refine Rn_ms (σ' := (185, [some (vR 1), some (vI c1), some (vI c2), some (vI v3), some (vI v4), some (vI v5), some (vI v6), none], [vI 0], (G0, M))) hc 1 rfl ?_
          cases e
          exact R_end (Rn_iret hc rfl rfl (xretB rfl rfl (by decide))) hK
      · refine Rn_icT (tgt := 184) hc rfl rfl (by decide) (fun w => b9 w) ?_
        refine Rn_ms (σ' := (185, [some (vR 1), some (vI c1), some (vI c2), some (vI v3), some (vI v4), some (vI v5), some (vI v6), none], [vI 0], (G0, M))) hc 1 rfl ?_
        cases e
        exact R_end (Rn_iret hc rfl rfl (xretB rfl rfl (by decide))) hK
    · refine Rn_icT (tgt := 184) hc rfl rfl (by decide) (fun w => b7 w) ?_
      refine Rn_ms (σ' := (185, [some (vR 1), some (vI c1), some (vI c2), some (vI v3), some (vI v4), some (vI v5), some (vI v6), none], [vI 0], (G0, M))) hc 1 rfl ?_
      cases e
      exact R_end (Rn_iret hc rfl rfl (xretB rfl rfl (by decide))) hK
  · refine Rn_icF hc rfl rfl (by decide) b5 ?_
    refine Rn_ms (σ' := (61, [some (vR 1), some (vI c1), some (vI c2), some (vI v3), some (vI v4), some (vI v5), some (vI v6), none], [vI 36, vI v6, vI c1, vR 1], (G0, M))) hc 4 rfl ?_
    refine Rn_div hc rfl ⟨rfl, rfl⟩ (z' := 36) (by decide) (by decide) ?_
    refine Rn_ms (σ' := (66, [some (vR 1), some (vI c1), some (vI c2), some (vI v3), some (vI v4), some (vI v5), some (vI v6), none], [vI 36, vI v6, vI ((wr v6).tdiv 36), vI c1, vR 1], (G0, M))) hc 2 rfl ?_
    refine Rn_rem hc rfl ⟨rfl, rfl⟩ (z' := 36) (by decide) (by decide) ?_
    show Rn rom (d + 4) 108 (67, [some (vR 1), some (vI c1), some (vI c2), some (vI v3), some (vI v4), some (vI v5), some (vI v6), none], [vI ((wr v6).tmod 36), vI ((wr v6).tdiv 36), vI c1, vR 1], (G0, M)) out
    refine R_bind e (fun k16 hk16 e => ?_)
    refine Rn_cv hc rfl rfl (by decide) (ii := xi_85) rfl rfl rfl (tgc_1 : Tg _ = 10) (by decide) rfl (le := [some (vR 1), some (vI c1), some (vI ((wr v6).tdiv 36)), some (vI ((wr v6).tmod 36)), none]) rfl (v := some (vI k16)) (M' := M) (t_113  (d := d + 1) hk16 rfl) ?_
    refine Rn_ms (σ' := (74, [some (vR 1), some (vI c1), some (vI c2), some (vI v3), some (vI v4), some (vI v5), some (vI v6), some (vI k16)], [vI k16], (G0, M))) hc 2 rfl ?_
    refine R_ite e (fun b17 e => ?_) (fun b17 e => ?_)
    · refine Rn_ifT (tgt := 84) hc rfl rfl (by decide) b17 ?_
      refine Rn_ms (σ' := (85, [some (vR 1), some (vI c1), some (vI c2), some (vI v3), some (vI v4), some (vI v5), some (vI v6), some (vI k16)], [vI 0], (G0, M))) hc 1 rfl ?_
      cases e
      exact R_end (Rn_iret hc rfl rfl (xretB rfl rfl (by decide))) hK
    · refine Rn_ifF hc rfl rfl (by decide) b17 ?_
      refine Rn_ms (σ' := (81, [some (vR 1), some (vI c1), some (vI c2), some (vI v3), some (vI v4), some (vI v5), some (vI v6), some (vI k16)], [vI 99, vI k16], (G0, M))) hc 2 rfl ?_
      refine R_ite e (fun b18 e => ?_) (fun b18 e => ?_)
      · refine Rn_icT (tgt := 86) hc rfl rfl (by decide) b18 ?_
        refine Rn_ms (σ' := (89, [some (vR 1), some (vI c1), some (vI c2), some (vI v3), some (vI v4), some (vI v5), some (vI v6), some (vI k16)], [vI k16, vI v3], (G0, M))) hc 2 rfl ?_
        refine R_ite e (fun b19 e => ?_) (fun b19 e => ?_)
        · refine Rn_ifT (tgt := 96) hc rfl rfl (by decide) b19 ?_
          refine Rn_ms (σ' := (97, [some (vR 1), some (vI c1), some (vI c2), some (vI v3), some (vI v4), some (vI v5), some (vI v6), some (vI k16)], [vI 0, vI v3], (G0, M))) hc 1 rfl ?_
          exact Rn_weak (xle_s (xle_s (xle_s (xle_n (xle_s (xle_s (xle_s (xle_s xle_0)))))))) (t_303_L97  e hK)
        · refine Rn_ifF hc rfl rfl (by decide) b19 ?_
          refine Rn_ms (σ' := (97, [some (vR 1), some (vI c1), some (vI c2), some (vI v3), some (vI v4), some (vI v5), some (vI v6), some (vI k16)], [vI 1, vI v3], (G0, M))) hc 2 rfl ?_
          exact Rn_weak (xle_s (xle_s (xle_s (xle_n (xle_s (xle_s (xle_s (xle_s xle_0)))))))) (t_303_L97  e hK)
      · refine Rn_icF hc rfl rfl (by decide) b18 ?_
        refine Rn_ms (σ' := (85, [some (vR 1), some (vI c1), some (vI c2), some (vI v3), some (vI v4), some (vI v5), some (vI v6), some (vI k16)], [vI 0], (G0, M))) hc 1 rfl ?_
        cases e
        exact R_end (Rn_iret hc rfl rfl (xretB rfl rfl (by decide))) hK
def f_303_L46 (M : xM) (c1 : Int) (c2 : Int) (s : Int × Int × Int × Int) : Option (Int) := loop NF (fun s => f_303_L46b M c1 c2 s.1 s.2.1 s.2.2.1 s.2.2.2) s
set_option maxRecDepth 100000 in
set_option maxHeartbeats 4000000 in
theorem t_303_L46 {rom : xRom} {d : Nat} {c1 : Int} {c2 : Int} {M : xM} {s : Int × Int × Int × Int} {r : Int} {out : Option xV × xH} (e : f_303_L46 M c1 c2 s = some r) (hK : (eI M out) r) : Rn rom (d + 4) 108 (46, [some (vR 1), some (vI c1), some (vI c2), some (vI s.1), some (vI s.2.1), some (vI s.2.2.1), some (vI s.2.2.2), none], [], (G0, M)) out := by
  unfold f_303_L46 at e
  revert e hK
  exact R_loop (b := fun s => f_303_L46b M c1 c2 s.1 s.2.1 s.2.2.1 s.2.2.2) (G := fun s => Rn rom (d + 4) 108 (46, [some (vR 1), some (vI c1), some (vI c2), some (vI s.1), some (vI s.2.1), some (vI s.2.2.1), some (vI s.2.2.2), none], [], (G0, M)) out) (K := eI M out) (fun s r e hK => t_303_L46b  e hK) NF s r
/-- PedalLayersLaw.isLayer -/
def f_303 (M : xM) (a1 : Int) : Option (Int) :=
  (f_112 M a1 0).bind (fun k1 =>
  (f_119 M 2).bind (fun k2 =>
  if wr k1 = wr k2 then
    if wr k1 ≤ 48 then
      f_303_L46 M a1 k1 (0, 0, 0, 0)
    else
      some (0)
  else
    (f_119 M 2).bind (fun k21 =>
    if wr k1 = wr (2 * k21) then
      if wr k1 ≤ 48 then
        f_303_L46 M a1 k1 (0, 0, 0, 0)
      else
        some (0)
    else
      some (0)
    )
  ))
set_option maxRecDepth 100000 in
set_option maxHeartbeats 4000000 in
theorem t_303 {rom : xRom} {d : Nat} {M : xM} {a1 : Int} {r : Int} {out : Option xV × xH} (e : f_303 M a1 = some r) (hK : eI M out r) : Rn rom (d + 4) 108 (0, [some (vR 1), some (vI a1), none, none, none, none, none, none], [], (G0, M)) out := by
  have hc : xkall.getD 108 [] = xk_108 := rfl
  unfold f_303 at e
  refine Rn_ms (σ' := (3, [some (vR 1), some (vI a1), none, none, none, none, none, none], [vI 0, vI a1, vR 1], (G0, M))) hc 3 rfl ?_
  refine R_bind e (fun k1 hk1 e => ?_)
  refine Rn_cv hc rfl rfl (by decide) (ii := xi_84) rfl rfl rfl (tgc_1 : Tg _ = 10) (by decide) rfl (le := [some (vR 1), some (vI a1), some (vI 0), none]) rfl (v := some (vI k1)) (M' := M) (t_112  (d := d + 0) hk1 rfl) ?_
  refine Rn_ms (σ' := (12, [some (vR 1), some (vI a1), some (vI k1), some (vI 0), some (vI 0), none, none, none], [], (G0, M))) hc 5 rfl ?_
  refine Rn_ms (σ' := (18, [some (vR 1), some (vI a1), some (vI k1), some (vI 0), some (vI 0), some (vI 0), none, none], [vI 2, vR 1, vI k1], (G0, M))) hc 5 rfl ?_
  refine R_bind e (fun k2 hk2 e => ?_)
  refine Rn_cv hc rfl rfl (by decide) (ii := xi_89) rfl rfl rfl (tgc_1 : Tg _ = 10) (by decide) rfl (le := [some (vR 1), some (vI 2)]) rfl (v := some (vI k2)) (M' := M) (t_119  (d := d + 0) hk2 rfl) ?_
  show Rn rom (d + 4) 108 (21, [some (vR 1), some (vI a1), some (vI k1), some (vI 0), some (vI 0), some (vI 0), none, none], [vI k2, vI k1], (G0, M)) out
  refine R_ite e (fun b3 e => ?_) (fun b3 e => ?_)
  · refine Rn_icT (tgt := 35) hc rfl rfl (by decide) b3 ?_
    refine Rn_ms (σ' := (38, [some (vR 1), some (vI a1), some (vI k1), some (vI 0), some (vI 0), some (vI 0), none, none], [vI 48, vI k1], (G0, M))) hc 2 rfl ?_
    refine R_ite e (fun b4 e => ?_) (fun b4 e => ?_)
    · refine Rn_icT (tgt := 43) hc rfl rfl (by decide) b4 ?_
      refine Rn_ms (σ' := (46, [some (vR 1), some (vI a1), some (vI k1), some (vI 0), some (vI 0), some (vI 0), some (vI 0), none], [], (G0, M))) hc 2 rfl ?_
      exact Rn_weak (xle_s (xle_s (xle_s (xle_s (xle_s (xle_s (xle_s (xle_s xle_0)))))))) (t_303_L46  e hK)
    · refine Rn_icF hc rfl rfl (by decide) b4 ?_
      refine Rn_ms (σ' := (42, [some (vR 1), some (vI a1), some (vI k1), some (vI 0), some (vI 0), some (vI 0), none, none], [vI 0], (G0, M))) hc 1 rfl ?_
      cases e
      exact R_end (Rn_iret hc rfl rfl (xretB rfl rfl (by decide))) hK
  · refine Rn_icF hc rfl rfl (by decide) b3 ?_
    refine Rn_ms (σ' := (28, [some (vR 1), some (vI a1), some (vI k1), some (vI 0), some (vI 0), some (vI 0), none, none], [vI 2, vR 1, vI 2, vI k1], (G0, M))) hc 4 rfl ?_
    refine R_bind e (fun k21 hk21 e => ?_)
    refine Rn_cv hc rfl rfl (by decide) (ii := xi_89) rfl rfl rfl (tgc_1 : Tg _ = 10) (by decide) rfl (le := [some (vR 1), some (vI 2)]) rfl (v := some (vI k21)) (M' := M) (t_119  (d := d + 0) hk21 rfl) ?_
    refine Rn_ms (σ' := (32, [some (vR 1), some (vI a1), some (vI k1), some (vI 0), some (vI 0), some (vI 0), none, none], [vI (2 * k21), vI k1], (G0, M))) hc 1 rfl ?_
    refine R_ite e (fun b22 e => ?_) (fun b22 e => ?_)
    · refine Rn_icF hc rfl rfl (by decide) (fun w => w b22) ?_
      refine Rn_ms (σ' := (38, [some (vR 1), some (vI a1), some (vI k1), some (vI 0), some (vI 0), some (vI 0), none, none], [vI 48, vI k1], (G0, M))) hc 2 rfl ?_
      refine R_ite e (fun b23 e => ?_) (fun b23 e => ?_)
      · refine Rn_icT (tgt := 43) hc rfl rfl (by decide) b23 ?_
        refine Rn_ms (σ' := (46, [some (vR 1), some (vI a1), some (vI k1), some (vI 0), some (vI 0), some (vI 0), some (vI 0), none], [], (G0, M))) hc 2 rfl ?_
        exact Rn_weak (xle_s (xle_s (xle_s (xle_s (xle_s (xle_s (xle_s (xle_s xle_0)))))))) (t_303_L46  e hK)
      · refine Rn_icF hc rfl rfl (by decide) b23 ?_
        refine Rn_ms (σ' := (42, [some (vR 1), some (vI a1), some (vI k1), some (vI 0), some (vI 0), some (vI 0), none, none], [vI 0], (G0, M))) hc 1 rfl ?_
        cases e
        exact R_end (Rn_iret hc rfl rfl (xretB rfl rfl (by decide))) hK
    · refine Rn_icT (tgt := 41) hc rfl rfl (by decide) (fun w => b22 w) ?_
      refine Rn_ms (σ' := (42, [some (vR 1), some (vI a1), some (vI k1), some (vI 0), some (vI 0), some (vI 0), none, none], [vI 0], (G0, M))) hc 1 rfl ?_
      cases e
      exact R_end (Rn_iret hc rfl rfl (xretB rfl rfl (by decide))) hK
def f_304_L198 (M : xM) (c1 : Int) (c2 : Int) (c3 : Int) (c4 : Int) (c5 : Int) (c6 : Int) (c8 : Int) (c9 : Int) (c10 : Int) (s0 : Int) : Option ((Int × Int × Int × Int × Int × Int × Int × xM) ⊕ (Int × xM)) :=
  if wr c10 ≤ wr c8 then
    some (.inl (c3, c4, c5, c6, s0, c8, (c9 + 1), M))
  else
    some (.inl (c3, c4, c5, c6, s0, c10, (c9 + 1), M))
set_option maxRecDepth 100000 in
set_option maxHeartbeats 4000000 in
theorem t_304_L198 {rom : xRom} {d : Nat} {c1 : Int} {c2 : Int} {c3 : Int} {c4 : Int} {c5 : Int} {c6 : Int} {c8 : Int} {c9 : Int} {c10 : Int} {s0 : Int} {M : xM} {r : (Int × Int × Int × Int × Int × Int × Int × xM) ⊕ (Int × xM)} {out : Option xV × xH} (e : f_304_L198 M c1 c2 c3 c4 c5 c6 c8 c9 c10 s0 = some r) (hK : ((Sum.elim (fun s => Rn rom (d + 5) 109 (33, [some (vR 1), some (vI c1), some (vI c2), some (vI s.1), some (vI s.2.1), some (vI s.2.2.1), some (vI s.2.2.2.1), some (vI s.2.2.2.2.1), some (vI s.2.2.2.2.2.1), some (vI s.2.2.2.2.2.2.1), none, none], [], (G0, s.2.2.2.2.2.2.2)) out) (eIW out))) r) : Rn rom (d + 5) 109 (198, [some (vR 1), some (vI c1), some (vI c2), some (vI c3), some (vI c4), some (vI c5), some (vI c6), none, some (vI c8), some (vI c9), some (vI c10), none], [vI s0], (G0, M)) out := by
  have hc : xkall.getD 109 [] = xk_109 := rfl
  unfold f_304_L198 at e
  refine Rn_ms (σ' := (204, [some (vR 1), some (vI c1), some (vI c2), some (vI c3), some (vI c4), some (vI c5), some (vI c6), some (vI s0), some (vI c8), some (vI c9), some (vI c10), none], [vI c8, vI c10], (G0, M))) hc 3 rfl ?_
  refine R_ite e (fun b21 e => ?_) (fun b21 e => ?_)
  · refine Rn_icT (tgt := 212) hc rfl rfl (by decide) b21 ?_
    refine Rn_ms (σ' := (33, [some (vR 1), some (vI c1), some (vI c2), some (vI c3), some (vI c4), some (vI c5), some (vI c6), some (vI s0), some (vI c8), some (vI (c9 + 1)), some (vI c10), none], [], (G0, M))) hc 4 rfl ?_
    cases e
    exact Rn_weak (xle_s (xle_s (xle_s (xle_s (xle_s (xle_s (xle_s (xle_s (xle_s (xle_s (xle_n (xle_s xle_0)))))))))))) hK
  · refine Rn_icF hc rfl rfl (by decide) b21 ?_
    refine Rn_ms (σ' := (33, [some (vR 1), some (vI c1), some (vI c2), some (vI c3), some (vI c4), some (vI c5), some (vI c6), some (vI s0), some (vI c10), some (vI (c9 + 1)), some (vI c10), none], [], (G0, M))) hc 5 rfl ?_
    cases e
    exact Rn_weak (xle_s (xle_s (xle_s (xle_s (xle_s (xle_s (xle_s (xle_s (xle_s (xle_s (xle_n (xle_s xle_0)))))))))))) hK
def f_304_L182 (M : xM) (c1 : Int) (c2 : Int) (c3 : Int) (c4 : Int) (c5 : Int) (c7 : Int) (c8 : Int) (c9 : Int) (c10 : Int) (s0 : Int) : Option ((Int × Int × Int × Int × Int × Int × Int × xM) ⊕ (Int × xM)) :=
  if wr c10 ≤ wr c8 then
    f_304_L198 M c1 c2 c3 c4 c5 s0 c8 c9 c10 c7
  else
    f_304_L198 M c1 c2 c3 c4 c5 s0 c8 c9 c10 c9
set_option maxRecDepth 100000 in
set_option maxHeartbeats 4000000 in
theorem t_304_L182 {rom : xRom} {d : Nat} {c1 : Int} {c2 : Int} {c3 : Int} {c4 : Int} {c5 : Int} {c7 : Int} {c8 : Int} {c9 : Int} {c10 : Int} {s0 : Int} {M : xM} {r : (Int × Int × Int × Int × Int × Int × Int × xM) ⊕ (Int × xM)} {out : Option xV × xH} (e : f_304_L182 M c1 c2 c3 c4 c5 c7 c8 c9 c10 s0 = some r) (hK : ((Sum.elim (fun s => Rn rom (d + 5) 109 (33, [some (vR 1), some (vI c1), some (vI c2), some (vI s.1), some (vI s.2.1), some (vI s.2.2.1), some (vI s.2.2.2.1), some (vI s.2.2.2.2.1), some (vI s.2.2.2.2.2.1), some (vI s.2.2.2.2.2.2.1), none, none], [], (G0, s.2.2.2.2.2.2.2)) out) (eIW out))) r) : Rn rom (d + 5) 109 (182, [some (vR 1), some (vI c1), some (vI c2), some (vI c3), some (vI c4), some (vI c5), none, some (vI c7), some (vI c8), some (vI c9), some (vI c10), none], [vI s0], (G0, M)) out := by
  have hc : xkall.getD 109 [] = xk_109 := rfl
  unfold f_304_L182 at e
  refine Rn_ms (σ' := (188, [some (vR 1), some (vI c1), some (vI c2), some (vI c3), some (vI c4), some (vI c5), some (vI s0), some (vI c7), some (vI c8), some (vI c9), some (vI c10), none], [vI c8, vI c10], (G0, M))) hc 3 rfl ?_
  refine R_ite e (fun b20 e => ?_) (fun b20 e => ?_)
  · refine Rn_icT (tgt := 196) hc rfl rfl (by decide) b20 ?_
    refine Rn_ms (σ' := (198, [some (vR 1), some (vI c1), some (vI c2), some (vI c3), some (vI c4), some (vI c5), some (vI s0), some (vI c7), some (vI c8), some (vI c9), some (vI c10), none], [vI c7], (G0, M))) hc 1 rfl ?_
    exact Rn_weak (xle_s (xle_s (xle_s (xle_s (xle_s (xle_s (xle_s (xle_n (xle_s (xle_s (xle_s (xle_s xle_0)))))))))))) (t_304_L198  e hK)
  · refine Rn_icF hc rfl rfl (by decide) b20 ?_
    refine Rn_ms (σ' := (198, [some (vR 1), some (vI c1), some (vI c2), some (vI c3), some (vI c4), some (vI c5), some (vI s0), some (vI c7), some (vI c8), some (vI c9), some (vI c10), none], [vI c9], (G0, M))) hc 2 rfl ?_
    exact Rn_weak (xle_s (xle_s (xle_s (xle_s (xle_s (xle_s (xle_s (xle_n (xle_s (xle_s (xle_s (xle_s xle_0)))))))))))) (t_304_L198  e hK)
def f_304_L180 (M : xM) (c1 : Int) (c2 : Int) (c3 : Int) (c4 : Int) (c5 : Int) (c6 : Int) (c7 : Int) (c8 : Int) (c9 : Int) (c10 : Int) : Option ((Int × Int × Int × Int × Int × Int × Int × xM) ⊕ (Int × xM)) :=
  f_304_L182 M c1 c2 c3 c4 c5 c7 c8 c9 c10 c6
set_option maxRecDepth 100000 in
set_option maxHeartbeats 4000000 in
theorem t_304_L180 {rom : xRom} {d : Nat} {c1 : Int} {c2 : Int} {c3 : Int} {c4 : Int} {c5 : Int} {c6 : Int} {c7 : Int} {c8 : Int} {c9 : Int} {c10 : Int} {M : xM} {r : (Int × Int × Int × Int × Int × Int × Int × xM) ⊕ (Int × xM)} {out : Option xV × xH} (e : f_304_L180 M c1 c2 c3 c4 c5 c6 c7 c8 c9 c10 = some r) (hK : ((Sum.elim (fun s => Rn rom (d + 5) 109 (33, [some (vR 1), some (vI c1), some (vI c2), some (vI s.1), some (vI s.2.1), some (vI s.2.2.1), some (vI s.2.2.2.1), some (vI s.2.2.2.2.1), some (vI s.2.2.2.2.2.1), some (vI s.2.2.2.2.2.2.1), none, none], [], (G0, s.2.2.2.2.2.2.2)) out) (eIW out))) r) : Rn rom (d + 5) 109 (180, [some (vR 1), some (vI c1), some (vI c2), some (vI c3), some (vI c4), some (vI c5), some (vI c6), some (vI c7), some (vI c8), some (vI c9), some (vI c10), none], [], (G0, M)) out := by
  have hc : xkall.getD 109 [] = xk_109 := rfl
  unfold f_304_L180 at e
  refine Rn_ms (σ' := (182, [some (vR 1), some (vI c1), some (vI c2), some (vI c3), some (vI c4), some (vI c5), some (vI c6), some (vI c7), some (vI c8), some (vI c9), some (vI c10), none], [vI c6], (G0, M))) hc 1 rfl ?_
  exact Rn_weak (xle_s (xle_s (xle_s (xle_s (xle_s (xle_s (xle_n (xle_s (xle_s (xle_s (xle_s (xle_s xle_0)))))))))))) (t_304_L182  e hK)
def f_304_L163 (M : xM) (c1 : Int) (c2 : Int) (c3 : Int) (c4 : Int) (c6 : Int) (c7 : Int) (c8 : Int) (c9 : Int) (c10 : Int) (s0 : Int) : Option ((Int × Int × Int × Int × Int × Int × Int × xM) ⊕ (Int × xM)) :=
  if wr c10 ≤ 0 then
    f_304_L180 M c1 c2 c3 c4 s0 c6 c7 c8 c9 c10
  else
    if 0 ≤ wr c6 then
      f_304_L180 M c1 c2 c3 c4 s0 c6 c7 c8 c9 c10
    else
      f_304_L182 M c1 c2 c3 c4 s0 c7 c8 c9 c10 c9
set_option maxRecDepth 100000 in
set_option maxHeartbeats 4000000 in
theorem t_304_L163 {rom : xRom} {d : Nat} {c1 : Int} {c2 : Int} {c3 : Int} {c4 : Int} {c6 : Int} {c7 : Int} {c8 : Int} {c9 : Int} {c10 : Int} {s0 : Int} {M : xM} {r : (Int × Int × Int × Int × Int × Int × Int × xM) ⊕ (Int × xM)} {out : Option xV × xH} (e : f_304_L163 M c1 c2 c3 c4 c6 c7 c8 c9 c10 s0 = some r) (hK : ((Sum.elim (fun s => Rn rom (d + 5) 109 (33, [some (vR 1), some (vI c1), some (vI c2), some (vI s.1), some (vI s.2.1), some (vI s.2.2.1), some (vI s.2.2.2.1), some (vI s.2.2.2.2.1), some (vI s.2.2.2.2.2.1), some (vI s.2.2.2.2.2.2.1), none, none], [], (G0, s.2.2.2.2.2.2.2)) out) (eIW out))) r) : Rn rom (d + 5) 109 (163, [some (vR 1), some (vI c1), some (vI c2), some (vI c3), some (vI c4), none, some (vI c6), some (vI c7), some (vI c8), some (vI c9), some (vI c10), none], [vI s0], (G0, M)) out := by
  have hc : xkall.getD 109 [] = xk_109 := rfl
  unfold f_304_L163 at e
  refine Rn_ms (σ' := (167, [some (vR 1), some (vI c1), some (vI c2), some (vI c3), some (vI c4), some (vI s0), some (vI c6), some (vI c7), some (vI c8), some (vI c9), some (vI c10), none], [vI c10], (G0, M))) hc 2 rfl ?_
  refine R_ite e (fun b19 e => ?_) (fun b19 e => ?_)
  · refine Rn_ifT (tgt := 180) hc rfl rfl (by decide) b19 ?_
    show Rn rom (d + 5) 109 (180, [some (vR 1), some (vI c1), some (vI c2), some (vI c3), some (vI c4), some (vI s0), some (vI c6), some (vI c7), some (vI c8), some (vI c9), some (vI c10), none], [], (G0, M)) out
    exact Rn_weak (xle_s (xle_s (xle_s (xle_s (xle_s (xle_s (xle_s (xle_s (xle_s (xle_s (xle_s (xle_s xle_0)))))))))))) (t_304_L180  e hK)
  · refine Rn_ifF hc rfl rfl (by decide) b19 ?_
    refine Rn_ms (σ' := (172, [some (vR 1), some (vI c1), some (vI c2), some (vI c3), some (vI c4), some (vI s0), some (vI c6), some (vI c7), some (vI c8), some (vI c9), some (vI c10), none], [vI c6], (G0, M))) hc 1 rfl ?_
    refine R_ite e (fun b22 e => ?_) (fun b22 e => ?_)
    · refine Rn_ifT (tgt := 180) hc rfl rfl (by decide) b22 ?_
      show Rn rom (d + 5) 109 (180, [some (vR 1), some (vI c1), some (vI c2), some (vI c3), some (vI c4), some (vI s0), some (vI c6), some (vI c7), some (vI c8), some (vI c9), some (vI c10), none], [], (G0, M)) out
      exact Rn_weak (xle_s (xle_s (xle_s (xle_s (xle_s (xle_s (xle_s (xle_s (xle_s (xle_s (xle_s (xle_s xle_0)))))))))))) (t_304_L180  e hK)
    · refine Rn_ifF hc rfl rfl (by decide) b22 ?_
      refine Rn_ms (σ' := (182, [some (vR 1), some (vI c1), some (vI c2), some (vI c3), some (vI c4), some (vI s0), some (vI c6), some (vI c7), some (vI c8), some (vI c9), some (vI c10), none], [vI c9], (G0, M))) hc 2 rfl ?_
      exact Rn_weak (xle_s (xle_s (xle_s (xle_s (xle_s (xle_s (xle_n (xle_s (xle_s (xle_s (xle_s (xle_s xle_0)))))))))))) (t_304_L182  e hK)
def f_304_L142 (M : xM) (c1 : Int) (c2 : Int) (c4 : Int) (c5 : Int) (c6 : Int) (c7 : Int) (c8 : Int) (c9 : Int) (c10 : Int) (s0 : Int) (s1 : Int) : Option ((Int × Int × Int × Int × Int × Int × Int × xM) ⊕ (Int × xM)) :=
  if wr c10 ≤ 0 then
    f_304_L163 M c1 c2 (s0 + s1) (c4 + c10) c6 c7 c8 c9 c10 c5
  else
    f_304_L163 M c1 c2 (s0 + s1) (c4 + c10) c6 c7 c8 c9 c10 c9
set_option maxRecDepth 100000 in
set_option maxHeartbeats 4000000 in
theorem t_304_L142 {rom : xRom} {d : Nat} {c1 : Int} {c2 : Int} {c4 : Int} {c5 : Int} {c6 : Int} {c7 : Int} {c8 : Int} {c9 : Int} {c10 : Int} {s0 : Int} {s1 : Int} {M : xM} {r : (Int × Int × Int × Int × Int × Int × Int × xM) ⊕ (Int × xM)} {out : Option xV × xH} (e : f_304_L142 M c1 c2 c4 c5 c6 c7 c8 c9 c10 s0 s1 = some r) (hK : ((Sum.elim (fun s => Rn rom (d + 5) 109 (33, [some (vR 1), some (vI c1), some (vI c2), some (vI s.1), some (vI s.2.1), some (vI s.2.2.1), some (vI s.2.2.2.1), some (vI s.2.2.2.2.1), some (vI s.2.2.2.2.2.1), some (vI s.2.2.2.2.2.2.1), none, none], [], (G0, s.2.2.2.2.2.2.2)) out) (eIW out))) r) : Rn rom (d + 5) 109 (142, [some (vR 1), some (vI c1), some (vI c2), none, some (vI c4), some (vI c5), some (vI c6), some (vI c7), some (vI c8), some (vI c9), some (vI c10), none], [vI s1, vI s0], (G0, M)) out := by
  have hc : xkall.getD 109 [] = xk_109 := rfl
  unfold f_304_L142 at e
  refine Rn_ms (σ' := (149, [some (vR 1), some (vI c1), some (vI c2), some (vI (s0 + s1)), some (vI c4), some (vI c5), some (vI c6), some (vI c7), some (vI c8), some (vI c9), some (vI c10), none], [vI (c4 + c10)], (G0, M))) hc 5 rfl ?_
  refine Rn_ms (σ' := (153, [some (vR 1), some (vI c1), some (vI c2), some (vI (s0 + s1)), some (vI (c4 + c10)), some (vI c5), some (vI c6), some (vI c7), some (vI c8), some (vI c9), some (vI c10), none], [vI c10], (G0, M))) hc 2 rfl ?_
  refine R_ite e (fun b18 e => ?_) (fun b18 e => ?_)
  · refine Rn_ifT (tgt := 161) hc rfl rfl (by decide) b18 ?_
    refine Rn_ms (σ' := (163, [some (vR 1), some (vI c1), some (vI c2), some (vI (s0 + s1)), some (vI (c4 + c10)), some (vI c5), some (vI c6), some (vI c7), some (vI c8), some (vI c9), some (vI c10), none], [vI c5], (G0, M))) hc 1 rfl ?_
    exact Rn_weak (xle_s (xle_s (xle_s (xle_s (xle_s (xle_n (xle_s (xle_s (xle_s (xle_s (xle_s (xle_s xle_0)))))))))))) (t_304_L163  e hK)
  · refine Rn_ifF hc rfl rfl (by decide) b18 ?_
    refine Rn_ms (σ' := (163, [some (vR 1), some (vI c1), some (vI c2), some (vI (s0 + s1)), some (vI (c4 + c10)), some (vI c5), some (vI c6), some (vI c7), some (vI c8), some (vI c9), some (vI c10), none], [vI c9], (G0, M))) hc 2 rfl ?_
    exact Rn_weak (xle_s (xle_s (xle_s (xle_s (xle_s (xle_n (xle_s (xle_s (xle_s (xle_s (xle_s (xle_s xle_0)))))))))))) (t_304_L163  e hK)
def f_304_L117 (M : xM) (c1 : Int) (c2 : Int) (c3 : Int) (c4 : Int) (c5 : Int) (c6 : Int) (c7 : Int) (c8 : Int) (c9 : Int) (c10 : Int) : Option ((Int × Int × Int × Int × Int × Int × Int × xM) ⊕ (Int × xM)) :=
  (f_114 M c1 c9).bind (fun k15 =>
  if wr k15.1 = wr c10 then
    if wr c10 ≤ 0 then
      f_304_L142 k15.2 c1 c2 c4 c5 c6 c7 c8 c9 c10 c3 0
    else
      f_304_L142 k15.2 c1 c2 c4 c5 c6 c7 c8 c9 c10 c3 1
  else
    some (.inr ((0, k15.2)))
  )
set_option maxRecDepth 100000 in
set_option maxHeartbeats 4000000 in
theorem t_304_L117 {rom : xRom} {d : Nat} {c1 : Int} {c2 : Int} {c3 : Int} {c4 : Int} {c5 : Int} {c6 : Int} {c7 : Int} {c8 : Int} {c9 : Int} {c10 : Int} {M : xM} {r : (Int × Int × Int × Int × Int × Int × Int × xM) ⊕ (Int × xM)} {out : Option xV × xH} (e : f_304_L117 M c1 c2 c3 c4 c5 c6 c7 c8 c9 c10 = some r) (hK : ((Sum.elim (fun s => Rn rom (d + 5) 109 (33, [some (vR 1), some (vI c1), some (vI c2), some (vI s.1), some (vI s.2.1), some (vI s.2.2.1), some (vI s.2.2.2.1), some (vI s.2.2.2.2.1), some (vI s.2.2.2.2.2.1), some (vI s.2.2.2.2.2.2.1), none, none], [], (G0, s.2.2.2.2.2.2.2)) out) (eIW out))) r) : Rn rom (d + 5) 109 (117, [some (vR 1), some (vI c1), some (vI c2), some (vI c3), some (vI c4), some (vI c5), some (vI c6), some (vI c7), some (vI c8), some (vI c9), some (vI c10), none], [], (G0, M)) out := by
  have hc : xkall.getD 109 [] = xk_109 := rfl
  unfold f_304_L117 at e
  refine Rn_ms (σ' := (121, [some (vR 1), some (vI c1), some (vI c2), some (vI c3), some (vI c4), some (vI c5), some (vI c6), some (vI c7), some (vI c8), some (vI c9), some (vI c10), none], [vI c9, vI c1, vR 1], (G0, M))) hc 3 rfl ?_
  refine R_bind e (fun k15 hk15 e => ?_)
  refine Rn_cv hc rfl rfl (by decide) (ii := xi_86) rfl rfl rfl (tgc_1 : Tg _ = 10) (by decide) rfl (le := [some (vR 1), some (vI c1), some (vI c9)]) rfl (v := some (vI k15.1)) (M' := k15.2) (t_114  (d := d + 0) hk15 rfl) ?_
  refine Rn_ms (σ' := (126, [some (vR 1), some (vI c1), some (vI c2), some (vI c3), some (vI c4), some (vI c5), some (vI c6), some (vI c7), some (vI c8), some (vI c9), some (vI c10), none], [vI c10, vI k15.1], (G0, k15.2))) hc 1 rfl ?_
  refine R_ite e (fun b16 e => ?_) (fun b16 e => ?_)
  · refine Rn_icT (tgt := 131) hc rfl rfl (by decide) b16 ?_
    refine Rn_ms (σ' := (134, [some (vR 1), some (vI c1), some (vI c2), some (vI c3), some (vI c4), some (vI c5), some (vI c6), some (vI c7), some (vI c8), some (vI c9), some (vI c10), none], [vI c10, vI c3], (G0, k15.2))) hc 2 rfl ?_
    refine R_ite e (fun b17 e => ?_) (fun b17 e => ?_)
    · refine Rn_ifT (tgt := 141) hc rfl rfl (by decide) b17 ?_
      refine Rn_ms (σ' := (142, [some (vR 1), some (vI c1), some (vI c2), some (vI c3), some (vI c4), some (vI c5), some (vI c6), some (vI c7), some (vI c8), some (vI c9), some (vI c10), none], [vI 0, vI c3], (G0, k15.2))) hc 1 rfl ?_
      exact Rn_weak (xle_s (xle_s (xle_s (xle_n (xle_s (xle_s (xle_s (xle_s (xle_s (xle_s (xle_s (xle_s xle_0)))))))))))) (t_304_L142  e hK)
    · refine Rn_ifF hc rfl rfl (by decide) b17 ?_
      refine Rn_ms (σ' := (142, [some (vR 1), some (vI c1), some (vI c2), some (vI c3), some (vI c4), some (vI c5), some (vI c6), some (vI c7), some (vI c8), some (vI c9), some (vI c10), none], [vI 1, vI c3], (G0, k15.2))) hc 2 rfl ?_
      exact Rn_weak (xle_s (xle_s (xle_s (xle_n (xle_s (xle_s (xle_s (xle_s (xle_s (xle_s (xle_s (xle_s xle_0)))))))))))) (t_304_L142  e hK)
  · refine Rn_icF hc rfl rfl (by decide) b16 ?_
    refine Rn_ms (σ' := (130, [some (vR 1), some (vI c1), some (vI c2), some (vI c3), some (vI c4), some (vI c5), some (vI c6), some (vI c7), some (vI c8), some (vI c9), some (vI c10), none], [vI 0], (G0, k15.2))) hc 1 rfl ?_
    cases e
    exact R_end (Rn_iret hc rfl rfl (xretB rfl rfl (by decide))) hK
def f_304_L46b (M : xM) (c1 : Int) (c2 : Int) (c3 : Int) (c4 : Int) (c5 : Int) (c6 : Int) (c7 : Int) (c8 : Int) (c9 : Int) (v10 : Int) (v11 : Int) : Option ((Int × Int) ⊕ ((Int × Int × Int × Int × Int × Int × Int × xM) ⊕ (Int × xM))) :=
  (f_119 M 3).bind (fun k13 =>
  if wr k13 ≤ wr v11 then
    (f_304_L117 M c1 c2 c3 c4 c5 c6 c7 c8 c9 v10).bind (fun o => some (.inr (o)))
  else
    if 6 ≤ wr v11 then
      (f_304_L117 M c1 c2 c3 c4 c5 c6 c7 c8 c9 v10).bind (fun o => some (.inr (o)))
    else
      if 36 ≤ wr (c9 + c2) then
        (f_304_L117 M c1 c2 c3 c4 c5 c6 c7 c8 c9 v10).bind (fun o => some (.inr (o)))
      else
        (f_112 M v11 4).bind (fun k25 =>
        if wr k25 = 1 then
          some (.inl ((v10 + 0), (v11 + 1)))
        else
          (f_112 M v11 0).bind (fun k27 =>
          gd ((wr k27) ≠ 0) (
          (f_113 M v11 ((wr c1).tmod (wr k27)) (c9 + c2)).bind (fun k29 =>
          some (.inl ((v10 + k29), (v11 + 1)))
          )))
        )
  )
set_option maxRecDepth 100000 in
set_option maxHeartbeats 4000000 in
theorem t_304_L46b {rom : xRom} {d : Nat} {c1 : Int} {c2 : Int} {c3 : Int} {c4 : Int} {c5 : Int} {c6 : Int} {c7 : Int} {c8 : Int} {c9 : Int} {v10 : Int} {v11 : Int} {M : xM} {r : (Int × Int) ⊕ ((Int × Int × Int × Int × Int × Int × Int × xM) ⊕ (Int × xM))} {out : Option xV × xH} (e : f_304_L46b M c1 c2 c3 c4 c5 c6 c7 c8 c9 v10 v11 = some r) (hK : ((Sum.elim (fun s => Rn rom (d + 5) 109 (46, [some (vR 1), some (vI c1), some (vI c2), some (vI c3), some (vI c4), some (vI c5), some (vI c6), some (vI c7), some (vI c8), some (vI c9), some (vI s.1), some (vI s.2)], [], (G0, M)) out) ((Sum.elim (fun s => Rn rom (d + 5) 109 (33, [some (vR 1), some (vI c1), some (vI c2), some (vI s.1), some (vI s.2.1), some (vI s.2.2.1), some (vI s.2.2.2.1), some (vI s.2.2.2.2.1), some (vI s.2.2.2.2.2.1), some (vI s.2.2.2.2.2.2.1), none, none], [], (G0, s.2.2.2.2.2.2.2)) out) (eIW out))))) r) : Rn rom (d + 5) 109 (46, [some (vR 1), some (vI c1), some (vI c2), some (vI c3), some (vI c4), some (vI c5), some (vI c6), some (vI c7), some (vI c8), some (vI c9), some (vI v10), some (vI v11)], [], (G0, M)) out := by
  have hc : xkall.getD 109 [] = xk_109 := rfl
  unfold f_304_L46b at e
  refine Rn_ms (σ' := (50, [some (vR 1), some (vI c1), some (vI c2), some (vI c3), some (vI c4), some (vI c5), some (vI c6), some (vI c7), some (vI c8), some (vI c9), some (vI v10), some (vI v11)], [vI 3, vR 1, vI v11], (G0, M))) hc 3 rfl ?_
  refine R_bind e (fun k13 hk13 e => ?_)
  refine Rn_cv hc rfl rfl (by decide) (ii := xi_89) rfl rfl rfl (tgc_1 : Tg _ = 10) (by decide) rfl (le := [some (vR 1), some (vI 3)]) rfl (v := some (vI k13)) (M' := M) (t_119  (d := d + 1) hk13 rfl) ?_
  show Rn rom (d + 5) 109 (53, [some (vR 1), some (vI c1), some (vI c2), some (vI c3), some (vI c4), some (vI c5), some (vI c6), some (vI c7), some (vI c8), some (vI c9), some (vI v10), some (vI v11)], [vI k13, vI v11], (G0, M)) out
  refine R_ite e (fun b14 e => ?_) (fun b14 e => ?_)
  · refine Rn_icT (tgt := 117) hc rfl rfl (by decide) b14 ?_
    show Rn rom (d + 5) 109 (117, [some (vR 1), some (vI c1), some (vI c2), some (vI c3), some (vI c4), some (vI c5), some (vI c6), some (vI c7), some (vI c8), some (vI c9), some (vI v10), some (vI v11)], [], (G0, M)) out
    refine R_bind e (fun o ho e => ?_)
    cases e
    exact Rn_weak (xle_s (xle_s (xle_s (xle_s (xle_s (xle_s (xle_s (xle_s (xle_s (xle_s (xle_s (xle_n xle_0)))))))))))) (t_304_L117  ho hK)
  · refine Rn_icF hc rfl rfl (by decide) b14 ?_
    refine Rn_ms (σ' := (60, [some (vR 1), some (vI c1), some (vI c2), some (vI c3), some (vI c4), some (vI c5), some (vI c6), some (vI c7), some (vI c8), some (vI c9), some (vI v10), some (vI v11)], [vI 6, vI v11], (G0, M))) hc 2 rfl ?_
    refine R_ite e (fun b23 e => ?_) (fun b23 e => ?_)
    · refine Rn_icT (tgt := 117) hc rfl rfl (by decide) b23 ?_
      show Rn rom (d + 5) 109 (117, [some (vR 1), some (vI c1), some (vI c2), some (vI c3), some (vI c4), some (vI c5), some (vI c6), some (vI c7), some (vI c8), some (vI c9), some (vI v10), some (vI v11)], [], (G0, M)) out
      refine R_bind e (fun o ho e => ?_)
      cases e
      exact Rn_weak (xle_s (xle_s (xle_s (xle_s (xle_s (xle_s (xle_s (xle_s (xle_s (xle_s (xle_s (xle_n xle_0)))))))))))) (t_304_L117  ho hK)
    · refine Rn_icF hc rfl rfl (by decide) b23 ?_
      refine Rn_ms (σ' := (69, [some (vR 1), some (vI c1), some (vI c2), some (vI c3), some (vI c4), some (vI c5), some (vI c6), some (vI c7), some (vI c8), some (vI c9), some (vI v10), some (vI v11)], [vI 36, vI (c9 + c2)], (G0, M))) hc 4 rfl ?_
      refine R_ite e (fun b24 e => ?_) (fun b24 e => ?_)
      · refine Rn_icT (tgt := 117) hc rfl rfl (by decide) b24 ?_
        show Rn rom (d + 5) 109 (117, [some (vR 1), some (vI c1), some (vI c2), some (vI c3), some (vI c4), some (vI c5), some (vI c6), some (vI c7), some (vI c8), some (vI c9), some (vI v10), some (vI v11)], [], (G0, M)) out
        refine R_bind e (fun o ho e => ?_)
        cases e
        exact Rn_weak (xle_s (xle_s (xle_s (xle_s (xle_s (xle_s (xle_s (xle_s (xle_s (xle_s (xle_s (xle_n xle_0)))))))))))) (t_304_L117  ho hK)
      · refine Rn_icF hc rfl rfl (by decide) b24 ?_
        refine Rn_ms (σ' := (78, [some (vR 1), some (vI c1), some (vI c2), some (vI c3), some (vI c4), some (vI c5), some (vI c6), some (vI c7), some (vI c8), some (vI c9), some (vI v10), some (vI v11)], [vI 4, vI v11, vR 1, vI v10], (G0, M))) hc 4 rfl ?_
        refine R_bind e (fun k25 hk25 e => ?_)
        refine Rn_cv hc rfl rfl (by decide) (ii := xi_84) rfl rfl rfl (tgc_1 : Tg _ = 10) (by decide) rfl (le := [some (vR 1), some (vI v11), some (vI 4), none]) rfl (v := some (vI k25)) (M' := M) (t_112  (d := d + 1) hk25 rfl) ?_
        refine Rn_ms (σ' := (82, [some (vR 1), some (vI c1), some (vI c2), some (vI c3), some (vI c4), some (vI c5), some (vI c6), some (vI c7), some (vI c8), some (vI c9), some (vI v10), some (vI v11)], [vI 1, vI k25, vI v10], (G0, M))) hc 1 rfl ?_
        refine R_ite e (fun b26 e => ?_) (fun b26 e => ?_)
        · refine Rn_icF hc rfl rfl (by decide) (fun w => w b26) ?_
          refine Rn_ms (σ' := (114, [some (vR 1), some (vI c1), some (vI c2), some (vI c3), some (vI c4), some (vI c5), some (vI c6), some (vI c7), some (vI c8), some (vI c9), some (vI (v10 + 0)), some (vI (v11 + 1))], [], (G0, M))) hc 5 rfl ?_
          refine Rn_ms (σ' := (46, [some (vR 1), some (vI c1), some (vI c2), some (vI c3), some (vI c4), some (vI c5), some (vI c6), some (vI c7), some (vI c8), some (vI c9), some (vI (v10 + 0)), some (vI (v11 + 1))], [], (G0, M))) hc 1 rfl ?_
          cases e
          exact Rn_weak (xle_s (xle_s (xle_s (xle_s (xle_s (xle_s (xle_s (xle_s (xle_s (xle_s (xle_s (xle_s xle_0)))))))))))) hK
        · refine Rn_icT (tgt := 89) hc rfl rfl (by decide) (fun w => b26 w) ?_
          refine Rn_ms (σ' := (96, [some (vR 1), some (vI c1), some (vI c2), some (vI c3), some (vI c4), some (vI c5), some (vI c6), some (vI c7), some (vI c8), some (vI c9), some (vI v10), some (vI v11)], [vI v11, vR 1, vI c1, vI v11, vR 1, vI v10], (G0, M))) hc 5 rfl ?_
          refine Rn_ms (σ' := (97, [some (vR 1), some (vI c1), some (vI c2), some (vI c3), some (vI c4), some (vI c5), some (vI c6), some (vI c7), some (vI c8), some (vI c9), some (vI v10), some (vI v11)], [vI 0, vI v11, vR 1, vI c1, vI v11, vR 1, vI v10], (G0, M))) hc 1 rfl ?_
          refine R_bind e (fun k27 hk27 e => ?_)
          refine Rn_cv hc rfl rfl (by decide) (ii := xi_84) rfl rfl rfl (tgc_1 : Tg _ = 10) (by decide) rfl (le := [some (vR 1), some (vI v11), some (vI 0), none]) rfl (v := some (vI k27)) (M' := M) (t_112  (d := d + 1) hk27 rfl) ?_
          show Rn rom (d + 5) 109 (100, [some (vR 1), some (vI c1), some (vI c2), some (vI c3), some (vI c4), some (vI c5), some (vI c6), some (vI c7), some (vI c8), some (vI c9), some (vI v10), some (vI v11)], [vI k27, vI c1, vI v11, vR 1, vI v10], (G0, M)) out
          refine R_gd e (fun g28 e => ?_)
          refine Rn_rem hc rfl ⟨rfl, rfl⟩ (z' := (wr k27)) rfl g28 ?_
          refine Rn_ms (σ' := (105, [some (vR 1), some (vI c1), some (vI c2), some (vI c3), some (vI c4), some (vI c5), some (vI c6), some (vI c7), some (vI c8), some (vI c9), some (vI v10), some (vI v11)], [vI (c9 + c2), vI ((wr c1).tmod (wr k27)), vI v11, vR 1, vI v10], (G0, M))) hc 3 rfl ?_
          refine R_bind e (fun k29 hk29 e => ?_)
          refine Rn_cv hc rfl rfl (by decide) (ii := xi_85) rfl rfl rfl (tgc_1 : Tg _ = 10) (by decide) rfl (le := [some (vR 1), some (vI v11), some (vI ((wr c1).tmod (wr k27))), some (vI (c9 + c2)), none]) rfl (v := some (vI k29)) (M' := M) (t_113  (d := d + 2) hk29 rfl) ?_
          refine Rn_ms (σ' := (46, [some (vR 1), some (vI c1), some (vI c2), some (vI c3), some (vI c4), some (vI c5), some (vI c6), some (vI c7), some (vI c8), some (vI c9), some (vI (v10 + k29)), some (vI (v11 + 1))], [], (G0, M))) hc 4 rfl ?_
          cases e
          exact Rn_weak (xle_s (xle_s (xle_s (xle_s (xle_s (xle_s (xle_s (xle_s (xle_s (xle_s (xle_s (xle_s xle_0)))))))))))) hK
def f_304_L46 (M : xM) (c1 : Int) (c2 : Int) (c3 : Int) (c4 : Int) (c5 : Int) (c6 : Int) (c7 : Int) (c8 : Int) (c9 : Int) (s : Int × Int) : Option ((Int × Int × Int × Int × Int × Int × Int × xM) ⊕ (Int × xM)) := loop NF (fun s => f_304_L46b M c1 c2 c3 c4 c5 c6 c7 c8 c9 s.1 s.2) s
set_option maxRecDepth 100000 in
set_option maxHeartbeats 4000000 in
theorem t_304_L46 {rom : xRom} {d : Nat} {c1 : Int} {c2 : Int} {c3 : Int} {c4 : Int} {c5 : Int} {c6 : Int} {c7 : Int} {c8 : Int} {c9 : Int} {M : xM} {s : Int × Int} {r : (Int × Int × Int × Int × Int × Int × Int × xM) ⊕ (Int × xM)} {out : Option xV × xH} (e : f_304_L46 M c1 c2 c3 c4 c5 c6 c7 c8 c9 s = some r) (hK : ((Sum.elim (fun s => Rn rom (d + 5) 109 (33, [some (vR 1), some (vI c1), some (vI c2), some (vI s.1), some (vI s.2.1), some (vI s.2.2.1), some (vI s.2.2.2.1), some (vI s.2.2.2.2.1), some (vI s.2.2.2.2.2.1), some (vI s.2.2.2.2.2.2.1), none, none], [], (G0, s.2.2.2.2.2.2.2)) out) (eIW out))) r) : Rn rom (d + 5) 109 (46, [some (vR 1), some (vI c1), some (vI c2), some (vI c3), some (vI c4), some (vI c5), some (vI c6), some (vI c7), some (vI c8), some (vI c9), some (vI s.1), some (vI s.2)], [], (G0, M)) out := by
  unfold f_304_L46 at e
  revert e hK
  exact R_loop (b := fun s => f_304_L46b M c1 c2 c3 c4 c5 c6 c7 c8 c9 s.1 s.2) (G := fun s => Rn rom (d + 5) 109 (46, [some (vR 1), some (vI c1), some (vI c2), some (vI c3), some (vI c4), some (vI c5), some (vI c6), some (vI c7), some (vI c8), some (vI c9), some (vI s.1), some (vI s.2)], [], (G0, M)) out) (K := (Sum.elim (fun s => Rn rom (d + 5) 109 (33, [some (vR 1), some (vI c1), some (vI c2), some (vI s.1), some (vI s.2.1), some (vI s.2.2.1), some (vI s.2.2.2.1), some (vI s.2.2.2.2.1), some (vI s.2.2.2.2.2.1), some (vI s.2.2.2.2.2.2.1), none, none], [], (G0, s.2.2.2.2.2.2.2)) out) (eIW out))) (fun s r e hK => t_304_L46b  e hK) NF s r
def f_304_L33b (c1 : Int) (c2 : Int) (v3 : Int) (v4 : Int) (v5 : Int) (v6 : Int) (v7 : Int) (v8 : Int) (v9 : Int) (M : xM) : Option ((Int × Int × Int × Int × Int × Int × Int × xM) ⊕ (Int × xM)) :=
  if 36 ≤ wr v9 then
    (f_115 M c1 0).bind (fun k3 =>
    if wr k3.1 = wr v3 then
      (f_115 k3.2 c1 1).bind (fun k5 =>
      if wr k5.1 = wr v4 then
        (f_115 k5.2 c1 2).bind (fun k7 =>
        if wr k7.1 = wr v5 then
          (f_115 k7.2 c1 3).bind (fun k9 =>
          if wr k9.1 = wr v6 then
            (f_115 k9.2 c1 4).bind (fun k11 =>
            if wr k11.1 = wr v7 then
              some (.inr ((1, k11.2)))
            else
              some (.inr ((0, k11.2)))
            )
          else
            some (.inr ((0, k9.2)))
          )
        else
          some (.inr ((0, k7.2)))
        )
      else
        some (.inr ((0, k5.2)))
      )
    else
      some (.inr ((0, k3.2)))
    )
  else
    f_304_L46 M c1 c2 v3 v4 v5 v6 v7 v8 v9 (0, 0)
set_option maxRecDepth 100000 in
set_option maxHeartbeats 4000000 in
theorem t_304_L33b {rom : xRom} {d : Nat} {c1 : Int} {c2 : Int} {v3 : Int} {v4 : Int} {v5 : Int} {v6 : Int} {v7 : Int} {v8 : Int} {v9 : Int} {M : xM} {r : (Int × Int × Int × Int × Int × Int × Int × xM) ⊕ (Int × xM)} {out : Option xV × xH} (e : f_304_L33b c1 c2 v3 v4 v5 v6 v7 v8 v9 M = some r) (hK : ((Sum.elim (fun s => Rn rom (d + 5) 109 (33, [some (vR 1), some (vI c1), some (vI c2), some (vI s.1), some (vI s.2.1), some (vI s.2.2.1), some (vI s.2.2.2.1), some (vI s.2.2.2.2.1), some (vI s.2.2.2.2.2.1), some (vI s.2.2.2.2.2.2.1), none, none], [], (G0, s.2.2.2.2.2.2.2)) out) (eIW out))) r) : Rn rom (d + 5) 109 (33, [some (vR 1), some (vI c1), some (vI c2), some (vI v3), some (vI v4), some (vI v5), some (vI v6), some (vI v7), some (vI v8), some (vI v9), none, none], [], (G0, M)) out := by
  have hc : xkall.getD 109 [] = xk_109 := rfl
  unfold f_304_L33b at e
  refine Rn_ms (σ' := (37, [some (vR 1), some (vI c1), some (vI c2), some (vI v3), some (vI v4), some (vI v5), some (vI v6), some (vI v7), some (vI v8), some (vI v9), none, none], [vI 36, vI v9], (G0, M))) hc 2 rfl ?_
  refine R_ite e (fun b2 e => ?_) (fun b2 e => ?_)
  · refine Rn_icT (tgt := 222) hc rfl rfl (by decide) b2 ?_
    refine Rn_ms (σ' := (225, [some (vR 1), some (vI c1), some (vI c2), some (vI v3), some (vI v4), some (vI v5), some (vI v6), some (vI v7), some (vI v8), some (vI v9), none, none], [vI 0, vI c1, vR 1], (G0, M))) hc 3 rfl ?_
    refine R_bind e (fun k3 hk3 e => ?_)
    refine Rn_cv hc rfl rfl (by decide) (ii := xi_87) rfl rfl rfl (tgc_1 : Tg _ = 10) (by decide) rfl (le := [some (vR 1), some (vI c1), some (vI 0)]) rfl (v := some (vI k3.1)) (M' := k3.2) (t_115  (d := d + 0) hk3 rfl) ?_
    refine Rn_ms (σ' := (229, [some (vR 1), some (vI c1), some (vI c2), some (vI v3), some (vI v4), some (vI v5), some (vI v6), some (vI v7), some (vI v8), some (vI v9), none, none], [vI v3, vI k3.1], (G0, k3.2))) hc 1 rfl ?_
    refine R_ite e (fun b4 e => ?_) (fun b4 e => ?_)
    · refine Rn_icF hc rfl rfl (by decide) (fun w => w b4) ?_
      refine Rn_ms (σ' := (235, [some (vR 1), some (vI c1), some (vI c2), some (vI v3), some (vI v4), some (vI v5), some (vI v6), some (vI v7), some (vI v8), some (vI v9), none, none], [vI 1, vI c1, vR 1], (G0, k3.2))) hc 3 rfl ?_
      refine R_bind e (fun k5 hk5 e => ?_)
      refine Rn_cv hc rfl rfl (by decide) (ii := xi_87) rfl rfl rfl (tgc_1 : Tg _ = 10) (by decide) rfl (le := [some (vR 1), some (vI c1), some (vI 1)]) rfl (v := some (vI k5.1)) (M' := k5.2) (t_115  (d := d + 0) hk5 rfl) ?_
      refine Rn_ms (σ' := (240, [some (vR 1), some (vI c1), some (vI c2), some (vI v3), some (vI v4), some (vI v5), some (vI v6), some (vI v7), some (vI v8), some (vI v9), none, none], [vI v4, vI k5.1], (G0, k5.2))) hc 1 rfl ?_
      refine R_ite e (fun b6 e => ?_) (fun b6 e => ?_)
      · refine Rn_icF hc rfl rfl (by decide) (fun w => w b6) ?_
        refine Rn_ms (σ' := (246, [some (vR 1), some (vI c1), some (vI c2), some (vI v3), some (vI v4), some (vI v5), some (vI v6), some (vI v7), some (vI v8), some (vI v9), none, none], [vI 2, vI c1, vR 1], (G0, k5.2))) hc 3 rfl ?_
        refine R_bind e (fun k7 hk7 e => ?_)
        refine Rn_cv hc rfl rfl (by decide) (ii := xi_87) rfl rfl rfl (tgc_1 : Tg _ = 10) (by decide) rfl (le := [some (vR 1), some (vI c1), some (vI 2)]) rfl (v := some (vI k7.1)) (M' := k7.2) (t_115  (d := d + 0) hk7 rfl) ?_
        refine Rn_ms (σ' := (251, [some (vR 1), some (vI c1), some (vI c2), some (vI v3), some (vI v4), some (vI v5), some (vI v6), some (vI v7), some (vI v8), some (vI v9), none, none], [vI v5, vI k7.1], (G0, k7.2))) hc 1 rfl ?_
        refine R_ite e (fun b8 e => ?_) (fun b8 e => ?_)
        · refine Rn_icF hc rfl rfl (by decide) (fun w => w b8) ?_
          refine Rn_ms (σ' := (257, [some (vR 1), some (vI c1), some (vI c2), some (vI v3), some (vI v4), some (vI v5), some (vI v6), some (vI v7), some (vI v8), some (vI v9), none, none], [vI 3, vI c1, vR 1], (G0, k7.2))) hc 3 rfl ?_
          refine R_bind e (fun k9 hk9 e => ?_)
          refine Rn_cv hc rfl rfl (by decide) (ii := xi_87) rfl rfl rfl (tgc_1 : Tg _ = 10) (by decide) rfl (le := [some (vR 1), some (vI c1), some (vI 3)]) rfl (v := some (vI k9.1)) (M' := k9.2) (t_115  (d := d + 0) hk9 rfl) ?_
          refine Rn_ms (σ' := (262, [some (vR 1), some (vI c1), some (vI c2), some (vI v3), some (vI v4), some (vI v5), some (vI v6), some (vI v7), some (vI v8), some (vI v9), none, none], [vI v6, vI k9.1], (G0, k9.2))) hc 1 rfl ?_
          refine R_ite e (fun b10 e => ?_) (fun b10 e => ?_)
          · refine Rn_icF hc rfl rfl (by decide) (fun w => w b10) ?_
            refine Rn_ms (σ' := (268, [some (vR 1), some (vI c1), some (vI c2), some (vI v3), some (vI v4), some (vI v5), some (vI v6), some (vI v7), some (vI v8), some (vI v9), none, none], [vI 4, vI c1, vR 1], (G0, k9.2))) hc 3 rfl ?_
            refine R_bind e (fun k11 hk11 e => ?_)
            refine Rn_cv hc rfl rfl (by decide) (ii := xi_87) rfl rfl rfl (tgc_1 : Tg _ = 10) (by decide) rfl (le := [some (vR 1), some (vI c1), some (vI 4)]) rfl (v := some (vI k11.1)) (M' := k11.2) (t_115  (d := d + 0) hk11 rfl) ?_
            refine Rn_ms (σ' := (273, [some (vR 1), some (vI c1), some (vI c2), some (vI v3), some (vI v4), some (vI v5), some (vI v6), some (vI v7), some (vI v8), some (vI v9), none, none], [vI v7, vI k11.1], (G0, k11.2))) hc 1 rfl ?_
            refine R_ite e (fun b12 e => ?_) (fun b12 e => ?_)
            · refine Rn_icF hc rfl rfl (by decide) (fun w => w b12) ?_
              refine Rn_ms (σ' := (281, [some (vR 1), some (vI c1), some (vI c2), some (vI v3), some (vI v4), some (vI v5), some (vI v6), some (vI v7), some (vI v8), some (vI v9), none, none], [vI 1], (G0, k11.2))) hc 2 rfl ?_
              cases e
              exact R_end (Rn_iret hc rfl rfl (xretB rfl rfl (by decide))) hK
            · refine Rn_icT (tgt := 280) hc rfl rfl (by decide) (fun w => b12 w) ?_
              refine Rn_ms (σ' := (281, [some (vR 1), some (vI c1), some (vI c2), some (vI v3), some (vI v4), some (vI v5), some (vI v6), some (vI v7), some (vI v8), some (vI v9), none, none], [vI 0], (G0, k11.2))) hc 1 rfl ?_
              cases e
              exact R_end (Rn_iret hc rfl rfl (xretB rfl rfl (by decide))) hK
          · refine Rn_icT (tgt := 280) hc rfl rfl (by decide) (fun w => b10 w) ?_
            refine Rn_ms (σ' := (281, [some (vR 1), some (vI c1), some (vI c2), some (vI v3), some (vI v4), some (vI v5), some (vI v6), some (vI v7), some (vI v8), some (vI v9), none, none], [vI 0], (G0, k9.2))) hc 1 rfl ?_
            cases e
            exact R_end (Rn_iret hc rfl rfl (xretB rfl rfl (by decide))) hK
        · refine Rn_icT (tgt := 280) hc rfl rfl (by decide) (fun w => b8 w) ?_
          refine Rn_ms (σ' := (281, [some (vR 1), some (vI c1), some (vI c2), some (vI v3), some (vI v4), some (vI v5), some (vI v6), some (vI v7), some (vI v8), some (vI v9), none, none], [vI 0], (G0, k7.2))) hc 1 rfl ?_
          cases e
          exact R_end (Rn_iret hc rfl rfl (xretB rfl rfl (by decide))) hK
      · refine Rn_icT (tgt := 280) hc rfl rfl (by decide) (fun w => b6 w) ?_
        refine Rn_ms (σ' := (281, [some (vR 1), some (vI c1), some (vI c2), some (vI v3), some (vI v4), some (vI v5), some (vI v6), some (vI v7), some (vI v8), some (vI v9), none, none], [vI 0], (G0, k5.2))) hc 1 rfl ?_
        cases e
        exact R_end (Rn_iret hc rfl rfl (xretB rfl rfl (by decide))) hK
    · refine Rn_icT (tgt := 280) hc rfl rfl (by decide) (fun w => b4 w) ?_
      refine Rn_ms (σ' := (281, [some (vR 1), some (vI c1), some (vI c2), some (vI v3), some (vI v4), some (vI v5), some (vI v6), some (vI v7), some (vI v8), some (vI v9), none, none], [vI 0], (G0, k3.2))) hc 1 rfl ?_
      cases e
      exact R_end (Rn_iret hc rfl rfl (xretB rfl rfl (by decide))) hK
  · refine Rn_icF hc rfl rfl (by decide) b2 ?_
    refine Rn_ms (σ' := (46, [some (vR 1), some (vI c1), some (vI c2), some (vI v3), some (vI v4), some (vI v5), some (vI v6), some (vI v7), some (vI v8), some (vI v9), some (vI 0), some (vI 0)], [], (G0, M))) hc 4 rfl ?_
    exact Rn_weak (xle_s (xle_s (xle_s (xle_s (xle_s (xle_s (xle_s (xle_s (xle_s (xle_s (xle_s (xle_s xle_0)))))))))))) (t_304_L46  e hK)
def f_304_L33 (c1 : Int) (c2 : Int) (s : Int × Int × Int × Int × Int × Int × Int × xM) : Option (Int × xM) := loop NF (fun s => f_304_L33b c1 c2 s.1 s.2.1 s.2.2.1 s.2.2.2.1 s.2.2.2.2.1 s.2.2.2.2.2.1 s.2.2.2.2.2.2.1 s.2.2.2.2.2.2.2) s
set_option maxRecDepth 100000 in
set_option maxHeartbeats 4000000 in
theorem t_304_L33 {rom : xRom} {d : Nat} {c1 : Int} {c2 : Int} {s : Int × Int × Int × Int × Int × Int × Int × xM} {r : Int × xM} {out : Option xV × xH} (e : f_304_L33 c1 c2 s = some r) (hK : (eIW out) r) : Rn rom (d + 5) 109 (33, [some (vR 1), some (vI c1), some (vI c2), some (vI s.1), some (vI s.2.1), some (vI s.2.2.1), some (vI s.2.2.2.1), some (vI s.2.2.2.2.1), some (vI s.2.2.2.2.2.1), some (vI s.2.2.2.2.2.2.1), none, none], [], (G0, s.2.2.2.2.2.2.2)) out := by
  unfold f_304_L33 at e
  revert e hK
  exact R_loop (b := fun s => f_304_L33b c1 c2 s.1 s.2.1 s.2.2.1 s.2.2.2.1 s.2.2.2.2.1 s.2.2.2.2.2.1 s.2.2.2.2.2.2.1 s.2.2.2.2.2.2.2) (G := fun s => Rn rom (d + 5) 109 (33, [some (vR 1), some (vI c1), some (vI c2), some (vI s.1), some (vI s.2.1), some (vI s.2.2.1), some (vI s.2.2.2.1), some (vI s.2.2.2.2.1), some (vI s.2.2.2.2.2.1), some (vI s.2.2.2.2.2.2.1), none, none], [], (G0, s.2.2.2.2.2.2.2)) out) (K := eIW out) (fun s r e hK => t_304_L33b  e hK) NF s r
/-- PedalLayersLaw.isCell -/
def f_304 (M : xM) (a1 : Int) : Option (Int × xM) :=
  (f_119 M 9).bind (fun k1 =>
  f_304_L33 a1 (12 * k1) (0, 0, (-4), (-4), (-4), 0, 0, M)
  )
set_option maxRecDepth 100000 in
set_option maxHeartbeats 4000000 in
theorem t_304 {rom : xRom} {d : Nat} {M : xM} {a1 : Int} {r : Int × xM} {out : Option xV × xH} (e : f_304 M a1 = some r) (hK : eIW out r) : Rn rom (d + 5) 109 (0, [some (vR 1), some (vI a1), none, none, none, none, none, none, none, none, none, none], [], (G0, M)) out := by
  have hc : xkall.getD 109 [] = xk_109 := rfl
  unfold f_304 at e
  refine Rn_ms (σ' := (5, [some (vR 1), some (vI a1), none, none, none, none, none, none, none, none, none, none], [vI 9, vR 1, vI 12], (G0, M))) hc 3 rfl ?_
  refine R_bind e (fun k1 hk1 e => ?_)
  refine Rn_cv hc rfl rfl (by decide) (ii := xi_89) rfl rfl rfl (tgc_1 : Tg _ = 10) (by decide) rfl (le := [some (vR 1), some (vI 9)]) rfl (v := some (vI k1)) (M' := M) (t_119  (d := d + 1) hk1 rfl) ?_
  refine Rn_ms (σ' := (13, [some (vR 1), some (vI a1), some (vI (12 * k1)), some (vI 0), none, none, none, none, none, none, none, none], [vI 0], (G0, M))) hc 5 rfl ?_
  refine Rn_ms (σ' := (23, [some (vR 1), some (vI a1), some (vI (12 * k1)), some (vI 0), some (vI 0), some (vI (-4)), some (vI (-4)), none, none, none, none, none], [], (G0, M))) hc 5 rfl ?_
  refine Rn_ms (σ' := (31, [some (vR 1), some (vI a1), some (vI (12 * k1)), some (vI 0), some (vI 0), some (vI (-4)), some (vI (-4)), some (vI (-4)), some (vI 0), none, none, none], [vI 0], (G0, M))) hc 5 rfl ?_
  refine Rn_ms (σ' := (33, [some (vR 1), some (vI a1), some (vI (12 * k1)), some (vI 0), some (vI 0), some (vI (-4)), some (vI (-4)), some (vI (-4)), some (vI 0), some (vI 0), none, none], [], (G0, M))) hc 1 rfl ?_
  exact Rn_weak (xle_s (xle_s (xle_s (xle_s (xle_s (xle_s (xle_s (xle_s (xle_s (xle_s (xle_s (xle_s xle_0)))))))))))) (t_304_L33  e hK)
