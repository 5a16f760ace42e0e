/-! functions for methods, by program (wip/whole/gen/dec.py) -/
def f_51_174_L4b (M : xM) (v2 : Int) (v3 : Int) : Option ((Int × Int) ⊕ (Int)) :=
  if wr (M 172 1) ≤ wr v3 then
    if wr (f_42 v2) = 0 then
      some (.inr ((M 172 1)))
    else
      some (.inr ((-4)))
  else
    (f_47 M v3).bind (fun k3 =>
    if wr (f_40 v2 k3) = (-1) then
      some (.inr (v3))
    else
      some (.inl ((f_40 v2 k3), (v3 + 1)))
    )
theorem t_51_174_L4b {rom : xRom} {d : Nat} {v2 : Int} {v3 : Int} {M : xM} {r : (Int × Int) ⊕ (Int)} {out : Option xV × xH} (e : f_51_174_L4b M v2 v3 = some r) (hK : ((Sum.elim (fun s => Rn rom (d + 2) 51 (4, [some (vR 172), some (vR 174), some (vI s.1), some (vI s.2)], [], (G0, M)) out) (eI M out))) r) : Rn rom (d + 2) 51 (4, [some (vR 172), some (vR 174), some (vI v2), some (vI v3)], [], (G0, M)) out := by
  have hc : xkall.getD 51 [] = xk_51 := rfl
  unfold f_51_174_L4b at e
  refine Rn_ms (σ' := (6, [some (vR 172), some (vR 174), some (vI v2), some (vI v3)], [vR 172, vI v3], (G0, M))) hc 2 rfl ?_
  refine Rn_getI hc rfl tgc_172 (by decide) (by decide) ?_
  show Rn rom (d + 2) 51 (9, [some (vR 172), some (vR 174), some (vI v2), some (vI v3)], [vI (M 172 1), vI v3], (G0, M)) out
  refine R_ite e (fun b1 e => ?_) (fun b1 e => ?_)
  · refine Rn_icT (tgt := 36) hc rfl rfl (by decide) b1 ?_
    refine Rn_ms (σ' := (38, [some (vR 172), some (vR 174), some (vI v2), some (vI v3)], [vI v2, vR 174], (G0, M))) hc 2 rfl ?_
    refine Rn_cd (k := 0) hc rfl rfl (ii := xi_42) rfl (y' := 42) (((xdisp_1 rfl).1 (xobj_of tgc_174 (by decide))).trans rfl) (le := [some (vR 174), some (vI v2)]) rfl (v := some (vI (f_42 v2))) (M' := M) (t_42  (d := d + 1) rfl rfl) ?_
    show Rn rom (d + 2) 51 (41, [some (vR 172), some (vR 174), some (vI v2), some (vI v3)], [vI (f_42 v2)], (G0, M)) out
    refine R_ite e (fun b2 e => ?_) (fun b2 e => ?_)
    · refine Rn_ifT (tgt := 49) hc rfl rfl (by decide) b2 ?_
      refine Rn_ms (σ' := (50, [some (vR 172), some (vR 174), some (vI v2), some (vI v3)], [vR 172], (G0, M))) hc 1 rfl ?_
      refine Rn_getI hc rfl tgc_172 (by decide) (by decide) ?_
      show Rn rom (d + 2) 51 (53, [some (vR 172), some (vR 174), some (vI v2), some (vI v3)], [vI (M 172 1)], (G0, M)) out
      cases e
      exact R_end (Rn_iret hc rfl rfl (xretI rfl rfl)) hK
    · refine Rn_ifF hc rfl rfl (by decide) b2 ?_
      refine Rn_ms (σ' := (53, [some (vR 172), some (vR 174), some (vI v2), some (vI v3)], [vI (-4)], (G0, M))) hc 2 rfl ?_
      cases e
      exact R_end (Rn_iret hc rfl rfl (xretI rfl rfl)) hK
  · refine Rn_icF hc rfl rfl (by decide) b1 ?_
    refine Rn_ms (σ' := (16, [some (vR 172), some (vR 174), some (vI v2), some (vI v3)], [vI v3, vR 172, vI v2, vR 174], (G0, M))) hc 4 rfl ?_
    refine R_bind e (fun k3 hk3 e => ?_)
    refine Rn_cv hc rfl rfl (by decide) (ii := xi_47) rfl rfl rfl (tgc_172 : Tg _ = 6) (by decide) rfl (le := [some (vR 172), some (vI v3)]) rfl (v := some (vI k3)) (M' := M) (t_47  (d := d + 1) hk3 rfl) ?_
    show Rn rom (d + 2) 51 (19, [some (vR 172), some (vR 174), some (vI v2), some (vI v3)], [vI k3, vI v2, vR 174], (G0, M)) out
    refine Rn_cd (k := 0) hc rfl rfl (ii := xi_40) rfl (y' := 40) (((xdisp_0 rfl).1 (xobj_of tgc_174 (by decide))).trans rfl) (le := [some (vR 174), some (vI v2), some (vI k3), none]) rfl (v := some (vI (f_40 v2 k3))) (M' := M) (t_40  (d := d + 0) rfl rfl) ?_
    refine Rn_ms (σ' := (25, [some (vR 172), some (vR 174), some (vI (f_40 v2 k3)), some (vI v3)], [vI (-1), vI (f_40 v2 k3)], (G0, M))) hc 3 rfl ?_
    refine R_ite e (fun b4 e => ?_) (fun b4 e => ?_)
    · refine Rn_icF hc rfl rfl (by decide) (fun w => w b4) ?_
      refine Rn_ms (σ' := (29, [some (vR 172), some (vR 174), some (vI (f_40 v2 k3)), some (vI v3)], [vI v3], (G0, M))) hc 1 rfl ?_
      cases e
      exact R_end (Rn_iret hc rfl rfl (xretI rfl rfl)) hK
    · refine Rn_icT (tgt := 30) hc rfl rfl (by decide) (fun w => b4 w) ?_
      refine Rn_ms (σ' := (4, [some (vR 172), some (vR 174), some (vI (f_40 v2 k3)), some (vI (v3 + 1))], [], (G0, M))) hc 2 rfl ?_
      cases e
      exact Rn_weak (xle_s (xle_s (xle_s (xle_s xle_0)))) hK
def f_51_174_L4 (M : xM) (s : Int × Int) : Option (Int) := loop NF (fun s => f_51_174_L4b M s.1 s.2) s
theorem t_51_174_L4 {rom : xRom} {d : Nat}  {M : xM} {s : Int × Int} {r : Int} {out : Option xV × xH} (e : f_51_174_L4 M s = some r) (hK : (eI M out) r) : Rn rom (d + 2) 51 (4, [some (vR 172), some (vR 174), some (vI s.1), some (vI s.2)], [], (G0, M)) out := by
  unfold f_51_174_L4 at e
  revert e hK
  exact R_loop (b := fun s => f_51_174_L4b M s.1 s.2) (G := fun s => Rn rom (d + 2) 51 (4, [some (vR 172), some (vR 174), some (vI s.1), some (vI s.2)], [], (G0, M)) out) (K := eI M out) (fun s r e hK => t_51_174_L4b  e hK) NF s r
/-- PedalLayers$Pad.firstFault -/
def f_51_174 (M : xM) : Option (Int) :=
  f_51_174_L4 M (0, 0)
theorem t_51_174 {rom : xRom} {d : Nat} {M : xM}  {r : Int} {out : Option xV × xH} (e : f_51_174 M = some r) (hK : eI M out r) : Rn rom (d + 2) 51 (0, [some (vR 172), some (vR 174), none, none], [], (G0, M)) out := by
  have hc : xkall.getD 51 [] = xk_51 := rfl
  unfold f_51_174 at e
  refine Rn_ms (σ' := (4, [some (vR 172), some (vR 174), some (vI 0), some (vI 0)], [], (G0, M))) hc 4 rfl ?_
  exact Rn_weak (xle_s (xle_s (xle_s (xle_s xle_0)))) (t_51_174_L4  e hK)
def f_51_175_L4b (M : xM) (v2 : Int) (v3 : Int) : Option ((Int × Int) ⊕ (Int)) :=
  if wr (M 172 1) ≤ wr v3 then
    if wr (f_95 v2) = 0 then
      some (.inr ((M 172 1)))
    else
      some (.inr ((-4)))
  else
    (f_47 M v3).bind (fun k3 =>
    if wr (f_93 v2 k3) = (-1) then
      some (.inr (v3))
    else
      some (.inl ((f_93 v2 k3), (v3 + 1)))
    )
theorem t_51_175_L4b {rom : xRom} {d : Nat} {v2 : Int} {v3 : Int} {M : xM} {r : (Int × Int) ⊕ (Int)} {out : Option xV × xH} (e : f_51_175_L4b M v2 v3 = some r) (hK : ((Sum.elim (fun s => Rn rom (d + 2) 51 (4, [some (vR 172), some (vR 175), some (vI s.1), some (vI s.2)], [], (G0, M)) out) (eI M out))) r) : Rn rom (d + 2) 51 (4, [some (vR 172), some (vR 175), some (vI v2), some (vI v3)], [], (G0, M)) out := by
  have hc : xkall.getD 51 [] = xk_51 := rfl
  unfold f_51_175_L4b at e
  refine Rn_ms (σ' := (6, [some (vR 172), some (vR 175), some (vI v2), some (vI v3)], [vR 172, vI v3], (G0, M))) hc 2 rfl ?_
  refine Rn_getI hc rfl tgc_172 (by decide) (by decide) ?_
  show Rn rom (d + 2) 51 (9, [some (vR 172), some (vR 175), some (vI v2), some (vI v3)], [vI (M 172 1), vI v3], (G0, M)) out
  refine R_ite e (fun b1 e => ?_) (fun b1 e => ?_)
  · refine Rn_icT (tgt := 36) hc rfl rfl (by decide) b1 ?_
    refine Rn_ms (σ' := (38, [some (vR 172), some (vR 175), some (vI v2), some (vI v3)], [vI v2, vR 175], (G0, M))) hc 2 rfl ?_
    refine Rn_cd (k := 0) hc rfl rfl (ii := xi_95) rfl (y' := 95) (((xdisp_1 rfl).2 (xobj_of tgc_175 (by decide))).trans rfl) (le := [some (vR 175), some (vI v2)]) rfl (v := some (vI (f_95 v2))) (M' := M) (t_95  (d := d + 1) rfl rfl) ?_
    show Rn rom (d + 2) 51 (41, [some (vR 172), some (vR 175), some (vI v2), some (vI v3)], [vI (f_95 v2)], (G0, M)) out
    refine R_ite e (fun b2 e => ?_) (fun b2 e => ?_)
    · refine Rn_ifT (tgt := 49) hc rfl rfl (by decide) b2 ?_
      refine Rn_ms (σ' := (50, [some (vR 172), some (vR 175), some (vI v2), some (vI v3)], [vR 172], (G0, M))) hc 1 rfl ?_
      refine Rn_getI hc rfl tgc_172 (by decide) (by decide) ?_
      show Rn rom (d + 2) 51 (53, [some (vR 172), some (vR 175), some (vI v2), some (vI v3)], [vI (M 172 1)], (G0, M)) out
      cases e
      exact R_end (Rn_iret hc rfl rfl (xretI rfl rfl)) hK
    · refine Rn_ifF hc rfl rfl (by decide) b2 ?_
      refine Rn_ms (σ' := (53, [some (vR 172), some (vR 175), some (vI v2), some (vI v3)], [vI (-4)], (G0, M))) hc 2 rfl ?_
      cases e
      exact R_end (Rn_iret hc rfl rfl (xretI rfl rfl)) hK
  · refine Rn_icF hc rfl rfl (by decide) b1 ?_
    refine Rn_ms (σ' := (16, [some (vR 172), some (vR 175), some (vI v2), some (vI v3)], [vI v3, vR 172, vI v2, vR 175], (G0, M))) hc 4 rfl ?_
    refine R_bind e (fun k3 hk3 e => ?_)
    refine Rn_cv hc rfl rfl (by decide) (ii := xi_47) rfl rfl rfl (tgc_172 : Tg _ = 6) (by decide) rfl (le := [some (vR 172), some (vI v3)]) rfl (v := some (vI k3)) (M' := M) (t_47  (d := d + 1) hk3 rfl) ?_
    show Rn rom (d + 2) 51 (19, [some (vR 172), some (vR 175), some (vI v2), some (vI v3)], [vI k3, vI v2, vR 175], (G0, M)) out
    refine Rn_cd (k := 0) hc rfl rfl (ii := xi_93) rfl (y' := 93) (((xdisp_0 rfl).2 (xobj_of tgc_175 (by decide))).trans rfl) (le := [some (vR 175), some (vI v2), some (vI k3), none]) rfl (v := some (vI (f_93 v2 k3))) (M' := M) (t_93  (d := d + 0) rfl rfl) ?_
    refine Rn_ms (σ' := (25, [some (vR 172), some (vR 175), some (vI (f_93 v2 k3)), some (vI v3)], [vI (-1), vI (f_93 v2 k3)], (G0, M))) hc 3 rfl ?_
    refine R_ite e (fun b4 e => ?_) (fun b4 e => ?_)
    · refine Rn_icF hc rfl rfl (by decide) (fun w => w b4) ?_
      refine Rn_ms (σ' := (29, [some (vR 172), some (vR 175), some (vI (f_93 v2 k3)), some (vI v3)], [vI v3], (G0, M))) hc 1 rfl ?_
      cases e
      exact R_end (Rn_iret hc rfl rfl (xretI rfl rfl)) hK
    · refine Rn_icT (tgt := 30) hc rfl rfl (by decide) (fun w => b4 w) ?_
      refine Rn_ms (σ' := (4, [some (vR 172), some (vR 175), some (vI (f_93 v2 k3)), some (vI (v3 + 1))], [], (G0, M))) hc 2 rfl ?_
      cases e
      exact Rn_weak (xle_s (xle_s (xle_s (xle_s xle_0)))) hK
def f_51_175_L4 (M : xM) (s : Int × Int) : Option (Int) := loop NF (fun s => f_51_175_L4b M s.1 s.2) s
theorem t_51_175_L4 {rom : xRom} {d : Nat}  {M : xM} {s : Int × Int} {r : Int} {out : Option xV × xH} (e : f_51_175_L4 M s = some r) (hK : (eI M out) r) : Rn rom (d + 2) 51 (4, [some (vR 172), some (vR 175), some (vI s.1), some (vI s.2)], [], (G0, M)) out := by
  unfold f_51_175_L4 at e
  revert e hK
  exact R_loop (b := fun s => f_51_175_L4b M s.1 s.2) (G := fun s => Rn rom (d + 2) 51 (4, [some (vR 172), some (vR 175), some (vI s.1), some (vI s.2)], [], (G0, M)) out) (K := eI M out) (fun s r e hK => t_51_175_L4b  e hK) NF s r
/-- PedalLayers$Pad.firstFault -/
def f_51_175 (M : xM) : Option (Int) :=
  f_51_175_L4 M (0, 0)
theorem t_51_175 {rom : xRom} {d : Nat} {M : xM}  {r : Int} {out : Option xV × xH} (e : f_51_175 M = some r) (hK : eI M out r) : Rn rom (d + 2) 51 (0, [some (vR 172), some (vR 175), none, none], [], (G0, M)) out := by
  have hc : xkall.getD 51 [] = xk_51 := rfl
  unfold f_51_175 at e
  refine Rn_ms (σ' := (4, [some (vR 172), some (vR 175), some (vI 0), some (vI 0)], [], (G0, M))) hc 4 rfl ?_
  exact Rn_weak (xle_s (xle_s (xle_s (xle_s xle_0)))) (t_51_175_L4  e hK)
/-- PedalLayers.fault -/
def f_109 (M : xM) (a1 : Int) : Option (Int) :=
  if wr a1 = 0 then
    (f_51_174 M).bind (fun k2 =>
    some (k2)
    )
  else
    if wr a1 = 1 then
      (f_51_175 M).bind (fun k4 =>
      some (k4)
      )
    else
      some (-1)
theorem t_109 {rom : xRom} {d : Nat} {M : xM} {a1 : Int} {r : Int} {out : Option xV × xH} (e : f_109 M a1 = some r) (hK : eI M out r) : Rn rom (d + 3) 109 (0, [some (vR 1), some (vI a1)], [], (G0, M)) out := by
  have hc : xkall.getD 109 [] = xk_109 := rfl
  unfold f_109 at e
  refine Rn_ms (σ' := (1, [some (vR 1), some (vI a1)], [vI a1], (G0, M))) hc 1 rfl ?_
  refine R_ite e (fun b1 e => ?_) (fun b1 e => ?_)
  · refine Rn_ifF hc rfl rfl (by decide) (fun w => w b1) ?_
    refine Rn_ms (σ' := (5, [some (vR 1), some (vI a1)], [vR 1], (G0, M))) hc 1 rfl ?_
    refine Rn_getR hc rfl tgc_1 (by decide) rfl prc_1_3 ?_
    refine Rn_ms (σ' := (9, [some (vR 1), some (vI a1)], [vR 1, vR 172], (G0, M))) hc 1 rfl ?_
    refine Rn_getR hc rfl tgc_1 (by decide) rfl prc_1_4 ?_
    show Rn rom (d + 3) 109 (12, [some (vR 1), some (vI a1)], [vR 174, vR 172], (G0, M)) out
    refine R_bind e (fun k2 hk2 e => ?_)
    refine Rn_cv hc rfl rfl (by decide) (ii := xi_51) rfl rfl rfl (tgc_172 : Tg _ = 6) (by decide) rfl (le := [some (vR 172), some (vR 174), none, none]) rfl (v := some (vI k2)) (M' := M) (t_51_174  (d := d + 0) hk2 rfl) ?_
    show Rn rom (d + 3) 109 (15, [some (vR 1), some (vI a1)], [vI k2], (G0, M)) out
    cases e
    exact R_end (Rn_iret hc rfl rfl (xretI rfl rfl)) hK
  · refine Rn_ifT (tgt := 16) hc rfl rfl (by decide) (fun w => b1 w) ?_
    refine Rn_ms (σ' := (18, [some (vR 1), some (vI a1)], [vI 1, vI a1], (G0, M))) hc 2 rfl ?_
    refine R_ite e (fun b3 e => ?_) (fun b3 e => ?_)
    · refine Rn_icF hc rfl rfl (by decide) (fun w => w b3) ?_
      refine Rn_ms (σ' := (22, [some (vR 1), some (vI a1)], [vR 1], (G0, M))) hc 1 rfl ?_
      refine Rn_getR hc rfl tgc_1 (by decide) rfl prc_1_3 ?_
      refine Rn_ms (σ' := (26, [some (vR 1), some (vI a1)], [vR 1, vR 172], (G0, M))) hc 1 rfl ?_
      refine Rn_getR hc rfl tgc_1 (by decide) rfl prc_1_5 ?_
      show Rn rom (d + 3) 109 (29, [some (vR 1), some (vI a1)], [vR 175, vR 172], (G0, M)) out
      refine R_bind e (fun k4 hk4 e => ?_)
      refine Rn_cv hc rfl rfl (by decide) (ii := xi_51) rfl rfl rfl (tgc_172 : Tg _ = 6) (by decide) rfl (le := [some (vR 172), some (vR 175), none, none]) rfl (v := some (vI k4)) (M' := M) (t_51_175  (d := d + 0) hk4 rfl) ?_
      refine Rn_ms (σ' := (36, [some (vR 1), some (vI a1)], [vI k4], (G0, M))) hc 1 rfl ?_
      cases e
      exact R_end (Rn_iret hc rfl rfl (xretI rfl rfl)) hK
    · refine Rn_icT (tgt := 35) hc rfl rfl (by decide) (fun w => b3 w) ?_
      refine Rn_ms (σ' := (36, [some (vR 1), some (vI a1)], [vI (-1)], (G0, M))) hc 1 rfl ?_
      cases e
      exact R_end (Rn_iret hc rfl rfl (xretI rfl rfl)) hK
/-- PedalLayers.carryOut -/
def f_131 (M : xM) (a1 : Int) : Option (Int × xM) :=
  (f_47 M a1).bind (fun k1 =>
  if wr k1 = 104 then
    (f_50 M (a1 + 1)).bind (fun k3 =>
    (f_49 M (a1 + 1)).bind (fun k4 =>
    (f_50 M (k4 + 1)).bind (fun k5 =>
    (f_77 M 2 k3 k5).bind (fun k6 =>
    some (k6.1, k6.2)
    ))))
  else
  if wr k1 = 105 then
    some ((-2), M)
  else
  if wr k1 = 106 then
    some ((-2), M)
  else
  if wr k1 = 107 then
    some ((-2), M)
  else
  if wr k1 = 108 then
    some ((-2), M)
  else
  if wr k1 = 109 then
    some ((-2), M)
  else
  if wr k1 = 110 then
    some ((-2), M)
  else
  if wr k1 = 111 then
    some ((-2), M)
  else
  if wr k1 = 112 then
    (f_69 M 2).bind (fun k15 =>
    some (k15.1, k15.2)
    )
  else
  if wr k1 = 113 then
    some ((-2), M)
  else
  if wr k1 = 114 then
    some ((-2), M)
  else
  if wr k1 = 115 then
    bnd (f_75 M 2) (fun k19 =>
    some (k19.1, k19.2)
    )
  else
  if wr k1 = 116 then
    (f_50 M (a1 + 1)).bind (fun k21 =>
    (f_79 M 2 k21).bind (fun k22 =>
    some (k22.1, k22.2)
    ))
  else
  if wr k1 = 117 then
    some ((-2), M)
  else
  if wr k1 = 118 then
    bnd (f_86 M 2) (fun k25 =>
    some (k25.1, k25.2)
    )
  else
  if wr k1 = 119 then
    some ((-2), M)
  else
  if wr k1 = 120 then
    (f_83 M 2).bind (fun k28 =>
    some (k28.1, k28.2)
    )
  else
  if wr k1 = 121 then
    bnd (f_84 M 2) (fun k30 =>
    some (k30.1, k30.2)
    )
  else
  some ((-2), M)
  )
theorem t_131 {rom : xRom} {d : Nat} {M : xM} {a1 : Int} {r : Int × xM} {out : Option xV × xH} (e : f_131 M a1 = some r) (hK : eIW out r) : Rn rom (d + 5) 131 (0, [some (vR 1), some (vI a1)], [], (G0, M)) out := by
  have hc : xkall.getD 131 [] = xk_131 := rfl
  unfold f_131 at e
  refine Rn_ms (σ' := (1, [some (vR 1), some (vI a1)], [vR 1], (G0, M))) hc 1 rfl ?_
  refine Rn_getR hc rfl tgc_1 (by decide) rfl prc_1_3 ?_
  refine Rn_ms (σ' := (5, [some (vR 1), some (vI a1)], [vI a1, vR 172], (G0, M))) hc 1 rfl ?_
  refine R_bind e (fun k1 hk1 e => ?_)
  refine Rn_cv hc rfl rfl (by decide) (ii := xi_47) rfl rfl rfl (tgc_172 : Tg _ = 6) (by decide) rfl (le := [some (vR 172), some (vI a1)]) rfl (v := some (vI k1)) (M' := M) (t_47  (d := d + 4) hk1 rfl) ?_
  show Rn rom (d + 5) 131 (8, [some (vR 1), some (vI a1)], [vI k1], (G0, M)) out
  refine R_ite e (fun b2 e => ?_) (fun b2 e => ?_)
  · refine Rn_tsw (off := 146) (tgt := 154) hc rfl rfl (xsw_at b2 (by decide) (by decide) (by decide) rfl) rfl ?_
    refine Rn_ms (σ' := (155, [some (vR 1), some (vI a1)], [vR 1], (G0, M))) hc 1 rfl ?_
    refine Rn_getR hc rfl tgc_1 (by decide) rfl prc_1_0 ?_
    refine Rn_ms (σ' := (159, [some (vR 1), some (vI a1)], [vR 1, vR 2], (G0, M))) hc 1 rfl ?_
    refine Rn_getR hc rfl tgc_1 (by decide) rfl prc_1_3 ?_
    refine Rn_ms (σ' := (165, [some (vR 1), some (vI a1)], [vI (a1 + 1), vR 172, vR 2], (G0, M))) hc 3 rfl ?_
    refine R_bind e (fun k3 hk3 e => ?_)
    refine Rn_cv hc rfl rfl (by decide) (ii := xi_50) rfl rfl rfl (tgc_172 : Tg _ = 6) (by decide) rfl (le := [some (vR 172), some (vI (a1 + 1)), none, none, none]) rfl (v := some (vI k3)) (M' := M) (t_50  (d := d + 2) hk3 rfl) ?_
    refine Rn_ms (σ' := (169, [some (vR 1), some (vI a1)], [vR 1, vI k3, vR 2], (G0, M))) hc 1 rfl ?_
    refine Rn_getR hc rfl tgc_1 (by decide) rfl prc_1_3 ?_
    refine Rn_ms (σ' := (173, [some (vR 1), some (vI a1)], [vR 1, vR 172, vI k3, vR 2], (G0, M))) hc 1 rfl ?_
    refine Rn_getR hc rfl tgc_1 (by decide) rfl prc_1_3 ?_
    refine Rn_ms (σ' := (179, [some (vR 1), some (vI a1)], [vI (a1 + 1), vR 172, vR 172, vI k3, vR 2], (G0, M))) hc 3 rfl ?_
    refine R_bind e (fun k4 hk4 e => ?_)
    refine Rn_cv hc rfl rfl (by decide) (ii := xi_49) rfl rfl rfl (tgc_172 : Tg _ = 6) (by decide) rfl (le := [some (vR 172), some (vI (a1 + 1)), none]) rfl (v := some (vI k4)) (M' := M) (t_49  (d := d + 3) hk4 rfl) ?_
    refine Rn_ms (σ' := (184, [some (vR 1), some (vI a1)], [vI (k4 + 1), vR 172, vI k3, vR 2], (G0, M))) hc 2 rfl ?_
    refine R_bind e (fun k5 hk5 e => ?_)
    refine Rn_cv hc rfl rfl (by decide) (ii := xi_50) rfl rfl rfl (tgc_172 : Tg _ = 6) (by decide) rfl (le := [some (vR 172), some (vI (k4 + 1)), none, none, none]) rfl (v := some (vI k5)) (M' := M) (t_50  (d := d + 2) hk5 rfl) ?_
    show Rn rom (d + 5) 131 (187, [some (vR 1), some (vI a1)], [vI k5, vI k3, vR 2], (G0, M)) out
    refine R_bind e (fun k6 hk6 e => ?_)
    refine Rn_cv hc rfl rfl (by decide) (ii := xi_77) rfl rfl rfl (tgc_2 : Tg _ = 7) (by decide) rfl (le := [some (vR 2), some (vI k3), some (vI k5)]) rfl (v := some (vI k6.1)) (M' := k6.2) (t_77 tgc_2 (d := d + 0) hk6 rfl) ?_
    show Rn rom (d + 5) 131 (190, [some (vR 1), some (vI a1)], [vI k6.1], (G0, k6.2)) out
    cases e
    exact R_end (Rn_iret hc rfl rfl (xretI rfl rfl)) hK
  refine R_ite e (fun b7 e => ?_) (fun b7 e => ?_)
  · refine Rn_tsw (off := 183) (tgt := 191) hc rfl rfl (xsw_at b7 (by decide) (by decide) (by decide) rfl) rfl ?_
    refine Rn_ms (σ' := (193, [some (vR 1), some (vI a1)], [vI (-2)], (G0, M))) hc 1 rfl ?_
    cases e
    exact R_end (Rn_iret hc rfl rfl (xretI rfl rfl)) hK
  refine R_ite e (fun b8 e => ?_) (fun b8 e => ?_)
  · refine Rn_tsw (off := 183) (tgt := 191) hc rfl rfl (xsw_at b8 (by decide) (by decide) (by decide) rfl) rfl ?_
    refine Rn_ms (σ' := (193, [some (vR 1), some (vI a1)], [vI (-2)], (G0, M))) hc 1 rfl ?_
    cases e
    exact R_end (Rn_iret hc rfl rfl (xretI rfl rfl)) hK
  refine R_ite e (fun b9 e => ?_) (fun b9 e => ?_)
  · refine Rn_tsw (off := 183) (tgt := 191) hc rfl rfl (xsw_at b9 (by decide) (by decide) (by decide) rfl) rfl ?_
    refine Rn_ms (σ' := (193, [some (vR 1), some (vI a1)], [vI (-2)], (G0, M))) hc 1 rfl ?_
    cases e
    exact R_end (Rn_iret hc rfl rfl (xretI rfl rfl)) hK
  refine R_ite e (fun b10 e => ?_) (fun b10 e => ?_)
  · refine Rn_tsw (off := 183) (tgt := 191) hc rfl rfl (xsw_at b10 (by decide) (by decide) (by decide) rfl) rfl ?_
    refine Rn_ms (σ' := (193, [some (vR 1), some (vI a1)], [vI (-2)], (G0, M))) hc 1 rfl ?_
    cases e
    exact R_end (Rn_iret hc rfl rfl (xretI rfl rfl)) hK
  refine R_ite e (fun b11 e => ?_) (fun b11 e => ?_)
  · refine Rn_tsw (off := 183) (tgt := 191) hc rfl rfl (xsw_at b11 (by decide) (by decide) (by decide) rfl) rfl ?_
    refine Rn_ms (σ' := (193, [some (vR 1), some (vI a1)], [vI (-2)], (G0, M))) hc 1 rfl ?_
    cases e
    exact R_end (Rn_iret hc rfl rfl (xretI rfl rfl)) hK
  refine R_ite e (fun b12 e => ?_) (fun b12 e => ?_)
  · refine Rn_tsw (off := 183) (tgt := 191) hc rfl rfl (xsw_at b12 (by decide) (by decide) (by decide) rfl) rfl ?_
    refine Rn_ms (σ' := (193, [some (vR 1), some (vI a1)], [vI (-2)], (G0, M))) hc 1 rfl ?_
    cases e
    exact R_end (Rn_iret hc rfl rfl (xretI rfl rfl)) hK
  refine R_ite e (fun b13 e => ?_) (fun b13 e => ?_)
  · refine Rn_tsw (off := 183) (tgt := 191) hc rfl rfl (xsw_at b13 (by decide) (by decide) (by decide) rfl) rfl ?_
    refine Rn_ms (σ' := (193, [some (vR 1), some (vI a1)], [vI (-2)], (G0, M))) hc 1 rfl ?_
    cases e
    exact R_end (Rn_iret hc rfl rfl (xretI rfl rfl)) hK
  refine R_ite e (fun b14 e => ?_) (fun b14 e => ?_)
  · refine Rn_tsw (off := 88) (tgt := 96) hc rfl rfl (xsw_at b14 (by decide) (by decide) (by decide) rfl) rfl ?_
    refine Rn_ms (σ' := (97, [some (vR 1), some (vI a1)], [vR 1], (G0, M))) hc 1 rfl ?_
    refine Rn_getR hc rfl tgc_1 (by decide) rfl prc_1_0 ?_
    show Rn rom (d + 5) 131 (100, [some (vR 1), some (vI a1)], [vR 2], (G0, M)) out
    refine R_bind e (fun k15 hk15 e => ?_)
    refine Rn_cv hc rfl rfl (by decide) (ii := xi_69) rfl rfl rfl (tgc_2 : Tg _ = 7) (by decide) rfl (le := [some (vR 2)]) rfl (v := some (vI k15.1)) (M' := k15.2) (t_69 tgc_2 (d := d + 0) hk15 rfl) ?_
    show Rn rom (d + 5) 131 (103, [some (vR 1), some (vI a1)], [vI k15.1], (G0, k15.2)) out
    cases e
    exact R_end (Rn_iret hc rfl rfl (xretI rfl rfl)) hK
  refine R_ite e (fun b16 e => ?_) (fun b16 e => ?_)
  · refine Rn_tsw (off := 183) (tgt := 191) hc rfl rfl (xsw_at b16 (by decide) (by decide) (by decide) rfl) rfl ?_
    refine Rn_ms (σ' := (193, [some (vR 1), some (vI a1)], [vI (-2)], (G0, M))) hc 1 rfl ?_
    cases e
    exact R_end (Rn_iret hc rfl rfl (xretI rfl rfl)) hK
  refine R_ite e (fun b17 e => ?_) (fun b17 e => ?_)
  · refine Rn_tsw (off := 183) (tgt := 191) hc rfl rfl (xsw_at b17 (by decide) (by decide) (by decide) rfl) rfl ?_
    refine Rn_ms (σ' := (193, [some (vR 1), some (vI a1)], [vI (-2)], (G0, M))) hc 1 rfl ?_
    cases e
    exact R_end (Rn_iret hc rfl rfl (xretI rfl rfl)) hK
  refine R_ite e (fun b18 e => ?_) (fun b18 e => ?_)
  · refine Rn_tsw (off := 96) (tgt := 104) hc rfl rfl (xsw_at b18 (by decide) (by decide) (by decide) rfl) rfl ?_
    refine Rn_ms (σ' := (105, [some (vR 1), some (vI a1)], [vR 1], (G0, M))) hc 1 rfl ?_
    refine Rn_getR hc rfl tgc_1 (by decide) rfl prc_1_0 ?_
    show Rn rom (d + 5) 131 (108, [some (vR 1), some (vI a1)], [vR 2], (G0, M)) out
    refine R_bnd e (fun k19 hk19 e => ?_)
    refine Rn_cv hc rfl rfl (by decide) (ii := xi_75) rfl rfl rfl (tgc_2 : Tg _ = 7) (by decide) rfl (le := [some (vR 2)]) rfl (v := some (vI k19.1)) (M' := k19.2) (t_75 tgc_2 (d := d + 4) hk19.symm rfl) ?_
    show Rn rom (d + 5) 131 (111, [some (vR 1), some (vI a1)], [vI k19.1], (G0, k19.2)) out
    cases e
    exact R_end (Rn_iret hc rfl rfl (xretI rfl rfl)) hK
  refine R_ite e (fun b20 e => ?_) (fun b20 e => ?_)
  · refine Rn_tsw (off := 128) (tgt := 136) hc rfl rfl (xsw_at b20 (by decide) (by decide) (by decide) rfl) rfl ?_
    refine Rn_ms (σ' := (137, [some (vR 1), some (vI a1)], [vR 1], (G0, M))) hc 1 rfl ?_
    refine Rn_getR hc rfl tgc_1 (by decide) rfl prc_1_0 ?_
    refine Rn_ms (σ' := (141, [some (vR 1), some (vI a1)], [vR 1, vR 2], (G0, M))) hc 1 rfl ?_
    refine Rn_getR hc rfl tgc_1 (by decide) rfl prc_1_3 ?_
    refine Rn_ms (σ' := (147, [some (vR 1), some (vI a1)], [vI (a1 + 1), vR 172, vR 2], (G0, M))) hc 3 rfl ?_
    refine R_bind e (fun k21 hk21 e => ?_)
    refine Rn_cv hc rfl rfl (by decide) (ii := xi_50) rfl rfl rfl (tgc_172 : Tg _ = 6) (by decide) rfl (le := [some (vR 172), some (vI (a1 + 1)), none, none, none]) rfl (v := some (vI k21)) (M' := M) (t_50  (d := d + 2) hk21 rfl) ?_
    show Rn rom (d + 5) 131 (150, [some (vR 1), some (vI a1)], [vI k21, vR 2], (G0, M)) out
    refine R_bind e (fun k22 hk22 e => ?_)
    refine Rn_cv hc rfl rfl (by decide) (ii := xi_79) rfl rfl rfl (tgc_2 : Tg _ = 7) (by decide) rfl (le := [some (vR 2), some (vI k21), none, none, none]) rfl (v := some (vI k22.1)) (M' := k22.2) (t_79 tgc_2 (d := d + 0) hk22 rfl) ?_
    show Rn rom (d + 5) 131 (153, [some (vR 1), some (vI a1)], [vI k22.1], (G0, k22.2)) out
    cases e
    exact R_end (Rn_iret hc rfl rfl (xretI rfl rfl)) hK
  refine R_ite e (fun b23 e => ?_) (fun b23 e => ?_)
  · refine Rn_tsw (off := 183) (tgt := 191) hc rfl rfl (xsw_at b23 (by decide) (by decide) (by decide) rfl) rfl ?_
    refine Rn_ms (σ' := (193, [some (vR 1), some (vI a1)], [vI (-2)], (G0, M))) hc 1 rfl ?_
    cases e
    exact R_end (Rn_iret hc rfl rfl (xretI rfl rfl)) hK
  refine R_ite e (fun b24 e => ?_) (fun b24 e => ?_)
  · refine Rn_tsw (off := 104) (tgt := 112) hc rfl rfl (xsw_at b24 (by decide) (by decide) (by decide) rfl) rfl ?_
    refine Rn_ms (σ' := (113, [some (vR 1), some (vI a1)], [vR 1], (G0, M))) hc 1 rfl ?_
    refine Rn_getR hc rfl tgc_1 (by decide) rfl prc_1_0 ?_
    show Rn rom (d + 5) 131 (116, [some (vR 1), some (vI a1)], [vR 2], (G0, M)) out
    refine R_bnd e (fun k25 hk25 e => ?_)
    refine Rn_cv hc rfl rfl (by decide) (ii := xi_86) rfl rfl rfl (tgc_2 : Tg _ = 7) (by decide) rfl (le := [some (vR 2)]) rfl (v := some (vI k25.1)) (M' := k25.2) (t_86 tgc_2 (d := d + 4) hk25.symm rfl) ?_
    show Rn rom (d + 5) 131 (119, [some (vR 1), some (vI a1)], [vI k25.1], (G0, k25.2)) out
    cases e
    exact R_end (Rn_iret hc rfl rfl (xretI rfl rfl)) hK
  refine R_ite e (fun b26 e => ?_) (fun b26 e => ?_)
  · refine Rn_tsw (off := 183) (tgt := 191) hc rfl rfl (xsw_at b26 (by decide) (by decide) (by decide) rfl) rfl ?_
    refine Rn_ms (σ' := (193, [some (vR 1), some (vI a1)], [vI (-2)], (G0, M))) hc 1 rfl ?_
    cases e
    exact R_end (Rn_iret hc rfl rfl (xretI rfl rfl)) hK
  refine R_ite e (fun b27 e => ?_) (fun b27 e => ?_)
  · refine Rn_tsw (off := 112) (tgt := 120) hc rfl rfl (xsw_at b27 (by decide) (by decide) (by decide) rfl) rfl ?_
    refine Rn_ms (σ' := (121, [some (vR 1), some (vI a1)], [vR 1], (G0, M))) hc 1 rfl ?_
    refine Rn_getR hc rfl tgc_1 (by decide) rfl prc_1_0 ?_
    show Rn rom (d + 5) 131 (124, [some (vR 1), some (vI a1)], [vR 2], (G0, M)) out
    refine R_bind e (fun k28 hk28 e => ?_)
    refine Rn_cv hc rfl rfl (by decide) (ii := xi_83) rfl rfl rfl (tgc_2 : Tg _ = 7) (by decide) rfl (le := [some (vR 2)]) rfl (v := some (vI k28.1)) (M' := k28.2) (t_83 tgc_2 (d := d + 2) hk28 rfl) ?_
    show Rn rom (d + 5) 131 (127, [some (vR 1), some (vI a1)], [vI k28.1], (G0, k28.2)) out
    cases e
    exact R_end (Rn_iret hc rfl rfl (xretI rfl rfl)) hK
  refine R_ite e (fun b29 e => ?_) (fun b29 e => ?_)
  · refine Rn_tsw (off := 120) (tgt := 128) hc rfl rfl (xsw_at b29 (by decide) (by decide) (by decide) rfl) rfl ?_
    refine Rn_ms (σ' := (129, [some (vR 1), some (vI a1)], [vR 1], (G0, M))) hc 1 rfl ?_
    refine Rn_getR hc rfl tgc_1 (by decide) rfl prc_1_0 ?_
    show Rn rom (d + 5) 131 (132, [some (vR 1), some (vI a1)], [vR 2], (G0, M)) out
    refine R_bnd e (fun k30 hk30 e => ?_)
    refine Rn_cv hc rfl rfl (by decide) (ii := xi_84) rfl rfl rfl (tgc_2 : Tg _ = 7) (by decide) rfl (le := [some (vR 2)]) rfl (v := some (vI k30.1)) (M' := k30.2) (t_84 tgc_2 (d := d + 3) hk30.symm rfl) ?_
    show Rn rom (d + 5) 131 (135, [some (vR 1), some (vI a1)], [vI k30.1], (G0, k30.2)) out
    cases e
    exact R_end (Rn_iret hc rfl rfl (xretI rfl rfl)) hK
  refine Rn_tsw (off := 183) (tgt := 191) hc rfl rfl (xsw_df (by omega)) rfl ?_
  refine Rn_ms (σ' := (193, [some (vR 1), some (vI a1)], [vI (-2)], (G0, M))) hc 1 rfl ?_
  cases e
  exact R_end (Rn_iret hc rfl rfl (xretI rfl rfl)) hK
def f_110_L48b (v1 : Int) (v2 : Int) (M : xM) : Option ((Int × Int × xM) ⊕ (Int × xM)) :=
  if wr (f_44 M) ≤ wr v2 then
    bnd (f_46 M) (fun k7 =>
    some (.inr ((v1, k7.2)))
    )
  else
    (f_16 M).bind (fun k8 =>
    if wr k8 = 0 then
      (f_48 M v2).bind (fun k10 =>
      if wr k10 = 0 then
        some (.inl (v1, (v2 + 1), M))
      else
        (f_131 M v2).bind (fun k12 =>
        if 0 ≤ wr k12.1 then
          some (.inl ((v1 + 1), (v2 + 1), k12.2))
        else
          bnd (f_18 k12.2 k12.1 v1 v2) (fun k14 =>
          some (.inl (v1, (v2 + 1), k14))
          )
        )
      )
    else
      bnd (f_46 M) (fun k15 =>
      some (.inr ((v1, k15.2)))
      )
    )
theorem t_110_L48b {rom : xRom} {d : Nat} {v1 : Int} {v2 : Int} {M : xM} {r : (Int × Int × xM) ⊕ (Int × xM)} {out : Option xV × xH} (e : f_110_L48b v1 v2 M = some r) (hK : ((Sum.elim (fun s => Rn rom (d + 6) 110 (48, [some (vR 1), some (vI s.1), some (vI s.2.1), none], [], (G0, s.2.2)) out) (eIW out))) r) : Rn rom (d + 6) 110 (48, [some (vR 1), some (vI v1), some (vI v2), none], [], (G0, M)) out := by
  have hc : xkall.getD 110 [] = xk_110 := rfl
  unfold f_110_L48b at e
  refine Rn_ms (σ' := (50, [some (vR 1), some (vI v1), some (vI v2), none], [vR 1, vI v2], (G0, M))) hc 2 rfl ?_
  refine Rn_getR hc rfl tgc_1 (by decide) rfl prc_1_3 ?_
  show Rn rom (d + 6) 110 (53, [some (vR 1), some (vI v1), some (vI v2), none], [vR 172, vI v2], (G0, M)) out
  refine Rn_cv hc rfl rfl (by decide) (ii := xi_44) rfl rfl rfl (tgc_172 : Tg _ = 6) (by decide) rfl (le := [some (vR 172)]) rfl (v := some (vI (f_44 M))) (M' := M) (t_44  (d := d + 5) rfl rfl) ?_
  show Rn rom (d + 6) 110 (56, [some (vR 1), some (vI v1), some (vI v2), none], [vI (f_44 M), vI v2], (G0, M)) out
  refine R_ite e (fun b6 e => ?_) (fun b6 e => ?_)
  · refine Rn_icT (tgt := 115) hc rfl rfl (by decide) b6 ?_
    refine Rn_ms (σ' := (116, [some (vR 1), some (vI v1), some (vI v2), none], [vR 1], (G0, M))) hc 1 rfl ?_
    refine Rn_getR hc rfl tgc_1 (by decide) rfl prc_1_3 ?_
    show Rn rom (d + 6) 110 (119, [some (vR 1), some (vI v1), some (vI v2), none], [vR 172], (G0, M)) out
    refine R_bnd e (fun k7 hk7 e => ?_)
    refine Rn_cv hc rfl rfl (by decide) (ii := xi_46) rfl rfl rfl (tgc_172 : Tg _ = 6) (by decide) rfl (le := [some (vR 172), none]) rfl (v := some (vI k7.1)) (M' := k7.2) (t_46  (d := d + 5) hk7.symm rfl) ?_
    refine Rn_ms (σ' := (124, [some (vR 1), some (vI v1), some (vI v2), none], [vI v1], (G0, k7.2))) hc 2 rfl ?_
    cases e
    exact R_end (Rn_iret hc rfl rfl (xretI rfl rfl)) hK
  · refine Rn_icF hc rfl rfl (by decide) b6 ?_
    refine Rn_ms (σ' := (60, [some (vR 1), some (vI v1), some (vI v2), none], [vR 1], (G0, M))) hc 1 rfl ?_
    refine Rn_getR hc rfl tgc_1 (by decide) rfl prc_1_6 ?_
    show Rn rom (d + 6) 110 (63, [some (vR 1), some (vI v1), some (vI v2), none], [vR 176], (G0, M)) out
    refine R_bind e (fun k8 hk8 e => ?_)
    refine Rn_cv hc rfl rfl (by decide) (ii := xi_16) rfl rfl rfl (tgc_176 : Tg _ = 1) (by decide) rfl (le := [some (vR 176)]) rfl (v := some (vI k8)) (M' := M) (t_16  (d := d + 5) hk8 rfl) ?_
    show Rn rom (d + 6) 110 (66, [some (vR 1), some (vI v1), some (vI v2), none], [vI k8], (G0, M)) out
    refine R_ite e (fun b9 e => ?_) (fun b9 e => ?_)
    · refine Rn_ifF hc rfl rfl (by decide) (fun w => w b9) ?_
      refine Rn_ms (σ' := (70, [some (vR 1), some (vI v1), some (vI v2), none], [vR 1], (G0, M))) hc 1 rfl ?_
      refine Rn_getR hc rfl tgc_1 (by decide) rfl prc_1_3 ?_
      refine Rn_ms (σ' := (74, [some (vR 1), some (vI v1), some (vI v2), none], [vI v2, vR 172], (G0, M))) hc 1 rfl ?_
      refine R_bind e (fun k10 hk10 e => ?_)
      refine Rn_cv hc rfl rfl (by decide) (ii := xi_48) rfl rfl rfl (tgc_172 : Tg _ = 6) (by decide) rfl (le := [some (vR 172), some (vI v2)]) rfl (v := some (vI k10)) (M' := M) (t_48  (d := d + 4) hk10 rfl) ?_
      show Rn rom (d + 6) 110 (77, [some (vR 1), some (vI v1), some (vI v2), none], [vI k10], (G0, M)) out
      refine R_ite e (fun b11 e => ?_) (fun b11 e => ?_)
      · refine Rn_ifF hc rfl rfl (by decide) (fun w => w b11) ?_
        refine Rn_ms (σ' := (48, [some (vR 1), some (vI v1), some (vI (v2 + 1)), none], [], (G0, M))) hc 3 rfl ?_
        cases e
        exact Rn_weak (xle_s (xle_s (xle_s (xle_s xle_0)))) hK
      · refine Rn_ifT (tgt := 83) hc rfl rfl (by decide) (fun w => b11 w) ?_
        refine Rn_ms (σ' := (85, [some (vR 1), some (vI v1), some (vI v2), none], [vI v2, vR 1], (G0, M))) hc 2 rfl ?_
        refine R_bind e (fun k12 hk12 e => ?_)
        refine Rn_cv hc rfl rfl (by decide) (ii := xi_131) rfl rfl rfl (tgc_1 : Tg _ = 10) (by decide) rfl (le := [some (vR 1), some (vI v2)]) rfl (v := some (vI k12.1)) (M' := k12.2) (t_131  (d := d + 0) hk12 rfl) ?_
        refine Rn_ms (σ' := (90, [some (vR 1), some (vI v1), some (vI v2), some (vI k12.1)], [vI k12.1], (G0, k12.2))) hc 2 rfl ?_
        refine R_ite e (fun b13 e => ?_) (fun b13 e => ?_)
        · refine Rn_ifT (tgt := 106) hc rfl rfl (by decide) b13 ?_
          refine Rn_ms (σ' := (48, [some (vR 1), some (vI (v1 + 1)), some (vI (v2 + 1)), some (vI k12.1)], [], (G0, k12.2))) hc 3 rfl ?_
          cases e
          exact Rn_weak (xle_s (xle_s (xle_s (xle_n xle_0)))) hK
        · refine Rn_ifF hc rfl rfl (by decide) b13 ?_
          refine Rn_ms (σ' := (94, [some (vR 1), some (vI v1), some (vI v2), some (vI k12.1)], [vR 1], (G0, k12.2))) hc 1 rfl ?_
          refine Rn_getR hc rfl tgc_1 (by decide) rfl prc_1_6 ?_
          refine Rn_ms (σ' := (100, [some (vR 1), some (vI v1), some (vI v2), some (vI k12.1)], [vI v2, vI v1, vI k12.1, vR 176], (G0, k12.2))) hc 3 rfl ?_
          refine R_bnd e (fun k14 hk14 e => ?_)
          refine Rn_cv hc rfl rfl (by decide) (ii := xi_18) rfl rfl rfl (tgc_176 : Tg _ = 1) (by decide) rfl (le := [some (vR 176), some (vI k12.1), some (vI v1), some (vI v2)]) rfl (v := none) (M' := k14) (t_18  (d := d + 5) hk14.symm rfl) ?_
          refine Rn_ms (σ' := (48, [some (vR 1), some (vI v1), some (vI (v2 + 1)), some (vI k12.1)], [], (G0, k14))) hc 3 rfl ?_
          cases e
          exact Rn_weak (xle_s (xle_s (xle_s (xle_n xle_0)))) hK
    · refine Rn_ifT (tgt := 115) hc rfl rfl (by decide) (fun w => b9 w) ?_
      refine Rn_ms (σ' := (116, [some (vR 1), some (vI v1), some (vI v2), none], [vR 1], (G0, M))) hc 1 rfl ?_
      refine Rn_getR hc rfl tgc_1 (by decide) rfl prc_1_3 ?_
      show Rn rom (d + 6) 110 (119, [some (vR 1), some (vI v1), some (vI v2), none], [vR 172], (G0, M)) out
      refine R_bnd e (fun k15 hk15 e => ?_)
      refine Rn_cv hc rfl rfl (by decide) (ii := xi_46) rfl rfl rfl (tgc_172 : Tg _ = 6) (by decide) rfl (le := [some (vR 172), none]) rfl (v := some (vI k15.1)) (M' := k15.2) (t_46  (d := d + 5) hk15.symm rfl) ?_
      refine Rn_ms (σ' := (124, [some (vR 1), some (vI v1), some (vI v2), none], [vI v1], (G0, k15.2))) hc 2 rfl ?_
      cases e
      exact R_end (Rn_iret hc rfl rfl (xretI rfl rfl)) hK
def f_110_L48  (s : Int × Int × xM) : Option (Int × xM) := loop NF (fun s => f_110_L48b s.1 s.2.1 s.2.2) s
theorem t_110_L48 {rom : xRom} {d : Nat}  {s : Int × Int × xM} {r : Int × xM} {out : Option xV × xH} (e : f_110_L48  s = some r) (hK : (eIW out) r) : Rn rom (d + 6) 110 (48, [some (vR 1), some (vI s.1), some (vI s.2.1), none], [], (G0, s.2.2)) out := by
  unfold f_110_L48 at e
  revert e hK
  exact R_loop (b := fun s => f_110_L48b s.1 s.2.1 s.2.2) (G := fun s => Rn rom (d + 6) 110 (48, [some (vR 1), some (vI s.1), some (vI s.2.1), none], [], (G0, s.2.2)) out) (K := eIW out) (fun s r e hK => t_110_L48b  e hK) NF s r
/-- PedalLayers.play -/
def f_110 (M : xM) : Option (Int × xM) :=
  (f_51_174 M).bind (fun k1 =>
  if wr k1 = (-4) then
    (f_23 M 2).bind (fun k3 =>
    bnd (f_24 k3) (fun k4 =>
    bnd (f_17 k4) (fun k5 =>
    f_110_L48 (0, 0, k5)
    )))
  else
    some ((-2), M)
  )
theorem t_110 {rom : xRom} {d : Nat} {M : xM}  {r : Int × xM} {out : Option xV × xH} (e : f_110 M = some r) (hK : eIW out r) : Rn rom (d + 6) 110 (0, [some (vR 1), none, none, none], [], (G0, M)) out := by
  have hc : xkall.getD 110 [] = xk_110 := rfl
  unfold f_110 at e
  refine Rn_ms (σ' := (1, [some (vR 1), none, none, none], [vR 1], (G0, M))) hc 1 rfl ?_
  refine Rn_getR hc rfl tgc_1 (by decide) rfl prc_1_3 ?_
  refine Rn_ms (σ' := (5, [some (vR 1), none, none, none], [vR 1, vR 172], (G0, M))) hc 1 rfl ?_
  refine Rn_getR hc rfl tgc_1 (by decide) rfl prc_1_4 ?_
  show Rn rom (d + 6) 110 (8, [some (vR 1), none, none, none], [vR 174, vR 172], (G0, M)) out
  refine R_bind e (fun k1 hk1 e => ?_)
  refine Rn_cv hc rfl rfl (by decide) (ii := xi_51) rfl rfl rfl (tgc_172 : Tg _ = 6) (by decide) rfl (le := [some (vR 172), some (vR 174), none, none]) rfl (v := some (vI k1)) (M' := M) (t_51_174  (d := d + 3) hk1 rfl) ?_
  refine Rn_ms (σ' := (13, [some (vR 1), none, none, none], [vI (-4), vI k1], (G0, M))) hc 1 rfl ?_
  refine R_ite e (fun b2 e => ?_) (fun b2 e => ?_)
  · refine Rn_icT (tgt := 19) hc rfl rfl (by decide) b2 ?_
    refine Rn_ms (σ' := (20, [some (vR 1), none, none, none], [vR 1], (G0, M))) hc 1 rfl ?_
    refine Rn_getR hc rfl tgc_1 (by decide) rfl prc_1_2 ?_
    refine Rn_ms (σ' := (24, [some (vR 1), none, none, none], [vR 1, vR 50], (G0, M))) hc 1 rfl ?_
    refine Rn_getR hc rfl tgc_1 (by decide) rfl prc_1_0 ?_
    show Rn rom (d + 6) 110 (27, [some (vR 1), none, none, none], [vR 2, vR 50], (G0, M)) out
    refine R_bind e (fun k3 hk3 e => ?_)
    refine Rn_cv hc rfl rfl (by decide) (ii := xi_23) rfl rfl rfl (tgc_50 : Tg _ = 2) (by decide) rfl (le := [some (vR 50), some (vR 2), none]) rfl (v := none) (M' := k3) (t_23 tgc_2 (d := d + 0) hk3 rfl) ?_
    refine Rn_ms (σ' := (31, [some (vR 1), none, none, none], [vR 1], (G0, k3))) hc 1 rfl ?_
    refine Rn_getR hc rfl tgc_1 (by decide) rfl prc_1_2 ?_
    show Rn rom (d + 6) 110 (34, [some (vR 1), none, none, none], [vR 50], (G0, k3)) out
    refine R_bnd e (fun k4 hk4 e => ?_)
    refine Rn_cv hc rfl rfl (by decide) (ii := xi_24) rfl rfl rfl (tgc_50 : Tg _ = 2) (by decide) rfl (le := [some (vR 50)]) rfl (v := none) (M' := k4) (t_24  (d := d + 4) hk4.symm rfl) ?_
    refine Rn_ms (σ' := (38, [some (vR 1), none, none, none], [vR 1], (G0, k4))) hc 1 rfl ?_
    refine Rn_getR hc rfl tgc_1 (by decide) rfl prc_1_6 ?_
    show Rn rom (d + 6) 110 (41, [some (vR 1), none, none, none], [vR 176], (G0, k4)) out
    refine R_bnd e (fun k5 hk5 e => ?_)
    refine Rn_cv hc rfl rfl (by decide) (ii := xi_17) rfl rfl rfl (tgc_176 : Tg _ = 1) (by decide) rfl (le := [some (vR 176)]) rfl (v := none) (M' := k5) (t_17  (d := d + 5) hk5.symm rfl) ?_
    refine Rn_ms (σ' := (48, [some (vR 1), some (vI 0), some (vI 0), none], [], (G0, k5))) hc 4 rfl ?_
    exact Rn_weak (xle_s (xle_s (xle_s (xle_s xle_0)))) (t_110_L48  e hK)
  · refine Rn_icF hc rfl rfl (by decide) b2 ?_
    refine Rn_ms (σ' := (18, [some (vR 1), none, none, none], [vI (-2)], (G0, M))) hc 1 rfl ?_
    cases e
    exact R_end (Rn_iret hc rfl rfl (xretI rfl rfl)) hK
/-- PedalLayers.why -/
def f_111 (M : xM) (a1 : Int) : Int :=
  (f_19 M a1)
theorem t_111 {rom : xRom} {d : Nat} {M : xM} {a1 : Int} {r : Int} {out : Option xV × xH} (e : f_111 M a1 = r) (hK : eI M out r) : Rn rom (d + 1) 111 (0, [some (vR 1), some (vI a1)], [], (G0, M)) out := by
  have hc : xkall.getD 111 [] = xk_111 := rfl
  unfold f_111 at e
  refine Rn_ms (σ' := (1, [some (vR 1), some (vI a1)], [vR 1], (G0, M))) hc 1 rfl ?_
  refine Rn_getR hc rfl tgc_1 (by decide) rfl prc_1_6 ?_
  refine Rn_ms (σ' := (5, [some (vR 1), some (vI a1)], [vI a1, vR 176], (G0, M))) hc 1 rfl ?_
  refine Rn_cv hc rfl rfl (by decide) (ii := xi_19) rfl rfl rfl (tgc_176 : Tg _ = 1) (by decide) rfl (le := [some (vR 176), some (vI a1)]) rfl (v := some (vI (f_19 M a1))) (M' := M) (t_19  (d := d + 0) rfl rfl) ?_
  show Rn rom (d + 1) 111 (8, [some (vR 1), some (vI a1)], [vI (f_19 M a1)], (G0, M)) out
  cases e
  exact R_end (Rn_iret hc rfl rfl (xretI rfl rfl)) hK
/-- PedalLayers.layer -/
def f_112 (M : xM) (a1 : Int) (a2 : Int) : Option (Int) :=
  if (f_58 M 2 a1) = 0 then
    some (-1)
  else
    if wr a2 = 0 then
      gd (Tg (f_58 M 2 a1) = 3) (
      some (f_29 M ((f_58 M 2 a1) + 1))
      )
    else
    if wr a2 = 1 then
      gd (Tg (f_58 M 2 a1) = 3) (
      (f_36 M ((f_58 M 2 a1) + 1)).bind (fun k6 =>
      some (k6)
      ))
    else
    if wr a2 = 2 then
      gd (Tg (f_58 M 2 a1) = 3) (
      (f_37 M ((f_58 M 2 a1) + 1)).bind (fun k9 =>
      some (k9)
      ))
    else
    if wr a2 = 3 then
      gd (Tg (f_58 M 2 a1) = 3) (
      (f_38 M ((f_58 M 2 a1) + 1) 0).bind (fun k12 =>
      some (k12)
      ))
    else
    if wr a2 = 4 then
      gd (Tg (f_58 M 2 a1) = 3) (
      if wr (M (f_58 M 2 a1) 1) = 0 then
        some (0)
      else
        some (1)
      )
    else
    if wr a2 = 5 then
      gd (Tg (f_58 M 2 a1) = 3) (
      some (M (f_58 M 2 a1) 2)
      )
    else
    some (-1)
theorem t_112 {rom : xRom} {d : Nat} {M : xM} {a1 : Int} {a2 : Int} {r : Int} {out : Option xV × xH} (e : f_112 M a1 a2 = some r) (hK : eI M out r) : Rn rom (d + 3) 112 (0, [some (vR 1), some (vI a1), some (vI a2), none], [], (G0, M)) out := by
  have hc : xkall.getD 112 [] = xk_112 := rfl
  unfold f_112 at e
  refine Rn_ms (σ' := (1, [some (vR 1), some (vI a1), some (vI a2), none], [vR 1], (G0, M))) hc 1 rfl ?_
  refine Rn_getR hc rfl tgc_1 (by decide) rfl prc_1_0 ?_
  refine Rn_ms (σ' := (5, [some (vR 1), some (vI a1), some (vI a2), none], [vI a1, vR 2], (G0, M))) hc 1 rfl ?_
  refine Rn_cv hc rfl rfl (by decide) (ii := xi_58) rfl rfl rfl (tgc_2 : Tg _ = 7) (by decide) rfl (le := [some (vR 2), some (vI a1)]) rfl (v := some (vR (f_58 M 2 a1))) (M' := M) (t_58 tgc_2 (d := d + 1) rfl rfl) ?_
  refine Rn_ms (σ' := (10, [some (vR 1), some (vI a1), some (vI a2), some (vR (f_58 M 2 a1))], [vR (f_58 M 2 a1)], (G0, M))) hc 2 rfl ?_
  refine R_ite e (fun b1 e => ?_) (fun b1 e => ?_)
  · refine Rn_nnF hc rfl rfl (by decide) b1 ?_
    refine Rn_ms (σ' := (14, [some (vR 1), some (vI a1), some (vI a2), some (vR (f_58 M 2 a1))], [vI (-1)], (G0, M))) hc 1 rfl ?_
    cases e
    exact R_end (Rn_iret hc rfl rfl (xretI rfl rfl)) hK
  · refine Rn_nnT (tgt := 15) hc rfl rfl (by decide) b1 ?_
    refine Rn_ms (σ' := (16, [some (vR 1), some (vI a1), some (vI a2), some (vR (f_58 M 2 a1))], [vI a2], (G0, M))) hc 1 rfl ?_
    refine R_ite e (fun b2 e => ?_) (fun b2 e => ?_)
    · refine Rn_tsw (off := 40) (tgt := 56) hc rfl rfl (xsw_at b2 (by decide) (by decide) (by decide) rfl) rfl ?_
      refine Rn_ms (σ' := (57, [some (vR 1), some (vI a1), some (vI a2), some (vR (f_58 M 2 a1))], [vR (f_58 M 2 a1)], (G0, M))) hc 1 rfl ?_
      refine R_gd e (fun g3 e => ?_)
      refine Rn_getR hc rfl g3 (by decide) rfl (gP3_0_0 g3) ?_
      show Rn rom (d + 3) 112 (60, [some (vR 1), some (vI a1), some (vI a2), some (vR (f_58 M 2 a1))], [vR ((f_58 M 2 a1) + 1)], (G0, M)) out
      refine Rn_cv hc rfl rfl (by decide) (ii := xi_29) rfl rfl rfl ((gT3_1 g3) : Tg _ = 4) (by decide) rfl (le := [some (vR ((f_58 M 2 a1) + 1))]) rfl (v := some (vI (f_29 M ((f_58 M 2 a1) + 1)))) (M' := M) (t_29 (gT3_1 g3) (d := d + 2) rfl rfl) ?_
      show Rn rom (d + 3) 112 (63, [some (vR 1), some (vI a1), some (vI a2), some (vR (f_58 M 2 a1))], [vI (f_29 M ((f_58 M 2 a1) + 1))], (G0, M)) out
      cases e
      exact R_end (Rn_iret hc rfl rfl (xretI rfl rfl)) hK
    refine R_ite e (fun b4 e => ?_) (fun b4 e => ?_)
    · refine Rn_tsw (off := 48) (tgt := 64) hc rfl rfl (xsw_at b4 (by decide) (by decide) (by decide) rfl) rfl ?_
      refine Rn_ms (σ' := (65, [some (vR 1), some (vI a1), some (vI a2), some (vR (f_58 M 2 a1))], [vR (f_58 M 2 a1)], (G0, M))) hc 1 rfl ?_
      refine R_gd e (fun g5 e => ?_)
      refine Rn_getR hc rfl g5 (by decide) rfl (gP3_0_0 g5) ?_
      show Rn rom (d + 3) 112 (68, [some (vR 1), some (vI a1), some (vI a2), some (vR (f_58 M 2 a1))], [vR ((f_58 M 2 a1) + 1)], (G0, M)) out
      refine R_bind e (fun k6 hk6 e => ?_)
      refine Rn_cv hc rfl rfl (by decide) (ii := xi_36) rfl rfl rfl ((gT3_1 g5) : Tg _ = 4) (by decide) rfl (le := [some (vR ((f_58 M 2 a1) + 1)), none, none]) rfl (v := some (vI k6)) (M' := M) (t_36 (gT3_1 g5) (d := d + 2) hk6 rfl) ?_
      show Rn rom (d + 3) 112 (71, [some (vR 1), some (vI a1), some (vI a2), some (vR (f_58 M 2 a1))], [vI k6], (G0, M)) out
      cases e
      exact R_end (Rn_iret hc rfl rfl (xretI rfl rfl)) hK
    refine R_ite e (fun b7 e => ?_) (fun b7 e => ?_)
    · refine Rn_tsw (off := 56) (tgt := 72) hc rfl rfl (xsw_at b7 (by decide) (by decide) (by decide) rfl) rfl ?_
      refine Rn_ms (σ' := (73, [some (vR 1), some (vI a1), some (vI a2), some (vR (f_58 M 2 a1))], [vR (f_58 M 2 a1)], (G0, M))) hc 1 rfl ?_
      refine R_gd e (fun g8 e => ?_)
      refine Rn_getR hc rfl g8 (by decide) rfl (gP3_0_0 g8) ?_
      show Rn rom (d + 3) 112 (76, [some (vR 1), some (vI a1), some (vI a2), some (vR (f_58 M 2 a1))], [vR ((f_58 M 2 a1) + 1)], (G0, M)) out
      refine R_bind e (fun k9 hk9 e => ?_)
      refine Rn_cv hc rfl rfl (by decide) (ii := xi_37) rfl rfl rfl ((gT3_1 g8) : Tg _ = 4) (by decide) rfl (le := [some (vR ((f_58 M 2 a1) + 1)), none, none]) rfl (v := some (vI k9)) (M' := M) (t_37 (gT3_1 g8) (d := d + 2) hk9 rfl) ?_
      show Rn rom (d + 3) 112 (79, [some (vR 1), some (vI a1), some (vI a2), some (vR (f_58 M 2 a1))], [vI k9], (G0, M)) out
      cases e
      exact R_end (Rn_iret hc rfl rfl (xretI rfl rfl)) hK
    refine R_ite e (fun b10 e => ?_) (fun b10 e => ?_)
    · refine Rn_tsw (off := 64) (tgt := 80) hc rfl rfl (xsw_at b10 (by decide) (by decide) (by decide) rfl) rfl ?_
      refine Rn_ms (σ' := (81, [some (vR 1), some (vI a1), some (vI a2), some (vR (f_58 M 2 a1))], [vR (f_58 M 2 a1)], (G0, M))) hc 1 rfl ?_
      refine R_gd e (fun g11 e => ?_)
      refine Rn_getR hc rfl g11 (by decide) rfl (gP3_0_0 g11) ?_
      refine Rn_ms (σ' := (85, [some (vR 1), some (vI a1), some (vI a2), some (vR (f_58 M 2 a1))], [vI 0, vR ((f_58 M 2 a1) + 1)], (G0, M))) hc 1 rfl ?_
      refine R_bind e (fun k12 hk12 e => ?_)
      refine Rn_cv hc rfl rfl (by decide) (ii := xi_38) rfl rfl rfl ((gT3_1 g11) : Tg _ = 4) (by decide) rfl (le := [some (vR ((f_58 M 2 a1) + 1)), some (vI 0), none, none, none]) rfl (v := some (vI k12)) (M' := M) (t_38 (gT3_1 g11) (d := d + 0) hk12 rfl) ?_
      show Rn rom (d + 3) 112 (88, [some (vR 1), some (vI a1), some (vI a2), some (vR (f_58 M 2 a1))], [vI k12], (G0, M)) out
      cases e
      exact R_end (Rn_iret hc rfl rfl (xretI rfl rfl)) hK
    refine R_ite e (fun b13 e => ?_) (fun b13 e => ?_)
    · refine Rn_tsw (off := 73) (tgt := 89) hc rfl rfl (xsw_at b13 (by decide) (by decide) (by decide) rfl) rfl ?_
      refine Rn_ms (σ' := (90, [some (vR 1), some (vI a1), some (vI a2), some (vR (f_58 M 2 a1))], [vR (f_58 M 2 a1)], (G0, M))) hc 1 rfl ?_
      refine R_gd e (fun g14 e => ?_)
      refine Rn_getI hc rfl g14 (by decide) (by decide) ?_
      show Rn rom (d + 3) 112 (93, [some (vR 1), some (vI a1), some (vI a2), some (vR (f_58 M 2 a1))], [vI (M (f_58 M 2 a1) 1)], (G0, M)) out
      refine R_ite e (fun b15 e => ?_) (fun b15 e => ?_)
      · refine Rn_ifT (tgt := 100) hc rfl rfl (by decide) b15 ?_
        refine Rn_ms (σ' := (101, [some (vR 1), some (vI a1), some (vI a2), some (vR (f_58 M 2 a1))], [vI 0], (G0, M))) hc 1 rfl ?_
        cases e
        exact R_end (Rn_iret hc rfl rfl (xretI rfl rfl)) hK
      · refine Rn_ifF hc rfl rfl (by decide) b15 ?_
        refine Rn_ms (σ' := (101, [some (vR 1), some (vI a1), some (vI a2), some (vR (f_58 M 2 a1))], [vI 1], (G0, M))) hc 2 rfl ?_
        cases e
        exact R_end (Rn_iret hc rfl rfl (xretI rfl rfl)) hK
    refine R_ite e (fun b16 e => ?_) (fun b16 e => ?_)
    · refine Rn_tsw (off := 86) (tgt := 102) hc rfl rfl (xsw_at b16 (by decide) (by decide) (by decide) rfl) rfl ?_
      refine Rn_ms (σ' := (103, [some (vR 1), some (vI a1), some (vI a2), some (vR (f_58 M 2 a1))], [vR (f_58 M 2 a1)], (G0, M))) hc 1 rfl ?_
      refine R_gd e (fun g17 e => ?_)
      refine Rn_getI hc rfl g17 (by decide) (by decide) ?_
      show Rn rom (d + 3) 112 (106, [some (vR 1), some (vI a1), some (vI a2), some (vR (f_58 M 2 a1))], [vI (M (f_58 M 2 a1) 2)], (G0, M)) out
      cases e
      exact R_end (Rn_iret hc rfl rfl (xretI rfl rfl)) hK
    refine Rn_tsw (off := 91) (tgt := 107) hc rfl rfl (xsw_df (by omega)) rfl ?_
    refine Rn_ms (σ' := (108, [some (vR 1), some (vI a1), some (vI a2), some (vR (f_58 M 2 a1))], [vI (-1)], (G0, M))) hc 1 rfl ?_
    cases e
    exact R_end (Rn_iret hc rfl rfl (xretI rfl rfl)) hK
/-- PedalLayers.note -/
def f_113 (M : xM) (a1 : Int) (a2 : Int) (a3 : Int) : Option (Int) :=
  if (f_58 M 2 a1) = 0 then
    some (-1)
  else
    if wr (f_132 a3) = 0 then
      some (-1)
    else
      if wr a2 < 0 then
        some (-1)
      else
        gd (Tg (f_58 M 2 a1) = 3) (
        if wr a2 < wr (f_29 M ((f_58 M 2 a1) + 1)) then
          some (f_30 M ((f_58 M 2 a1) + 1) a2 a3)
        else
          some (-1)
        )
theorem t_113 {rom : xRom} {d : Nat} {M : xM} {a1 : Int} {a2 : Int} {a3 : Int} {r : Int} {out : Option xV × xH} (e : f_113 M a1 a2 a3 = some r) (hK : eI M out r) : Rn rom (d + 2) 113 (0, [some (vR 1), some (vI a1), some (vI a2), some (vI a3), none], [], (G0, M)) out := by
  have hc : xkall.getD 113 [] = xk_113 := rfl
  unfold f_113 at e
  refine Rn_ms (σ' := (1, [some (vR 1), some (vI a1), some (vI a2), some (vI a3), none], [vR 1], (G0, M))) hc 1 rfl ?_
  refine Rn_getR hc rfl tgc_1 (by decide) rfl prc_1_0 ?_
  refine Rn_ms (σ' := (5, [some (vR 1), some (vI a1), some (vI a2), some (vI a3), none], [vI a1, vR 2], (G0, M))) hc 1 rfl ?_
  refine Rn_cv hc rfl rfl (by decide) (ii := xi_58) rfl rfl rfl (tgc_2 : Tg _ = 7) (by decide) rfl (le := [some (vR 2), some (vI a1)]) rfl (v := some (vR (f_58 M 2 a1))) (M' := M) (t_58 tgc_2 (d := d + 0) rfl rfl) ?_
  refine Rn_ms (σ' := (12, [some (vR 1), some (vI a1), some (vI a2), some (vI a3), some (vR (f_58 M 2 a1))], [vR (f_58 M 2 a1)], (G0, M))) hc 2 rfl ?_
  refine R_ite e (fun b1 e => ?_) (fun b1 e => ?_)
  · refine Rn_nuT (tgt := 38) hc rfl rfl (by decide) b1 ?_
    refine Rn_ms (σ' := (39, [some (vR 1), some (vI a1), some (vI a2), some (vI a3), some (vR (f_58 M 2 a1))], [vI (-1)], (G0, M))) hc 1 rfl ?_
    cases e
    exact R_end (Rn_iret hc rfl rfl (xretI rfl rfl)) hK
  · refine Rn_nuF hc rfl rfl (by decide) b1 ?_
    refine Rn_ms (σ' := (16, [some (vR 1), some (vI a1), some (vI a2), some (vI a3), some (vR (f_58 M 2 a1))], [vI a3], (G0, M))) hc 1 rfl ?_
    refine Rn_cs hc rfl rfl (by decide) (ii := xi_132) rfl rfl rfl (le := [some (vI a3)]) rfl (v := some (vI (f_132 a3))) (M' := M) (t_132  (d := d + 1) rfl rfl) ?_
    show Rn rom (d + 2) 113 (19, [some (vR 1), some (vI a1), some (vI a2), some (vI a3), some (vR (f_58 M 2 a1))], [vI (f_132 a3)], (G0, M)) out
    refine R_ite e (fun b2 e => ?_) (fun b2 e => ?_)
    · refine Rn_ifT (tgt := 38) hc rfl rfl (by decide) b2 ?_
      refine Rn_ms (σ' := (39, [some (vR 1), some (vI a1), some (vI a2), some (vI a3), some (vR (f_58 M 2 a1))], [vI (-1)], (G0, M))) hc 1 rfl ?_
      cases e
      exact R_end (Rn_iret hc rfl rfl (xretI rfl rfl)) hK
    · refine Rn_ifF hc rfl rfl (by decide) b2 ?_
      refine Rn_ms (σ' := (23, [some (vR 1), some (vI a1), some (vI a2), some (vI a3), some (vR (f_58 M 2 a1))], [vI a2], (G0, M))) hc 1 rfl ?_
      refine R_ite e (fun b3 e => ?_) (fun b3 e => ?_)
      · refine Rn_ifT (tgt := 38) hc rfl rfl (by decide) b3 ?_
        refine Rn_ms (σ' := (39, [some (vR 1), some (vI a1), some (vI a2), some (vI a3), some (vR (f_58 M 2 a1))], [vI (-1)], (G0, M))) hc 1 rfl ?_
        cases e
        exact R_end (Rn_iret hc rfl rfl (xretI rfl rfl)) hK
      · refine Rn_ifF hc rfl rfl (by decide) b3 ?_
        refine Rn_ms (σ' := (29, [some (vR 1), some (vI a1), some (vI a2), some (vI a3), some (vR (f_58 M 2 a1))], [vR (f_58 M 2 a1), vI a2], (G0, M))) hc 2 rfl ?_
        refine R_gd e (fun g4 e => ?_)
        refine Rn_getR hc rfl g4 (by decide) rfl (gP3_0_0 g4) ?_
        show Rn rom (d + 2) 113 (32, [some (vR 1), some (vI a1), some (vI a2), some (vI a3), some (vR (f_58 M 2 a1))], [vR ((f_58 M 2 a1) + 1), vI a2], (G0, M)) out
        refine Rn_cv hc rfl rfl (by decide) (ii := xi_29) rfl rfl rfl ((gT3_1 g4) : Tg _ = 4) (by decide) rfl (le := [some (vR ((f_58 M 2 a1) + 1))]) rfl (v := some (vI (f_29 M ((f_58 M 2 a1) + 1)))) (M' := M) (t_29 (gT3_1 g4) (d := d + 1) rfl rfl) ?_
        show Rn rom (d + 2) 113 (35, [some (vR 1), some (vI a1), some (vI a2), some (vI a3), some (vR (f_58 M 2 a1))], [vI (f_29 M ((f_58 M 2 a1) + 1)), vI a2], (G0, M)) out
        refine R_ite e (fun b5 e => ?_) (fun b5 e => ?_)
        · refine Rn_icT (tgt := 40) hc rfl rfl (by decide) b5 ?_
          refine Rn_ms (σ' := (42, [some (vR 1), some (vI a1), some (vI a2), some (vI a3), some (vR (f_58 M 2 a1))], [vR (f_58 M 2 a1)], (G0, M))) hc 1 rfl ?_
          refine Rn_getR hc rfl g4 (by decide) rfl (gP3_0_0 g4) ?_
          refine Rn_ms (σ' := (47, [some (vR 1), some (vI a1), some (vI a2), some (vI a3), some (vR (f_58 M 2 a1))], [vI a3, vI a2, vR ((f_58 M 2 a1) + 1)], (G0, M))) hc 2 rfl ?_
          refine Rn_cv hc rfl rfl (by decide) (ii := xi_30) rfl rfl rfl ((gT3_1 g4) : Tg _ = 4) (by decide) rfl (le := [some (vR ((f_58 M 2 a1) + 1)), some (vI a2), some (vI a3), none]) rfl (v := some (vI (f_30 M ((f_58 M 2 a1) + 1) a2 a3))) (M' := M) (t_30 (gT3_1 g4) (d := d + 0) rfl rfl) ?_
          show Rn rom (d + 2) 113 (50, [some (vR 1), some (vI a1), some (vI a2), some (vI a3), some (vR (f_58 M 2 a1))], [vI (f_30 M ((f_58 M 2 a1) + 1) a2 a3)], (G0, M)) out
          cases e
          exact R_end (Rn_iret hc rfl rfl (xretI rfl rfl)) hK
        · refine Rn_icF hc rfl rfl (by decide) b5 ?_
          refine Rn_ms (σ' := (39, [some (vR 1), some (vI a1), some (vI a2), some (vI a3), some (vR (f_58 M 2 a1))], [vI (-1)], (G0, M))) hc 1 rfl ?_
          cases e
          exact R_end (Rn_iret hc rfl rfl (xretI rfl rfl)) hK
/-- PedalLayers.ring -/
def f_114 (M : xM) (a1 : Int) (a2 : Int) : Option (Int × xM) :=
  (f_64 M 2 a1).bind (fun k1 =>
  if wr k1 = 0 then
    some ((-1), M)
  else
    if wr (f_132 a2) = 0 then
      some ((-1), M)
    else
      (f_1 M 2 (M 2 5) a1).bind (fun k4 =>
      some ((f_2 k4 a2), k4)
      )
  )
theorem t_114 {rom : xRom} {d : Nat} {M : xM} {a1 : Int} {a2 : Int} {r : Int × xM} {out : Option xV × xH} (e : f_114 M a1 a2 = some r) (hK : eIW out r) : Rn rom (d + 4) 114 (0, [some (vR 1), some (vI a1), some (vI a2)], [], (G0, M)) out := by
  have hc : xkall.getD 114 [] = xk_114 := rfl
  unfold f_114 at e
  refine Rn_ms (σ' := (1, [some (vR 1), some (vI a1), some (vI a2)], [vR 1], (G0, M))) hc 1 rfl ?_
  refine Rn_getR hc rfl tgc_1 (by decide) rfl prc_1_0 ?_
  refine Rn_ms (σ' := (5, [some (vR 1), some (vI a1), some (vI a2)], [vI a1, vR 2], (G0, M))) hc 1 rfl ?_
  refine R_bind e (fun k1 hk1 e => ?_)
  refine Rn_cv hc rfl rfl (by decide) (ii := xi_64) rfl rfl rfl (tgc_2 : Tg _ = 7) (by decide) rfl (le := [some (vR 2), some (vI a1)]) rfl (v := some (vI k1)) (M' := M) (t_64 tgc_2 (d := d + 1) hk1 rfl) ?_
  show Rn rom (d + 4) 114 (8, [some (vR 1), some (vI a1), some (vI a2)], [vI k1], (G0, M)) out
  refine R_ite e (fun b2 e => ?_) (fun b2 e => ?_)
  · refine Rn_ifT (tgt := 18) hc rfl rfl (by decide) b2 ?_
    refine Rn_ms (σ' := (19, [some (vR 1), some (vI a1), some (vI a2)], [vI (-1)], (G0, M))) hc 1 rfl ?_
    cases e
    exact R_end (Rn_iret hc rfl rfl (xretI rfl rfl)) hK
  · refine Rn_ifF hc rfl rfl (by decide) b2 ?_
    refine Rn_ms (σ' := (12, [some (vR 1), some (vI a1), some (vI a2)], [vI a2], (G0, M))) hc 1 rfl ?_
    refine Rn_cs hc rfl rfl (by decide) (ii := xi_132) rfl rfl rfl (le := [some (vI a2)]) rfl (v := some (vI (f_132 a2))) (M' := M) (t_132  (d := d + 3) rfl rfl) ?_
    show Rn rom (d + 4) 114 (15, [some (vR 1), some (vI a1), some (vI a2)], [vI (f_132 a2)], (G0, M)) out
    refine R_ite e (fun b3 e => ?_) (fun b3 e => ?_)
    · refine Rn_ifF hc rfl rfl (by decide) (fun w => w b3) ?_
      refine Rn_ms (σ' := (19, [some (vR 1), some (vI a1), some (vI a2)], [vI (-1)], (G0, M))) hc 1 rfl ?_
      cases e
      exact R_end (Rn_iret hc rfl rfl (xretI rfl rfl)) hK
    · refine Rn_ifT (tgt := 20) hc rfl rfl (by decide) (fun w => b3 w) ?_
      refine Rn_ms (σ' := (21, [some (vR 1), some (vI a1), some (vI a2)], [vR 1], (G0, M))) hc 1 rfl ?_
      refine Rn_getR hc rfl tgc_1 (by decide) rfl prc_1_7 ?_
      refine Rn_ms (σ' := (25, [some (vR 1), some (vI a1), some (vI a2)], [vR 1, vR 177], (G0, M))) hc 1 rfl ?_
      refine Rn_getR hc rfl tgc_1 (by decide) rfl prc_1_0 ?_
      refine Rn_ms (σ' := (29, [some (vR 1), some (vI a1), some (vI a2)], [vR 1, vR 2, vR 177], (G0, M))) hc 1 rfl ?_
      refine Rn_getR hc rfl tgc_1 (by decide) rfl prc_1_0 ?_
      show Rn rom (d + 4) 114 (32, [some (vR 1), some (vI a1), some (vI a2)], [vR 2, vR 2, vR 177], (G0, M)) out
      refine Rn_getI hc rfl tgc_2 (by decide) (by decide) ?_
      refine Rn_ms (σ' := (36, [some (vR 1), some (vI a1), some (vI a2)], [vI a1, vI (M 2 5), vR 2, vR 177], (G0, M))) hc 1 rfl ?_
      refine R_bind e (fun k4 hk4 e => ?_)
      refine Rn_cv hc rfl rfl (by decide) (ii := xi_1) rfl rfl rfl (tgc_177 : Tg _ = 0) (by decide) rfl (le := [some (vR 177), some (vR 2), some (vI (M 2 5)), some (vI a1), none, none, none, none, none]) rfl (v := none) (M' := k4) (t_1 tgc_2 (d := d + 0) hk4 rfl) ?_
      refine Rn_ms (σ' := (40, [some (vR 1), some (vI a1), some (vI a2)], [vR 1], (G0, k4))) hc 1 rfl ?_
      refine Rn_getR hc rfl tgc_1 (by decide) rfl prc_1_7 ?_
      refine Rn_ms (σ' := (44, [some (vR 1), some (vI a1), some (vI a2)], [vI a2, vR 177], (G0, k4))) hc 1 rfl ?_
      refine Rn_cv hc rfl rfl (by decide) (ii := xi_2) rfl rfl rfl (tgc_177 : Tg _ = 0) (by decide) rfl (le := [some (vR 177), some (vI a2)]) rfl (v := some (vI (f_2 k4 a2))) (M' := k4) (t_2  (d := d + 3) rfl rfl) ?_
      show Rn rom (d + 4) 114 (47, [some (vR 1), some (vI a1), some (vI a2)], [vI (f_2 k4 a2)], (G0, k4)) out
      cases e
      exact R_end (Rn_iret hc rfl rfl (xretI rfl rfl)) hK
/-- PedalLayers.heard -/
def f_115 (M : xM) (a1 : Int) (a2 : Int) : Option (Int × xM) :=
  (f_64 M 2 a1).bind (fun k1 =>
  if wr k1 = 0 then
    some ((-1), M)
  else
    (f_1 M 2 (M 2 5) a1).bind (fun k3 =>
    if wr a2 = 0 then
      (f_3 k3).bind (fun k5 =>
      some (k5, k3)
      )
    else
    if wr a2 = 1 then
      (f_4 k3).bind (fun k7 =>
      some (k7, k3)
      )
    else
    if wr a2 = 2 then
      (f_5 k3).bind (fun k9 =>
      some (k9, k3)
      )
    else
    if wr a2 = 3 then
      (f_6 k3).bind (fun k11 =>
      some (k11, k3)
      )
    else
    if wr a2 = 4 then
      (f_7 k3).bind (fun k13 =>
      some (k13, k3)
      )
    else
    some ((-1), k3)
    )
  )
theorem t_115 {rom : xRom} {d : Nat} {M : xM} {a1 : Int} {a2 : Int} {r : Int × xM} {out : Option xV × xH} (e : f_115 M a1 a2 = some r) (hK : eIW out r) : Rn rom (d + 4) 115 (0, [some (vR 1), some (vI a1), some (vI a2)], [], (G0, M)) out := by
  have hc : xkall.getD 115 [] = xk_115 := rfl
  unfold f_115 at e
  refine Rn_ms (σ' := (1, [some (vR 1), some (vI a1), some (vI a2)], [vR 1], (G0, M))) hc 1 rfl ?_
  refine Rn_getR hc rfl tgc_1 (by decide) rfl prc_1_0 ?_
  refine Rn_ms (σ' := (5, [some (vR 1), some (vI a1), some (vI a2)], [vI a1, vR 2], (G0, M))) hc 1 rfl ?_
  refine R_bind e (fun k1 hk1 e => ?_)
  refine Rn_cv hc rfl rfl (by decide) (ii := xi_64) rfl rfl rfl (tgc_2 : Tg _ = 7) (by decide) rfl (le := [some (vR 2), some (vI a1)]) rfl (v := some (vI k1)) (M' := M) (t_64 tgc_2 (d := d + 1) hk1 rfl) ?_
  show Rn rom (d + 4) 115 (8, [some (vR 1), some (vI a1), some (vI a2)], [vI k1], (G0, M)) out
  refine R_ite e (fun b2 e => ?_) (fun b2 e => ?_)
  · refine Rn_ifF hc rfl rfl (by decide) (fun w => w b2) ?_
    refine Rn_ms (σ' := (12, [some (vR 1), some (vI a1), some (vI a2)], [vI (-1)], (G0, M))) hc 1 rfl ?_
    cases e
    exact R_end (Rn_iret hc rfl rfl (xretI rfl rfl)) hK
  · refine Rn_ifT (tgt := 13) hc rfl rfl (by decide) (fun w => b2 w) ?_
    refine Rn_ms (σ' := (14, [some (vR 1), some (vI a1), some (vI a2)], [vR 1], (G0, M))) hc 1 rfl ?_
    refine Rn_getR hc rfl tgc_1 (by decide) rfl prc_1_7 ?_
    refine Rn_ms (σ' := (18, [some (vR 1), some (vI a1), some (vI a2)], [vR 1, vR 177], (G0, M))) hc 1 rfl ?_
    refine Rn_getR hc rfl tgc_1 (by decide) rfl prc_1_0 ?_
    refine Rn_ms (σ' := (22, [some (vR 1), some (vI a1), some (vI a2)], [vR 1, vR 2, vR 177], (G0, M))) hc 1 rfl ?_
    refine Rn_getR hc rfl tgc_1 (by decide) rfl prc_1_0 ?_
    show Rn rom (d + 4) 115 (25, [some (vR 1), some (vI a1), some (vI a2)], [vR 2, vR 2, vR 177], (G0, M)) out
    refine Rn_getI hc rfl tgc_2 (by decide) (by decide) ?_
    refine Rn_ms (σ' := (29, [some (vR 1), some (vI a1), some (vI a2)], [vI a1, vI (M 2 5), vR 2, vR 177], (G0, M))) hc 1 rfl ?_
    refine R_bind e (fun k3 hk3 e => ?_)
    refine Rn_cv hc rfl rfl (by decide) (ii := xi_1) rfl rfl rfl (tgc_177 : Tg _ = 0) (by decide) rfl (le := [some (vR 177), some (vR 2), some (vI (M 2 5)), some (vI a1), none, none, none, none, none]) rfl (v := none) (M' := k3) (t_1 tgc_2 (d := d + 0) hk3 rfl) ?_
    refine Rn_ms (σ' := (33, [some (vR 1), some (vI a1), some (vI a2)], [vI a2], (G0, k3))) hc 1 rfl ?_
    refine R_ite e (fun b4 e => ?_) (fun b4 e => ?_)
    · refine Rn_tsw (off := 35) (tgt := 68) hc rfl rfl (xsw_at b4 (by decide) (by decide) (by decide) rfl) rfl ?_
      refine Rn_ms (σ' := (69, [some (vR 1), some (vI a1), some (vI a2)], [vR 1], (G0, k3))) hc 1 rfl ?_
      refine Rn_getR hc rfl tgc_1 (by decide) rfl prc_1_7 ?_
      show Rn rom (d + 4) 115 (72, [some (vR 1), some (vI a1), some (vI a2)], [vR 177], (G0, k3)) out
      refine R_bind e (fun k5 hk5 e => ?_)
      refine Rn_cv hc rfl rfl (by decide) (ii := xi_3) rfl rfl rfl (tgc_177 : Tg _ = 0) (by decide) rfl (le := [some (vR 177), none, none, none, none, none]) rfl (v := some (vI k5)) (M' := k3) (t_3  (d := d + 3) hk5 rfl) ?_
      show Rn rom (d + 4) 115 (75, [some (vR 1), some (vI a1), some (vI a2)], [vI k5], (G0, k3)) out
      cases e
      exact R_end (Rn_iret hc rfl rfl (xretI rfl rfl)) hK
    refine R_ite e (fun b6 e => ?_) (fun b6 e => ?_)
    · refine Rn_tsw (off := 43) (tgt := 76) hc rfl rfl (xsw_at b6 (by decide) (by decide) (by decide) rfl) rfl ?_
      refine Rn_ms (σ' := (77, [some (vR 1), some (vI a1), some (vI a2)], [vR 1], (G0, k3))) hc 1 rfl ?_
      refine Rn_getR hc rfl tgc_1 (by decide) rfl prc_1_7 ?_
      show Rn rom (d + 4) 115 (80, [some (vR 1), some (vI a1), some (vI a2)], [vR 177], (G0, k3)) out
      refine R_bind e (fun k7 hk7 e => ?_)
      refine Rn_cv hc rfl rfl (by decide) (ii := xi_4) rfl rfl rfl (tgc_177 : Tg _ = 0) (by decide) rfl (le := [some (vR 177), none, none, none, none, none]) rfl (v := some (vI k7)) (M' := k3) (t_4  (d := d + 3) hk7 rfl) ?_
      show Rn rom (d + 4) 115 (83, [some (vR 1), some (vI a1), some (vI a2)], [vI k7], (G0, k3)) out
      cases e
      exact R_end (Rn_iret hc rfl rfl (xretI rfl rfl)) hK
    refine R_ite e (fun b8 e => ?_) (fun b8 e => ?_)
    · refine Rn_tsw (off := 51) (tgt := 84) hc rfl rfl (xsw_at b8 (by decide) (by decide) (by decide) rfl) rfl ?_
      refine Rn_ms (σ' := (85, [some (vR 1), some (vI a1), some (vI a2)], [vR 1], (G0, k3))) hc 1 rfl ?_
      refine Rn_getR hc rfl tgc_1 (by decide) rfl prc_1_7 ?_
      show Rn rom (d + 4) 115 (88, [some (vR 1), some (vI a1), some (vI a2)], [vR 177], (G0, k3)) out
      refine R_bind e (fun k9 hk9 e => ?_)
      refine Rn_cv hc rfl rfl (by decide) (ii := xi_5) rfl rfl rfl (tgc_177 : Tg _ = 0) (by decide) rfl (le := [some (vR 177), none]) rfl (v := some (vI k9)) (M' := k3) (t_5  (d := d + 2) hk9 rfl) ?_
      show Rn rom (d + 4) 115 (91, [some (vR 1), some (vI a1), some (vI a2)], [vI k9], (G0, k3)) out
      cases e
      exact R_end (Rn_iret hc rfl rfl (xretI rfl rfl)) hK
    refine R_ite e (fun b10 e => ?_) (fun b10 e => ?_)
    · refine Rn_tsw (off := 59) (tgt := 92) hc rfl rfl (xsw_at b10 (by decide) (by decide) (by decide) rfl) rfl ?_
      refine Rn_ms (σ' := (93, [some (vR 1), some (vI a1), some (vI a2)], [vR 1], (G0, k3))) hc 1 rfl ?_
      refine Rn_getR hc rfl tgc_1 (by decide) rfl prc_1_7 ?_
      show Rn rom (d + 4) 115 (96, [some (vR 1), some (vI a1), some (vI a2)], [vR 177], (G0, k3)) out
      refine R_bind e (fun k11 hk11 e => ?_)
      refine Rn_cv hc rfl rfl (by decide) (ii := xi_6) rfl rfl rfl (tgc_177 : Tg _ = 0) (by decide) rfl (le := [some (vR 177), none]) rfl (v := some (vI k11)) (M' := k3) (t_6  (d := d + 3) hk11 rfl) ?_
      show Rn rom (d + 4) 115 (99, [some (vR 1), some (vI a1), some (vI a2)], [vI k11], (G0, k3)) out
      cases e
      exact R_end (Rn_iret hc rfl rfl (xretI rfl rfl)) hK
    refine R_ite e (fun b12 e => ?_) (fun b12 e => ?_)
    · refine Rn_tsw (off := 67) (tgt := 100) hc rfl rfl (xsw_at b12 (by decide) (by decide) (by decide) rfl) rfl ?_
      refine Rn_ms (σ' := (101, [some (vR 1), some (vI a1), some (vI a2)], [vR 1], (G0, k3))) hc 1 rfl ?_
      refine Rn_getR hc rfl tgc_1 (by decide) rfl prc_1_7 ?_
      show Rn rom (d + 4) 115 (104, [some (vR 1), some (vI a1), some (vI a2)], [vR 177], (G0, k3)) out
      refine R_bind e (fun k13 hk13 e => ?_)
      refine Rn_cv hc rfl rfl (by decide) (ii := xi_7) rfl rfl rfl (tgc_177 : Tg _ = 0) (by decide) rfl (le := [some (vR 177), none, none, none]) rfl (v := some (vI k13)) (M' := k3) (t_7  (d := d + 3) hk13 rfl) ?_
      show Rn rom (d + 4) 115 (107, [some (vR 1), some (vI a1), some (vI a2)], [vI k13], (G0, k3)) out
      cases e
      exact R_end (Rn_iret hc rfl rfl (xretI rfl rfl)) hK
    refine Rn_tsw (off := 75) (tgt := 108) hc rfl rfl (xsw_df (by omega)) rfl ?_
    refine Rn_ms (σ' := (109, [some (vR 1), some (vI a1), some (vI a2)], [vI (-1)], (G0, k3))) hc 1 rfl ?_
    cases e
    exact R_end (Rn_iret hc rfl rfl (xretI rfl rfl)) hK
/-- PedalLayers.loudest -/
def f_116 (M : xM) : Option (Int × xM) :=
  if wr (M 2 5) = 0 then
    some ((-2), M)
  else
    (f_10 M 2).bind (fun k2 =>
    some (k2.1, k2.2)
    )
theorem t_116 {rom : xRom} {d : Nat} {M : xM}  {r : Int × xM} {out : Option xV × xH} (e : f_116 M = some r) (hK : eIW out r) : Rn rom (d + 5) 116 (0, [some (vR 1)], [], (G0, M)) out := by
  have hc : xkall.getD 116 [] = xk_116 := rfl
  unfold f_116 at e
  refine Rn_ms (σ' := (1, [some (vR 1)], [vR 1], (G0, M))) hc 1 rfl ?_
  refine Rn_getR hc rfl tgc_1 (by decide) rfl prc_1_0 ?_
  show Rn rom (d + 5) 116 (4, [some (vR 1)], [vR 2], (G0, M)) out
  refine Rn_getI hc rfl tgc_2 (by decide) (by decide) ?_
  show Rn rom (d + 5) 116 (7, [some (vR 1)], [vI (M 2 5)], (G0, M)) out
  refine R_ite e (fun b1 e => ?_) (fun b1 e => ?_)
  · refine Rn_ifF hc rfl rfl (by decide) (fun w => w b1) ?_
    refine Rn_ms (σ' := (26, [some (vR 1)], [vI (-2)], (G0, M))) hc 2 rfl ?_
    cases e
    exact R_end (Rn_iret hc rfl rfl (xretI rfl rfl)) hK
  · refine Rn_ifT (tgt := 15) hc rfl rfl (by decide) (fun w => b1 w) ?_
    refine Rn_ms (σ' := (16, [some (vR 1)], [vR 1], (G0, M))) hc 1 rfl ?_
    refine Rn_getR hc rfl tgc_1 (by decide) rfl prc_1_7 ?_
    refine Rn_ms (σ' := (20, [some (vR 1)], [vR 1, vR 177], (G0, M))) hc 1 rfl ?_
    refine Rn_getR hc rfl tgc_1 (by decide) rfl prc_1_0 ?_
    show Rn rom (d + 5) 116 (23, [some (vR 1)], [vR 2, vR 177], (G0, M)) out
    refine R_bind e (fun k2 hk2 e => ?_)
    refine Rn_cv hc rfl rfl (by decide) (ii := xi_10) rfl rfl rfl (tgc_177 : Tg _ = 0) (by decide) rfl (le := [some (vR 177), some (vR 2), none, none, none, none]) rfl (v := some (vI k2.1)) (M' := k2.2) (t_10 tgc_2 (d := d + 0) hk2 rfl) ?_
    show Rn rom (d + 5) 116 (26, [some (vR 1)], [vI k2.1], (G0, k2.2)) out
    cases e
    exact R_end (Rn_iret hc rfl rfl (xretI rfl rfl)) hK
/-- PedalLayers.buried -/
def f_117 (M : xM) : Option (Int × xM) :=
  (f_11 M 2).bind (fun k1 =>
  some (k1.1, k1.2)
  )
theorem t_117 {rom : xRom} {d : Nat} {M : xM}  {r : Int × xM} {out : Option xV × xH} (e : f_117 M = some r) (hK : eIW out r) : Rn rom (d + 5) 117 (0, [some (vR 1)], [], (G0, M)) out := by
  have hc : xkall.getD 117 [] = xk_117 := rfl
  unfold f_117 at e
  refine Rn_ms (σ' := (1, [some (vR 1)], [vR 1], (G0, M))) hc 1 rfl ?_
  refine Rn_getR hc rfl tgc_1 (by decide) rfl prc_1_7 ?_
  refine Rn_ms (σ' := (5, [some (vR 1)], [vR 1, vR 177], (G0, M))) hc 1 rfl ?_
  refine Rn_getR hc rfl tgc_1 (by decide) rfl prc_1_0 ?_
  show Rn rom (d + 5) 117 (8, [some (vR 1)], [vR 2, vR 177], (G0, M)) out
  refine R_bind e (fun k1 hk1 e => ?_)
  refine Rn_cv hc rfl rfl (by decide) (ii := xi_11) rfl rfl rfl (tgc_177 : Tg _ = 0) (by decide) rfl (le := [some (vR 177), some (vR 2), none, none, none, none]) rfl (v := some (vI k1.1)) (M' := k1.2) (t_11 tgc_2 (d := d + 0) hk1 rfl) ?_
  show Rn rom (d + 5) 117 (11, [some (vR 1)], [vI k1.1], (G0, k1.2)) out
  cases e
  exact R_end (Rn_iret hc rfl rfl (xretI rfl rfl)) hK
/-- PedalLayers.tunes -/
def f_118 (M : xM) : Option (Int × xM) :=
  if wr (M 2 5) = 0 then
    some ((-2), M)
  else
    (f_51_175 M).bind (fun k2 =>
    if wr k2 = (-4) then
      (f_13 M 2).bind (fun k4 =>
      some (k4.1, k4.2)
      )
    else
      some ((-2), M)
    )
theorem t_118 {rom : xRom} {d : Nat} {M : xM}  {r : Int × xM} {out : Option xV × xH} (e : f_118 M = some r) (hK : eIW out r) : Rn rom (d + 5) 118 (0, [some (vR 1)], [], (G0, M)) out := by
  have hc : xkall.getD 118 [] = xk_118 := rfl
  unfold f_118 at e
  refine Rn_ms (σ' := (1, [some (vR 1)], [vR 1], (G0, M))) hc 1 rfl ?_
  refine Rn_getR hc rfl tgc_1 (by decide) rfl prc_1_0 ?_
  show Rn rom (d + 5) 118 (4, [some (vR 1)], [vR 2], (G0, M)) out
  refine Rn_getI hc rfl tgc_2 (by decide) (by decide) ?_
  show Rn rom (d + 5) 118 (7, [some (vR 1)], [vI (M 2 5)], (G0, M)) out
  refine R_ite e (fun b1 e => ?_) (fun b1 e => ?_)
  · refine Rn_ifT (tgt := 26) hc rfl rfl (by decide) b1 ?_
    refine Rn_ms (σ' := (28, [some (vR 1)], [vI (-2)], (G0, M))) hc 1 rfl ?_
    cases e
    exact R_end (Rn_iret hc rfl rfl (xretI rfl rfl)) hK
  · refine Rn_ifF hc rfl rfl (by decide) b1 ?_
    refine Rn_ms (σ' := (11, [some (vR 1)], [vR 1], (G0, M))) hc 1 rfl ?_
    refine Rn_getR hc rfl tgc_1 (by decide) rfl prc_1_3 ?_
    refine Rn_ms (σ' := (15, [some (vR 1)], [vR 1, vR 172], (G0, M))) hc 1 rfl ?_
    refine Rn_getR hc rfl tgc_1 (by decide) rfl prc_1_5 ?_
    show Rn rom (d + 5) 118 (18, [some (vR 1)], [vR 175, vR 172], (G0, M)) out
    refine R_bind e (fun k2 hk2 e => ?_)
    refine Rn_cv hc rfl rfl (by decide) (ii := xi_51) rfl rfl rfl (tgc_172 : Tg _ = 6) (by decide) rfl (le := [some (vR 172), some (vR 175), none, none]) rfl (v := some (vI k2)) (M' := M) (t_51_175  (d := d + 2) hk2 rfl) ?_
    refine Rn_ms (σ' := (23, [some (vR 1)], [vI (-4), vI k2], (G0, M))) hc 1 rfl ?_
    refine R_ite e (fun b3 e => ?_) (fun b3 e => ?_)
    · refine Rn_icT (tgt := 29) hc rfl rfl (by decide) b3 ?_
      refine Rn_ms (σ' := (30, [some (vR 1)], [vR 1], (G0, M))) hc 1 rfl ?_
      refine Rn_getR hc rfl tgc_1 (by decide) rfl prc_1_7 ?_
      refine Rn_ms (σ' := (34, [some (vR 1)], [vR 1, vR 177], (G0, M))) hc 1 rfl ?_
      refine Rn_getR hc rfl tgc_1 (by decide) rfl prc_1_0 ?_
      refine Rn_ms (σ' := (38, [some (vR 1)], [vR 1, vR 2, vR 177], (G0, M))) hc 1 rfl ?_
      refine Rn_getR hc rfl tgc_1 (by decide) rfl prc_1_3 ?_
      show Rn rom (d + 5) 118 (41, [some (vR 1)], [vR 172, vR 2, vR 177], (G0, M)) out
      refine R_bind e (fun k4 hk4 e => ?_)
      refine Rn_cv hc rfl rfl (by decide) (ii := xi_13) rfl rfl rfl (tgc_177 : Tg _ = 0) (by decide) rfl (le := [some (vR 177), some (vR 2), some (vR 172), none, none, none, none]) rfl (v := some (vI k4.1)) (M' := k4.2) (t_13 tgc_2 (d := d + 0) hk4 rfl) ?_
      show Rn rom (d + 5) 118 (44, [some (vR 1)], [vI k4.1], (G0, k4.2)) out
      cases e
      exact R_end (Rn_iret hc rfl rfl (xretI rfl rfl)) hK
    · refine Rn_icF hc rfl rfl (by decide) b3 ?_
      refine Rn_ms (σ' := (28, [some (vR 1)], [vI (-2)], (G0, M))) hc 1 rfl ?_
      cases e
      exact R_end (Rn_iret hc rfl rfl (xretI rfl rfl)) hK
/-- PedalLayers.count -/
def f_119 (M : xM) (a1 : Int) : Option (Int) :=
  if wr a1 = 0 then
    some (M 2 4)
  else
  if wr a1 = 1 then
    (f_62 M 2 (M 2 5)).bind (fun k3 =>
    some (k3)
    )
  else
  if wr a1 = 2 then
    (f_63 M 2).bind (fun k5 =>
    some (k5)
    )
  else
  if wr a1 = 3 then
    some (M 2 5)
  else
  if wr a1 = 4 then
    some (M 2 6)
  else
  if wr a1 = 5 then
    if wr (f_61 M 2) = 0 then
      some (0)
    else
      some (M 2 7)
  else
  if wr a1 = 6 then
    some (M 2 8)
  else
  if wr a1 = 7 then
    if wr (f_60 M 2) = 0 then
      some (0)
    else
      some (M 5 1)
  else
  if wr a1 = 8 then
    if wr (f_60 M 2) = 0 then
      some (0)
    else
      (f_36 M 6).bind (fun k15 =>
      some (k15)
      )
  else
  if wr a1 = 9 then
    if wr (M 2 3) = 0 then
      some (0)
    else
      some (1)
  else
  if wr a1 = 10 then
    some (f_59 M 2 0)
  else
  if wr a1 = 11 then
    some (f_59 M 2 1)
  else
  if wr a1 = 12 then
    some (f_59 M 2 2)
  else
  if wr a1 = 13 then
    some (f_44 M)
  else
  if wr a1 = 14 then
    some (f_21 M)
  else
  if wr a1 = 15 then
    some (M 2 10)
  else
  some (-1)
theorem t_119 {rom : xRom} {d : Nat} {M : xM} {a1 : Int} {r : Int} {out : Option xV × xH} (e : f_119 M a1 = some r) (hK : eI M out r) : Rn rom (d + 3) 119 (0, [some (vR 1), some (vI a1)], [], (G0, M)) out := by
  have hc : xkall.getD 119 [] = xk_119 := rfl
  unfold f_119 at e
  refine Rn_ms (σ' := (1, [some (vR 1), some (vI a1)], [vI a1], (G0, M))) hc 1 rfl ?_
  refine R_ite e (fun b1 e => ?_) (fun b1 e => ?_)
  · refine Rn_tsw (off := 79) (tgt := 80) hc rfl rfl (xsw_at b1 (by decide) (by decide) (by decide) rfl) rfl ?_
    refine Rn_ms (σ' := (81, [some (vR 1), some (vI a1)], [vR 1], (G0, M))) hc 1 rfl ?_
    refine Rn_getR hc rfl tgc_1 (by decide) rfl prc_1_0 ?_
    show Rn rom (d + 3) 119 (84, [some (vR 1), some (vI a1)], [vR 2], (G0, M)) out
    refine Rn_getI hc rfl tgc_2 (by decide) (by decide) ?_
    show Rn rom (d + 3) 119 (87, [some (vR 1), some (vI a1)], [vI (M 2 4)], (G0, M)) out
    cases e
    exact R_end (Rn_iret hc rfl rfl (xretI rfl rfl)) hK
  refine R_ite e (fun b2 e => ?_) (fun b2 e => ?_)
  · refine Rn_tsw (off := 87) (tgt := 88) hc rfl rfl (xsw_at b2 (by decide) (by decide) (by decide) rfl) rfl ?_
    refine Rn_ms (σ' := (89, [some (vR 1), some (vI a1)], [vR 1], (G0, M))) hc 1 rfl ?_
    refine Rn_getR hc rfl tgc_1 (by decide) rfl prc_1_0 ?_
    refine Rn_ms (σ' := (93, [some (vR 1), some (vI a1)], [vR 1, vR 2], (G0, M))) hc 1 rfl ?_
    refine Rn_getR hc rfl tgc_1 (by decide) rfl prc_1_0 ?_
    show Rn rom (d + 3) 119 (96, [some (vR 1), some (vI a1)], [vR 2, vR 2], (G0, M)) out
    refine Rn_getI hc rfl tgc_2 (by decide) (by decide) ?_
    show Rn rom (d + 3) 119 (99, [some (vR 1), some (vI a1)], [vI (M 2 5), vR 2], (G0, M)) out
    refine R_bind e (fun k3 hk3 e => ?_)
    refine Rn_cv hc rfl rfl (by decide) (ii := xi_62) rfl rfl rfl (tgc_2 : Tg _ = 7) (by decide) rfl (le := [some (vR 2), some (vI (M 2 5)), none, none, none]) rfl (v := some (vI k3)) (M' := M) (t_62 tgc_2 (d := d + 1) hk3 rfl) ?_
    show Rn rom (d + 3) 119 (102, [some (vR 1), some (vI a1)], [vI k3], (G0, M)) out
    cases e
    exact R_end (Rn_iret hc rfl rfl (xretI rfl rfl)) hK
  refine R_ite e (fun b4 e => ?_) (fun b4 e => ?_)
  · refine Rn_tsw (off := 102) (tgt := 103) hc rfl rfl (xsw_at b4 (by decide) (by decide) (by decide) rfl) rfl ?_
    refine Rn_ms (σ' := (104, [some (vR 1), some (vI a1)], [vR 1], (G0, M))) hc 1 rfl ?_
    refine Rn_getR hc rfl tgc_1 (by decide) rfl prc_1_0 ?_
    show Rn rom (d + 3) 119 (107, [some (vR 1), some (vI a1)], [vR 2], (G0, M)) out
    refine R_bind e (fun k5 hk5 e => ?_)
    refine Rn_cv hc rfl rfl (by decide) (ii := xi_63) rfl rfl rfl (tgc_2 : Tg _ = 7) (by decide) rfl (le := [some (vR 2), none]) rfl (v := some (vI k5)) (M' := M) (t_63 tgc_2 (d := d + 0) hk5 rfl) ?_
    show Rn rom (d + 3) 119 (110, [some (vR 1), some (vI a1)], [vI k5], (G0, M)) out
    cases e
    exact R_end (Rn_iret hc rfl rfl (xretI rfl rfl)) hK
  refine R_ite e (fun b6 e => ?_) (fun b6 e => ?_)
  · refine Rn_tsw (off := 110) (tgt := 111) hc rfl rfl (xsw_at b6 (by decide) (by decide) (by decide) rfl) rfl ?_
    refine Rn_ms (σ' := (112, [some (vR 1), some (vI a1)], [vR 1], (G0, M))) hc 1 rfl ?_
    refine Rn_getR hc rfl tgc_1 (by decide) rfl prc_1_0 ?_
    show Rn rom (d + 3) 119 (115, [some (vR 1), some (vI a1)], [vR 2], (G0, M)) out
    refine Rn_getI hc rfl tgc_2 (by decide) (by decide) ?_
    show Rn rom (d + 3) 119 (118, [some (vR 1), some (vI a1)], [vI (M 2 5)], (G0, M)) out
    cases e
    exact R_end (Rn_iret hc rfl rfl (xretI rfl rfl)) hK
  refine R_ite e (fun b7 e => ?_) (fun b7 e => ?_)
  · refine Rn_tsw (off := 118) (tgt := 119) hc rfl rfl (xsw_at b7 (by decide) (by decide) (by decide) rfl) rfl ?_
    refine Rn_ms (σ' := (120, [some (vR 1), some (vI a1)], [vR 1], (G0, M))) hc 1 rfl ?_
    refine Rn_getR hc rfl tgc_1 (by decide) rfl prc_1_0 ?_
    show Rn rom (d + 3) 119 (123, [some (vR 1), some (vI a1)], [vR 2], (G0, M)) out
    refine Rn_getI hc rfl tgc_2 (by decide) (by decide) ?_
    show Rn rom (d + 3) 119 (126, [some (vR 1), some (vI a1)], [vI (M 2 6)], (G0, M)) out
    cases e
    exact R_end (Rn_iret hc rfl rfl (xretI rfl rfl)) hK
  refine R_ite e (fun b8 e => ?_) (fun b8 e => ?_)
  · refine Rn_tsw (off := 126) (tgt := 127) hc rfl rfl (xsw_at b8 (by decide) (by decide) (by decide) rfl) rfl ?_
    refine Rn_ms (σ' := (128, [some (vR 1), some (vI a1)], [vR 1], (G0, M))) hc 1 rfl ?_
    refine Rn_getR hc rfl tgc_1 (by decide) rfl prc_1_0 ?_
    show Rn rom (d + 3) 119 (131, [some (vR 1), some (vI a1)], [vR 2], (G0, M)) out
    refine Rn_cv hc rfl rfl (by decide) (ii := xi_61) rfl rfl rfl (tgc_2 : Tg _ = 7) (by decide) rfl (le := [some (vR 2)]) rfl (v := some (vI (f_61 M 2))) (M' := M) (t_61 tgc_2 (d := d + 2) rfl rfl) ?_
    show Rn rom (d + 3) 119 (134, [some (vR 1), some (vI a1)], [vI (f_61 M 2)], (G0, M)) out
    refine R_ite e (fun b9 e => ?_) (fun b9 e => ?_)
    · refine Rn_ifT (tgt := 147) hc rfl rfl (by decide) b9 ?_
      refine Rn_ms (σ' := (148, [some (vR 1), some (vI a1)], [vI 0], (G0, M))) hc 1 rfl ?_
      cases e
      exact R_end (Rn_iret hc rfl rfl (xretI rfl rfl)) hK
    · refine Rn_ifF hc rfl rfl (by decide) b9 ?_
      refine Rn_ms (σ' := (138, [some (vR 1), some (vI a1)], [vR 1], (G0, M))) hc 1 rfl ?_
      refine Rn_getR hc rfl tgc_1 (by decide) rfl prc_1_0 ?_
      show Rn rom (d + 3) 119 (141, [some (vR 1), some (vI a1)], [vR 2], (G0, M)) out
      refine Rn_getI hc rfl tgc_2 (by decide) (by decide) ?_
      refine Rn_ms (σ' := (148, [some (vR 1), some (vI a1)], [vI (M 2 7)], (G0, M))) hc 1 rfl ?_
      cases e
      exact R_end (Rn_iret hc rfl rfl (xretI rfl rfl)) hK
  refine R_ite e (fun b10 e => ?_) (fun b10 e => ?_)
  · refine Rn_tsw (off := 148) (tgt := 149) hc rfl rfl (xsw_at b10 (by decide) (by decide) (by decide) rfl) rfl ?_
    refine Rn_ms (σ' := (150, [some (vR 1), some (vI a1)], [vR 1], (G0, M))) hc 1 rfl ?_
    refine Rn_getR hc rfl tgc_1 (by decide) rfl prc_1_0 ?_
    show Rn rom (d + 3) 119 (153, [some (vR 1), some (vI a1)], [vR 2], (G0, M)) out
    refine Rn_getI hc rfl tgc_2 (by decide) (by decide) ?_
    show Rn rom (d + 3) 119 (156, [some (vR 1), some (vI a1)], [vI (M 2 8)], (G0, M)) out
    cases e
    exact R_end (Rn_iret hc rfl rfl (xretI rfl rfl)) hK
  refine R_ite e (fun b11 e => ?_) (fun b11 e => ?_)
  · refine Rn_tsw (off := 156) (tgt := 157) hc rfl rfl (xsw_at b11 (by decide) (by decide) (by decide) rfl) rfl ?_
    refine Rn_ms (σ' := (158, [some (vR 1), some (vI a1)], [vR 1], (G0, M))) hc 1 rfl ?_
    refine Rn_getR hc rfl tgc_1 (by decide) rfl prc_1_0 ?_
    show Rn rom (d + 3) 119 (161, [some (vR 1), some (vI a1)], [vR 2], (G0, M)) out
    refine Rn_cv hc rfl rfl (by decide) (ii := xi_60) rfl rfl rfl (tgc_2 : Tg _ = 7) (by decide) rfl (le := [some (vR 2)]) rfl (v := some (vI (f_60 M 2))) (M' := M) (t_60 tgc_2 (d := d + 2) rfl rfl) ?_
    show Rn rom (d + 3) 119 (164, [some (vR 1), some (vI a1)], [vI (f_60 M 2)], (G0, M)) out
    refine R_ite e (fun b12 e => ?_) (fun b12 e => ?_)
    · refine Rn_ifT (tgt := 180) hc rfl rfl (by decide) b12 ?_
      refine Rn_ms (σ' := (181, [some (vR 1), some (vI a1)], [vI 0], (G0, M))) hc 1 rfl ?_
      cases e
      exact R_end (Rn_iret hc rfl rfl (xretI rfl rfl)) hK
    · refine Rn_ifF hc rfl rfl (by decide) b12 ?_
      refine Rn_ms (σ' := (168, [some (vR 1), some (vI a1)], [vR 1], (G0, M))) hc 1 rfl ?_
      refine Rn_getR hc rfl tgc_1 (by decide) rfl prc_1_0 ?_
      show Rn rom (d + 3) 119 (171, [some (vR 1), some (vI a1)], [vR 2], (G0, M)) out
      refine Rn_getR hc rfl tgc_2 (by decide) rfl prc_2_2 ?_
      show Rn rom (d + 3) 119 (174, [some (vR 1), some (vI a1)], [vR 5], (G0, M)) out
      refine Rn_getI hc rfl tgc_5 (by decide) (by decide) ?_
      refine Rn_ms (σ' := (181, [some (vR 1), some (vI a1)], [vI (M 5 1)], (G0, M))) hc 1 rfl ?_
      cases e
      exact R_end (Rn_iret hc rfl rfl (xretI rfl rfl)) hK
  refine R_ite e (fun b13 e => ?_) (fun b13 e => ?_)
  · refine Rn_tsw (off := 181) (tgt := 182) hc rfl rfl (xsw_at b13 (by decide) (by decide) (by decide) rfl) rfl ?_
    refine Rn_ms (σ' := (183, [some (vR 1), some (vI a1)], [vR 1], (G0, M))) hc 1 rfl ?_
    refine Rn_getR hc rfl tgc_1 (by decide) rfl prc_1_0 ?_
    show Rn rom (d + 3) 119 (186, [some (vR 1), some (vI a1)], [vR 2], (G0, M)) out
    refine Rn_cv hc rfl rfl (by decide) (ii := xi_60) rfl rfl rfl (tgc_2 : Tg _ = 7) (by decide) rfl (le := [some (vR 2)]) rfl (v := some (vI (f_60 M 2))) (M' := M) (t_60 tgc_2 (d := d + 2) rfl rfl) ?_
    show Rn rom (d + 3) 119 (189, [some (vR 1), some (vI a1)], [vI (f_60 M 2)], (G0, M)) out
    refine R_ite e (fun b14 e => ?_) (fun b14 e => ?_)
    · refine Rn_ifT (tgt := 208) hc rfl rfl (by decide) b14 ?_
      refine Rn_ms (σ' := (209, [some (vR 1), some (vI a1)], [vI 0], (G0, M))) hc 1 rfl ?_
      cases e
      exact R_end (Rn_iret hc rfl rfl (xretI rfl rfl)) hK
    · refine Rn_ifF hc rfl rfl (by decide) b14 ?_
      refine Rn_ms (σ' := (193, [some (vR 1), some (vI a1)], [vR 1], (G0, M))) hc 1 rfl ?_
      refine Rn_getR hc rfl tgc_1 (by decide) rfl prc_1_0 ?_
      show Rn rom (d + 3) 119 (196, [some (vR 1), some (vI a1)], [vR 2], (G0, M)) out
      refine Rn_getR hc rfl tgc_2 (by decide) rfl prc_2_2 ?_
      show Rn rom (d + 3) 119 (199, [some (vR 1), some (vI a1)], [vR 5], (G0, M)) out
      refine Rn_getR hc rfl tgc_5 (by decide) rfl prc_5_0 ?_
      show Rn rom (d + 3) 119 (202, [some (vR 1), some (vI a1)], [vR 6], (G0, M)) out
      refine R_bind e (fun k15 hk15 e => ?_)
      refine Rn_cv hc rfl rfl (by decide) (ii := xi_36) rfl rfl rfl (tgc_6 : Tg _ = 4) (by decide) rfl (le := [some (vR 6), none, none]) rfl (v := some (vI k15)) (M' := M) (t_36 tgc_6 (d := d + 2) hk15 rfl) ?_
      refine Rn_ms (σ' := (209, [some (vR 1), some (vI a1)], [vI k15], (G0, M))) hc 1 rfl ?_
      cases e
      exact R_end (Rn_iret hc rfl rfl (xretI rfl rfl)) hK
  refine R_ite e (fun b16 e => ?_) (fun b16 e => ?_)
  · refine Rn_tsw (off := 209) (tgt := 210) hc rfl rfl (xsw_at b16 (by decide) (by decide) (by decide) rfl) rfl ?_
    refine Rn_ms (σ' := (211, [some (vR 1), some (vI a1)], [vR 1], (G0, M))) hc 1 rfl ?_
    refine Rn_getR hc rfl tgc_1 (by decide) rfl prc_1_0 ?_
    show Rn rom (d + 3) 119 (214, [some (vR 1), some (vI a1)], [vR 2], (G0, M)) out
    refine Rn_getI hc rfl tgc_2 (by decide) (by decide) ?_
    show Rn rom (d + 3) 119 (217, [some (vR 1), some (vI a1)], [vI (M 2 3)], (G0, M)) out
    refine R_ite e (fun b17 e => ?_) (fun b17 e => ?_)
    · refine Rn_ifT (tgt := 224) hc rfl rfl (by decide) b17 ?_
      refine Rn_ms (σ' := (225, [some (vR 1), some (vI a1)], [vI 0], (G0, M))) hc 1 rfl ?_
      cases e
      exact R_end (Rn_iret hc rfl rfl (xretI rfl rfl)) hK
    · refine Rn_ifF hc rfl rfl (by decide) b17 ?_
      refine Rn_ms (σ' := (225, [some (vR 1), some (vI a1)], [vI 1], (G0, M))) hc 2 rfl ?_
      cases e
      exact R_end (Rn_iret hc rfl rfl (xretI rfl rfl)) hK
  refine R_ite e (fun b18 e => ?_) (fun b18 e => ?_)
  · refine Rn_tsw (off := 225) (tgt := 226) hc rfl rfl (xsw_at b18 (by decide) (by decide) (by decide) rfl) rfl ?_
    refine Rn_ms (σ' := (227, [some (vR 1), some (vI a1)], [vR 1], (G0, M))) hc 1 rfl ?_
    refine Rn_getR hc rfl tgc_1 (by decide) rfl prc_1_0 ?_
    refine Rn_ms (σ' := (231, [some (vR 1), some (vI a1)], [vI 0, vR 2], (G0, M))) hc 1 rfl ?_
    refine Rn_cv hc rfl rfl (by decide) (ii := xi_59) rfl rfl rfl (tgc_2 : Tg _ = 7) (by decide) rfl (le := [some (vR 2), some (vI 0)]) rfl (v := some (vI (f_59 M 2 0))) (M' := M) (t_59 tgc_2 (d := d + 2) rfl rfl) ?_
    show Rn rom (d + 3) 119 (234, [some (vR 1), some (vI a1)], [vI (f_59 M 2 0)], (G0, M)) out
    cases e
    exact R_end (Rn_iret hc rfl rfl (xretI rfl rfl)) hK
  refine R_ite e (fun b19 e => ?_) (fun b19 e => ?_)
  · refine Rn_tsw (off := 234) (tgt := 235) hc rfl rfl (xsw_at b19 (by decide) (by decide) (by decide) rfl) rfl ?_
    refine Rn_ms (σ' := (236, [some (vR 1), some (vI a1)], [vR 1], (G0, M))) hc 1 rfl ?_
    refine Rn_getR hc rfl tgc_1 (by decide) rfl prc_1_0 ?_
    refine Rn_ms (σ' := (240, [some (vR 1), some (vI a1)], [vI 1, vR 2], (G0, M))) hc 1 rfl ?_
    refine Rn_cv hc rfl rfl (by decide) (ii := xi_59) rfl rfl rfl (tgc_2 : Tg _ = 7) (by decide) rfl (le := [some (vR 2), some (vI 1)]) rfl (v := some (vI (f_59 M 2 1))) (M' := M) (t_59 tgc_2 (d := d + 2) rfl rfl) ?_
    show Rn rom (d + 3) 119 (243, [some (vR 1), some (vI a1)], [vI (f_59 M 2 1)], (G0, M)) out
    cases e
    exact R_end (Rn_iret hc rfl rfl (xretI rfl rfl)) hK
  refine R_ite e (fun b20 e => ?_) (fun b20 e => ?_)
  · refine Rn_tsw (off := 243) (tgt := 244) hc rfl rfl (xsw_at b20 (by decide) (by decide) (by decide) rfl) rfl ?_
    refine Rn_ms (σ' := (245, [some (vR 1), some (vI a1)], [vR 1], (G0, M))) hc 1 rfl ?_
    refine Rn_getR hc rfl tgc_1 (by decide) rfl prc_1_0 ?_
    refine Rn_ms (σ' := (249, [some (vR 1), some (vI a1)], [vI 2, vR 2], (G0, M))) hc 1 rfl ?_
    refine Rn_cv hc rfl rfl (by decide) (ii := xi_59) rfl rfl rfl (tgc_2 : Tg _ = 7) (by decide) rfl (le := [some (vR 2), some (vI 2)]) rfl (v := some (vI (f_59 M 2 2))) (M' := M) (t_59 tgc_2 (d := d + 2) rfl rfl) ?_
    show Rn rom (d + 3) 119 (252, [some (vR 1), some (vI a1)], [vI (f_59 M 2 2)], (G0, M)) out
    cases e
    exact R_end (Rn_iret hc rfl rfl (xretI rfl rfl)) hK
  refine R_ite e (fun b21 e => ?_) (fun b21 e => ?_)
  · refine Rn_tsw (off := 252) (tgt := 253) hc rfl rfl (xsw_at b21 (by decide) (by decide) (by decide) rfl) rfl ?_
    refine Rn_ms (σ' := (254, [some (vR 1), some (vI a1)], [vR 1], (G0, M))) hc 1 rfl ?_
    refine Rn_getR hc rfl tgc_1 (by decide) rfl prc_1_3 ?_
    show Rn rom (d + 3) 119 (257, [some (vR 1), some (vI a1)], [vR 172], (G0, M)) out
    refine Rn_cv hc rfl rfl (by decide) (ii := xi_44) rfl rfl rfl (tgc_172 : Tg _ = 6) (by decide) rfl (le := [some (vR 172)]) rfl (v := some (vI (f_44 M))) (M' := M) (t_44  (d := d + 2) rfl rfl) ?_
    show Rn rom (d + 3) 119 (260, [some (vR 1), some (vI a1)], [vI (f_44 M)], (G0, M)) out
    cases e
    exact R_end (Rn_iret hc rfl rfl (xretI rfl rfl)) hK
  refine R_ite e (fun b22 e => ?_) (fun b22 e => ?_)
  · refine Rn_tsw (off := 260) (tgt := 261) hc rfl rfl (xsw_at b22 (by decide) (by decide) (by decide) rfl) rfl ?_
    refine Rn_ms (σ' := (262, [some (vR 1), some (vI a1)], [vR 1], (G0, M))) hc 1 rfl ?_
    refine Rn_getR hc rfl tgc_1 (by decide) rfl prc_1_2 ?_
    show Rn rom (d + 3) 119 (265, [some (vR 1), some (vI a1)], [vR 50], (G0, M)) out
    refine Rn_cv hc rfl rfl (by decide) (ii := xi_21) rfl rfl rfl (tgc_50 : Tg _ = 2) (by decide) rfl (le := [some (vR 50)]) rfl (v := some (vI (f_21 M))) (M' := M) (t_21  (d := d + 2) rfl rfl) ?_
    show Rn rom (d + 3) 119 (268, [some (vR 1), some (vI a1)], [vI (f_21 M)], (G0, M)) out
    cases e
    exact R_end (Rn_iret hc rfl rfl (xretI rfl rfl)) hK
  refine R_ite e (fun b23 e => ?_) (fun b23 e => ?_)
  · refine Rn_tsw (off := 268) (tgt := 269) hc rfl rfl (xsw_at b23 (by decide) (by decide) (by decide) rfl) rfl ?_
    refine Rn_ms (σ' := (270, [some (vR 1), some (vI a1)], [vR 1], (G0, M))) hc 1 rfl ?_
    refine Rn_getR hc rfl tgc_1 (by decide) rfl prc_1_0 ?_
    show Rn rom (d + 3) 119 (273, [some (vR 1), some (vI a1)], [vR 2], (G0, M)) out
    refine Rn_getI hc rfl tgc_2 (by decide) (by decide) ?_
    show Rn rom (d + 3) 119 (276, [some (vR 1), some (vI a1)], [vI (M 2 10)], (G0, M)) out
    cases e
    exact R_end (Rn_iret hc rfl rfl (xretI rfl rfl)) hK
  refine Rn_tsw (off := 276) (tgt := 277) hc rfl rfl (xsw_df (by omega)) rfl ?_
  refine Rn_ms (σ' := (278, [some (vR 1), some (vI a1)], [vI (-1)], (G0, M))) hc 1 rfl ?_
  cases e
  exact R_end (Rn_iret hc rfl rfl (xretI rfl rfl)) hK
