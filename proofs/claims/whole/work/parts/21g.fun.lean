/-! functions for methods, by program (wip/whole/gen/dec.py) -/
def f_155_L72 (M : xM) : Option (xM) :=
  (f_151 M).bind (fun k7 =>
  bnd (xset k7 183 0 2) (fun M8 =>
  some (M8)
  ))
theorem t_155_L72 {rom : xRom} {d : Nat} {M : xM} {r : xM} {out : Option xV × xH} (e : f_155_L72 M = some r) (hK : (eVW out) r) : Rn rom (d + 3) 155 (72, [some (vR 182), none], [], (G0, M)) out := by
  have hc : xkall.getD 155 [] = xk_155 := rfl
  unfold f_155_L72 at e
  refine Rn_ms (σ' := (73, [some (vR 182), none], [vR 182], (G0, M))) hc 1 rfl ?_
  refine R_bind e (fun k7 hk7 e => ?_)
  refine Rn_cv hc rfl rfl (by decide) (ii := xi_151) rfl rfl rfl (tgc_182 : Tg _ = 11) (by decide) rfl (le := [some (vR 182)]) rfl (v := none) (M' := k7) (t_151  (d := d + 1) hk7 rfl) ?_
  refine Rn_ms (σ' := (77, [some (vR 182), none], [vR 182], (G0, k7))) hc 1 rfl ?_
  refine Rn_getR hc rfl tgc_182 (by decide) rfl prc_182_0 ?_
  refine Rn_ms (σ' := (84, [some (vR 182), none], [vL 2, vI 0, vR 183], (G0, k7))) hc 2 rfl ?_
  refine R_bnd e (fun M8 hM8 e => ?_)
  refine Rn_last' hM8 hc rfl rfl tgc_183 zsc_183 (by decide) rfl ?_
  show Rn rom (d + 3) 155 (85, [some (vR 182), none], [], (G0, M8)) out
  cases e
  exact R_end (Rn_vret hc rfl rfl rfl rfl) hK
def f_155_L29 (M : xM) (c1 : Int) : Option (xM) :=
  (f_152 M (2 * c1) 0).bind (fun k4 =>
  gd ((wl (wr (4 * c1))) ≠ 0) (
  bnd (xset k4 183 1 ((wl ((k4 183 12) + (k4 183 11))).tmod (wl (wr (4 * c1))))) (fun M6 =>
  f_155_L72 M6
  )))
theorem t_155_L29 {rom : xRom} {d : Nat} {c1 : Int} {M : xM} {r : xM} {out : Option xV × xH} (e : f_155_L29 M c1 = some r) (hK : (eVW out) r) : Rn rom (d + 3) 155 (29, [some (vR 182), some (vI c1)], [], (G0, M)) out := by
  have hc : xkall.getD 155 [] = xk_155 := rfl
  unfold f_155_L29 at e
  refine Rn_ms (σ' := (34, [some (vR 182), some (vI c1)], [vI 0, vI (2 * c1), vR 182], (G0, M))) hc 5 rfl ?_
  refine R_bind e (fun k4 hk4 e => ?_)
  refine Rn_cv hc rfl rfl (by decide) (ii := xi_152) rfl rfl rfl (tgc_182 : Tg _ = 11) (by decide) rfl (le := [some (vR 182), some (vI (2 * c1)), some (vI 0), none, none, none, none]) rfl (v := none) (M' := k4) (t_152  (d := d + 1) hk4 rfl) ?_
  refine Rn_ms (σ' := (38, [some (vR 182), some (vI c1)], [vR 182], (G0, k4))) hc 1 rfl ?_
  refine Rn_getR hc rfl tgc_182 (by decide) rfl prc_182_0 ?_
  refine Rn_ms (σ' := (43, [some (vR 182), some (vI c1)], [vR 182, vI 1, vR 183], (G0, k4))) hc 2 rfl ?_
  refine Rn_getR hc rfl tgc_182 (by decide) rfl prc_182_0 ?_
  refine Rn_ms (σ' := (48, [some (vR 182), some (vI c1)], [vI 12, vR 183, vI 1, vR 183], (G0, k4))) hc 1 rfl ?_
  refine Rn_lald hc rfl rfl tgc_183 zsc_183 (by decide) rfl ?_
  refine Rn_ms (σ' := (50, [some (vR 182), some (vI c1)], [vR 182, vL (k4 183 12), vI 1, vR 183], (G0, k4))) hc 1 rfl ?_
  refine Rn_getR hc rfl tgc_182 (by decide) rfl prc_182_0 ?_
  refine Rn_ms (σ' := (55, [some (vR 182), some (vI c1)], [vI 11, vR 183, vL (k4 183 12), vI 1, vR 183], (G0, k4))) hc 1 rfl ?_
  refine Rn_lald hc rfl rfl tgc_183 zsc_183 (by decide) rfl ?_
  refine Rn_ms (σ' := (61, [some (vR 182), some (vI c1)], [vL (wr (4 * c1)), vL ((k4 183 12) + (k4 183 11)), vI 1, vR 183], (G0, k4))) hc 5 rfl ?_
  refine R_gd e (fun g5 e => ?_)
  refine Rn_lrem hc rfl ⟨rfl, rfl⟩ (z' := (wl (wr (4 * c1)))) rfl g5 ?_
  show Rn rom (d + 3) 155 (62, [some (vR 182), some (vI c1)], [vL ((wl ((k4 183 12) + (k4 183 11))).tmod (wl (wr (4 * c1)))), vI 1, vR 183], (G0, k4)) out
  refine R_bnd e (fun M6 hM6 e => ?_)
  refine Rn_last' hM6 hc rfl rfl tgc_183 zsc_183 (by decide) rfl ?_
  refine Rn_ms (σ' := (72, [some (vR 182), some (vI c1)], [], (G0, M6))) hc 1 rfl ?_
  exact Rn_weak (xle_s (xle_n xle_0)) (t_155_L72  e hK)
/-- PedalLayersModel.endsOver -/
def f_155 (M : xM) : Option (xM) :=
  (f_139 M 6).bind (fun k1 =>
  (f_147 M).bind (fun k2 =>
  if wr k2 = wr (2 * k1) then
    f_155_L29 M k1
  else
    (f_139 M 11).bind (fun k9 =>
    if wr k9 ≤ wr (2 * k1) then
      (f_152 M k1 k1).bind (fun k11 =>
      f_155_L72 k11
      )
    else
      f_155_L29 M k1
    )
  ))
theorem t_155 {rom : xRom} {d : Nat} {M : xM}  {r : xM} {out : Option xV × xH} (e : f_155 M = some r) (hK : eVW out r) : Rn rom (d + 3) 155 (0, [some (vR 182), none], [], (G0, M)) out := by
  have hc : xkall.getD 155 [] = xk_155 := rfl
  unfold f_155 at e
  refine Rn_ms (σ' := (3, [some (vR 182), none], [vI 6, vR 182], (G0, M))) hc 2 rfl ?_
  refine R_bind e (fun k1 hk1 e => ?_)
  refine Rn_cv hc rfl rfl (by decide) (ii := xi_139) rfl rfl rfl (tgc_182 : Tg _ = 11) (by decide) rfl (le := [some (vR 182), some (vI 6)]) rfl (v := some (vI k1)) (M' := M) (t_139  (d := d + 2) hk1 rfl) ?_
  refine Rn_ms (σ' := (8, [some (vR 182), some (vI k1)], [vR 182], (G0, M))) hc 2 rfl ?_
  refine R_bind e (fun k2 hk2 e => ?_)
  refine Rn_cv hc rfl rfl (by decide) (ii := xi_147) rfl rfl rfl (tgc_182 : Tg _ = 11) (by decide) rfl (le := [some (vR 182)]) rfl (v := some (vI k2)) (M' := M) (t_147  (d := d + 0) hk2 rfl) ?_
  refine Rn_ms (σ' := (14, [some (vR 182), some (vI k1)], [vI (2 * k1), vI k2], (G0, M))) hc 3 rfl ?_
  refine R_ite e (fun b3 e => ?_) (fun b3 e => ?_)
  · refine Rn_icT (tgt := 29) hc rfl rfl (by decide) b3 ?_
    show Rn rom (d + 3) 155 (29, [some (vR 182), some (vI k1)], [], (G0, M)) out
    exact Rn_weak (xle_s (xle_s xle_0)) (t_155_L29  e hK)
  · refine Rn_icF hc rfl rfl (by decide) b3 ?_
    refine Rn_ms (σ' := (20, [some (vR 182), some (vI k1)], [vI 11, vR 182], (G0, M))) hc 2 rfl ?_
    refine R_bind e (fun k9 hk9 e => ?_)
    refine Rn_cv hc rfl rfl (by decide) (ii := xi_139) rfl rfl rfl (tgc_182 : Tg _ = 11) (by decide) rfl (le := [some (vR 182), some (vI 11)]) rfl (v := some (vI k9)) (M' := M) (t_139  (d := d + 2) hk9 rfl) ?_
    refine Rn_ms (σ' := (26, [some (vR 182), some (vI k1)], [vI (2 * k1), vI k9], (G0, M))) hc 3 rfl ?_
    refine R_ite e (fun b10 e => ?_) (fun b10 e => ?_)
    · refine Rn_icT (tgt := 66) hc rfl rfl (by decide) b10 ?_
      refine Rn_ms (σ' := (69, [some (vR 182), some (vI k1)], [vI k1, vI k1, vR 182], (G0, M))) hc 3 rfl ?_
      refine R_bind e (fun k11 hk11 e => ?_)
      refine Rn_cv hc rfl rfl (by decide) (ii := xi_152) rfl rfl rfl (tgc_182 : Tg _ = 11) (by decide) rfl (le := [some (vR 182), some (vI k1), some (vI k1), none, none, none, none]) rfl (v := none) (M' := k11) (t_152  (d := d + 1) hk11 rfl) ?_
      show Rn rom (d + 3) 155 (72, [some (vR 182), some (vI k1)], [], (G0, k11)) out
      exact Rn_weak (xle_s (xle_n xle_0)) (t_155_L72  e hK)
    · refine Rn_icF hc rfl rfl (by decide) b10 ?_
      show Rn rom (d + 3) 155 (29, [some (vR 182), some (vI k1)], [], (G0, M)) out
      exact Rn_weak (xle_s (xle_s xle_0)) (t_155_L29  e hK)
def f_156_L21 (M : xM) (s0 : Int) : Option (Int) :=
  if wr s0 = 0 then
    (f_139 M 0).bind (fun k4 =>
    if wr k4 = 2 then
      (f_139 M 7).bind (fun k6 =>
      if wr k6 = 6 then
        some (-3)
      else
        some (0)
      )
    else
      some (0)
    )
  else
    some (-2)
theorem t_156_L21 {rom : xRom} {d : Nat} {s0 : Int} {M : xM} {r : Int} {out : Option xV × xH} (e : f_156_L21 M s0 = some r) (hK : (eI M out) r) : Rn rom (d + 2) 156 (21, [some (vR 182), none], [vI s0], (G0, M)) out := by
  have hc : xkall.getD 156 [] = xk_156 := rfl
  unfold f_156_L21 at e
  refine Rn_ms (σ' := (23, [some (vR 182), some (vI s0)], [vI s0], (G0, M))) hc 2 rfl ?_
  refine R_ite e (fun b3 e => ?_) (fun b3 e => ?_)
  · refine Rn_ifT (tgt := 31) hc rfl rfl (by decide) b3 ?_
    refine Rn_ms (σ' := (33, [some (vR 182), some (vI s0)], [vI 0, vR 182], (G0, M))) hc 2 rfl ?_
    refine R_bind e (fun k4 hk4 e => ?_)
    refine Rn_cv hc rfl rfl (by decide) (ii := xi_139) rfl rfl rfl (tgc_182 : Tg _ = 11) (by decide) rfl (le := [some (vR 182), some (vI 0)]) rfl (v := some (vI k4)) (M' := M) (t_139  (d := d + 1) hk4 rfl) ?_
    refine Rn_ms (σ' := (37, [some (vR 182), some (vI s0)], [vI 2, vI k4], (G0, M))) hc 1 rfl ?_
    refine R_ite e (fun b5 e => ?_) (fun b5 e => ?_)
    · refine Rn_icF hc rfl rfl (by decide) (fun w => w b5) ?_
      refine Rn_ms (σ' := (43, [some (vR 182), some (vI s0)], [vI 7, vR 182], (G0, M))) hc 2 rfl ?_
      refine R_bind e (fun k6 hk6 e => ?_)
      refine Rn_cv hc rfl rfl (by decide) (ii := xi_139) rfl rfl rfl (tgc_182 : Tg _ = 11) (by decide) rfl (le := [some (vR 182), some (vI 7)]) rfl (v := some (vI k6)) (M' := M) (t_139  (d := d + 1) hk6 rfl) ?_
      refine Rn_ms (σ' := (48, [some (vR 182), some (vI s0)], [vI 6, vI k6], (G0, M))) hc 1 rfl ?_
      refine R_ite e (fun b7 e => ?_) (fun b7 e => ?_)
      · refine Rn_icF hc rfl rfl (by decide) (fun w => w b7) ?_
        refine Rn_ms (σ' := (57, [some (vR 182), some (vI s0)], [vI (-3)], (G0, M))) hc 2 rfl ?_
        cases e
        exact R_end (Rn_iret hc rfl rfl (xretI rfl rfl)) hK
      · refine Rn_icT (tgt := 56) hc rfl rfl (by decide) (fun w => b7 w) ?_
        refine Rn_ms (σ' := (57, [some (vR 182), some (vI s0)], [vI 0], (G0, M))) hc 1 rfl ?_
        cases e
        exact R_end (Rn_iret hc rfl rfl (xretI rfl rfl)) hK
    · refine Rn_icT (tgt := 56) hc rfl rfl (by decide) (fun w => b5 w) ?_
      refine Rn_ms (σ' := (57, [some (vR 182), some (vI s0)], [vI 0], (G0, M))) hc 1 rfl ?_
      cases e
      exact R_end (Rn_iret hc rfl rfl (xretI rfl rfl)) hK
  · refine Rn_ifF hc rfl rfl (by decide) b3 ?_
    refine Rn_ms (σ' := (57, [some (vR 182), some (vI s0)], [vI (-2)], (G0, M))) hc 2 rfl ?_
    cases e
    exact R_end (Rn_iret hc rfl rfl (xretI rfl rfl)) hK
def f_156_L20 (M : xM) : Option (Int) :=
  f_156_L21 M 0
theorem t_156_L20 {rom : xRom} {d : Nat} {M : xM} {r : Int} {out : Option xV × xH} (e : f_156_L20 M = some r) (hK : (eI M out) r) : Rn rom (d + 2) 156 (20, [some (vR 182), none], [], (G0, M)) out := by
  have hc : xkall.getD 156 [] = xk_156 := rfl
  unfold f_156_L20 at e
  refine Rn_ms (σ' := (21, [some (vR 182), none], [vI 0], (G0, M))) hc 1 rfl ?_
  exact Rn_weak (xle_s (xle_s xle_0)) (t_156_L21  e hK)
/-- PedalLayersModel.whyNotPress -/
def f_156 (M : xM) : Option (Int) :=
  (f_148 M).bind (fun k1 =>
  if wr k1 = 0 then
    f_156_L20 M
  else
    (f_139 M 11).bind (fun k8 =>
    if wr k8 = 0 then
      f_156_L21 M 1
    else
      f_156_L20 M
    )
  )
theorem t_156 {rom : xRom} {d : Nat} {M : xM}  {r : Int} {out : Option xV × xH} (e : f_156 M = some r) (hK : eI M out r) : Rn rom (d + 2) 156 (0, [some (vR 182), none], [], (G0, M)) out := by
  have hc : xkall.getD 156 [] = xk_156 := rfl
  unfold f_156 at e
  refine Rn_ms (σ' := (1, [some (vR 182), none], [vR 182], (G0, M))) hc 1 rfl ?_
  refine R_bind e (fun k1 hk1 e => ?_)
  refine Rn_cv hc rfl rfl (by decide) (ii := xi_148) rfl rfl rfl (tgc_182 : Tg _ = 11) (by decide) rfl (le := [some (vR 182)]) rfl (v := some (vI k1)) (M' := M) (t_148  (d := d + 0) hk1 rfl) ?_
  show Rn rom (d + 2) 156 (4, [some (vR 182), none], [vI k1], (G0, M)) out
  refine R_ite e (fun b2 e => ?_) (fun b2 e => ?_)
  · refine Rn_ifT (tgt := 20) hc rfl rfl (by decide) b2 ?_
    show Rn rom (d + 2) 156 (20, [some (vR 182), none], [], (G0, M)) out
    exact Rn_weak (xle_s (xle_s xle_0)) (t_156_L20  e hK)
  · refine Rn_ifF hc rfl rfl (by decide) b2 ?_
    refine Rn_ms (σ' := (10, [some (vR 182), none], [vI 11, vR 182], (G0, M))) hc 2 rfl ?_
    refine R_bind e (fun k8 hk8 e => ?_)
    refine Rn_cv hc rfl rfl (by decide) (ii := xi_139) rfl rfl rfl (tgc_182 : Tg _ = 11) (by decide) rfl (le := [some (vR 182), some (vI 11)]) rfl (v := some (vI k8)) (M' := M) (t_139  (d := d + 1) hk8 rfl) ?_
    show Rn rom (d + 2) 156 (13, [some (vR 182), none], [vI k8], (G0, M)) out
    refine R_ite e (fun b9 e => ?_) (fun b9 e => ?_)
    · refine Rn_ifF hc rfl rfl (by decide) (fun w => w b9) ?_
      refine Rn_ms (σ' := (21, [some (vR 182), none], [vI 1], (G0, M))) hc 2 rfl ?_
      exact Rn_weak (xle_s (xle_s xle_0)) (t_156_L21  e hK)
    · refine Rn_ifT (tgt := 20) hc rfl rfl (by decide) (fun w => b9 w) ?_
      show Rn rom (d + 2) 156 (20, [some (vR 182), none], [], (G0, M)) out
      exact Rn_weak (xle_s (xle_s xle_0)) (t_156_L20  e hK)
/-- PedalLayersModel.presses -/
def f_157 (M : xM) : Option (xM) :=
  (f_139 M 0).bind (fun k1 =>
  if wr k1 = 1 then
    (f_154 M).bind (fun k3 =>
    some (k3)
    )
  else
  if wr k1 = 2 then
    (f_150 M).bind (fun k5 =>
    some (k5)
    )
  else
  if wr k1 = 3 then
    (f_155 M).bind (fun k7 =>
    some (k7)
    )
  else
  if wr k1 = 4 then
    bnd (f_149 M) (fun k9 =>
    some (k9)
    )
  else
  (f_150 M).bind (fun k10 =>
  some (k10)
  )
  )
theorem t_157 {rom : xRom} {d : Nat} {M : xM}  {r : xM} {out : Option xV × xH} (e : f_157 M = some r) (hK : eVW out r) : Rn rom (d + 4) 157 (0, [some (vR 182)], [], (G0, M)) out := by
  have hc : xkall.getD 157 [] = xk_157 := rfl
  unfold f_157 at e
  refine Rn_ms (σ' := (2, [some (vR 182)], [vI 0, vR 182], (G0, M))) hc 2 rfl ?_
  refine R_bind e (fun k1 hk1 e => ?_)
  refine Rn_cv hc rfl rfl (by decide) (ii := xi_139) rfl rfl rfl (tgc_182 : Tg _ = 11) (by decide) rfl (le := [some (vR 182), some (vI 0)]) rfl (v := some (vI k1)) (M' := M) (t_139  (d := d + 3) hk1 rfl) ?_
  show Rn rom (d + 4) 157 (5, [some (vR 182)], [vI k1], (G0, M)) out
  refine R_ite e (fun b2 e => ?_) (fun b2 e => ?_)
  · refine Rn_tsw (off := 31) (tgt := 36) hc rfl rfl (xsw_at b2 (by decide) (by decide) (by decide) rfl) rfl ?_
    refine Rn_ms (σ' := (37, [some (vR 182)], [vR 182], (G0, M))) hc 1 rfl ?_
    refine R_bind e (fun k3 hk3 e => ?_)
    refine Rn_cv hc rfl rfl (by decide) (ii := xi_154) rfl rfl rfl (tgc_182 : Tg _ = 11) (by decide) rfl (le := [some (vR 182), none, none]) rfl (v := none) (M' := k3) (t_154  (d := d + 1) hk3 rfl) ?_
    refine Rn_ms (σ' := (61, [some (vR 182)], [], (G0, k3))) hc 1 rfl ?_
    cases e
    exact R_end (Rn_vret hc rfl rfl rfl rfl) hK
  refine R_ite e (fun b4 e => ?_) (fun b4 e => ?_)
  · refine Rn_tsw (off := 52) (tgt := 57) hc rfl rfl (xsw_at b4 (by decide) (by decide) (by decide) rfl) rfl ?_
    refine Rn_ms (σ' := (58, [some (vR 182)], [vR 182], (G0, M))) hc 1 rfl ?_
    refine R_bind e (fun k5 hk5 e => ?_)
    refine Rn_cv hc rfl rfl (by decide) (ii := xi_150) rfl rfl rfl (tgc_182 : Tg _ = 11) (by decide) rfl (le := [some (vR 182)]) rfl (v := none) (M' := k5) (t_150  (d := d + 2) hk5 rfl) ?_
    show Rn rom (d + 4) 157 (61, [some (vR 182)], [], (G0, k5)) out
    cases e
    exact R_end (Rn_vret hc rfl rfl rfl rfl) hK
  refine R_ite e (fun b6 e => ?_) (fun b6 e => ?_)
  · refine Rn_tsw (off := 38) (tgt := 43) hc rfl rfl (xsw_at b6 (by decide) (by decide) (by decide) rfl) rfl ?_
    refine Rn_ms (σ' := (44, [some (vR 182)], [vR 182], (G0, M))) hc 1 rfl ?_
    refine R_bind e (fun k7 hk7 e => ?_)
    refine Rn_cv hc rfl rfl (by decide) (ii := xi_155) rfl rfl rfl (tgc_182 : Tg _ = 11) (by decide) rfl (le := [some (vR 182), none]) rfl (v := none) (M' := k7) (t_155  (d := d + 0) hk7 rfl) ?_
    refine Rn_ms (σ' := (61, [some (vR 182)], [], (G0, k7))) hc 1 rfl ?_
    cases e
    exact R_end (Rn_vret hc rfl rfl rfl rfl) hK
  refine R_ite e (fun b8 e => ?_) (fun b8 e => ?_)
  · refine Rn_tsw (off := 45) (tgt := 50) hc rfl rfl (xsw_at b8 (by decide) (by decide) (by decide) rfl) rfl ?_
    refine Rn_ms (σ' := (51, [some (vR 182)], [vR 182], (G0, M))) hc 1 rfl ?_
    refine R_bnd e (fun k9 hk9 e => ?_)
    refine Rn_cv hc rfl rfl (by decide) (ii := xi_149) rfl rfl rfl (tgc_182 : Tg _ = 11) (by decide) rfl (le := [some (vR 182)]) rfl (v := none) (M' := k9) (t_149  (d := d + 3) hk9.symm rfl) ?_
    refine Rn_ms (σ' := (61, [some (vR 182)], [], (G0, k9))) hc 1 rfl ?_
    cases e
    exact R_end (Rn_vret hc rfl rfl rfl rfl) hK
  refine Rn_tsw (off := 52) (tgt := 57) hc rfl rfl (xsw_df (by omega)) rfl ?_
  refine Rn_ms (σ' := (58, [some (vR 182)], [vR 182], (G0, M))) hc 1 rfl ?_
  refine R_bind e (fun k10 hk10 e => ?_)
  refine Rn_cv hc rfl rfl (by decide) (ii := xi_150) rfl rfl rfl (tgc_182 : Tg _ = 11) (by decide) rfl (le := [some (vR 182)]) rfl (v := none) (M' := k10) (t_150  (d := d + 2) hk10 rfl) ?_
  show Rn rom (d + 4) 157 (61, [some (vR 182)], [], (G0, k10)) out
  cases e
  exact R_end (Rn_vret hc rfl rfl rfl rfl) hK
/-- PedalLayersModel.whyNotStop -/
def f_158 (M : xM) : Option (Int) :=
  (f_139 M 0).bind (fun k1 =>
  if wr k1 = 0 then
    some (-2)
  else
    (f_139 M 0).bind (fun k3 =>
    if wr k3 = 4 then
      some (-2)
    else
      some (0)
    )
  )
theorem t_158 {rom : xRom} {d : Nat} {M : xM}  {r : Int} {out : Option xV × xH} (e : f_158 M = some r) (hK : eI M out r) : Rn rom (d + 1) 158 (0, [some (vR 182)], [], (G0, M)) out := by
  have hc : xkall.getD 158 [] = xk_158 := rfl
  unfold f_158 at e
  refine Rn_ms (σ' := (2, [some (vR 182)], [vI 0, vR 182], (G0, M))) hc 2 rfl ?_
  refine R_bind e (fun k1 hk1 e => ?_)
  refine Rn_cv hc rfl rfl (by decide) (ii := xi_139) rfl rfl rfl (tgc_182 : Tg _ = 11) (by decide) rfl (le := [some (vR 182), some (vI 0)]) rfl (v := some (vI k1)) (M' := M) (t_139  (d := d + 0) hk1 rfl) ?_
  show Rn rom (d + 1) 158 (5, [some (vR 182)], [vI k1], (G0, M)) out
  refine R_ite e (fun b2 e => ?_) (fun b2 e => ?_)
  · refine Rn_ifT (tgt := 17) hc rfl rfl (by decide) b2 ?_
    refine Rn_ms (σ' := (23, [some (vR 182)], [vI (-2)], (G0, M))) hc 2 rfl ?_
    cases e
    exact R_end (Rn_iret hc rfl rfl (xretI rfl rfl)) hK
  · refine Rn_ifF hc rfl rfl (by decide) b2 ?_
    refine Rn_ms (σ' := (10, [some (vR 182)], [vI 0, vR 182], (G0, M))) hc 2 rfl ?_
    refine R_bind e (fun k3 hk3 e => ?_)
    refine Rn_cv hc rfl rfl (by decide) (ii := xi_139) rfl rfl rfl (tgc_182 : Tg _ = 11) (by decide) rfl (le := [some (vR 182), some (vI 0)]) rfl (v := some (vI k3)) (M' := M) (t_139  (d := d + 0) hk3 rfl) ?_
    refine Rn_ms (σ' := (14, [some (vR 182)], [vI 4, vI k3], (G0, M))) hc 1 rfl ?_
    refine R_ite e (fun b4 e => ?_) (fun b4 e => ?_)
    · refine Rn_icF hc rfl rfl (by decide) (fun w => w b4) ?_
      refine Rn_ms (σ' := (23, [some (vR 182)], [vI (-2)], (G0, M))) hc 2 rfl ?_
      cases e
      exact R_end (Rn_iret hc rfl rfl (xretI rfl rfl)) hK
    · refine Rn_icT (tgt := 22) hc rfl rfl (by decide) (fun w => b4 w) ?_
      refine Rn_ms (σ' := (23, [some (vR 182)], [vI 0], (G0, M))) hc 1 rfl ?_
      cases e
      exact R_end (Rn_iret hc rfl rfl (xretI rfl rfl)) hK
/-- PedalLayersModel.stops -/
def f_159 (M : xM) : Option (xM) :=
  (f_139 M 0).bind (fun k1 =>
  if wr k1 = 1 then
    bnd (xset M 183 0 0) (fun M3 =>
    (f_151 M3).bind (fun k4 =>
    some (k4)
    ))
  else
    bnd (xset M 183 0 4) (fun M5 =>
    (f_151 M5).bind (fun k6 =>
    some (k6)
    ))
  )
theorem t_159 {rom : xRom} {d : Nat} {M : xM}  {r : xM} {out : Option xV × xH} (e : f_159 M = some r) (hK : eVW out r) : Rn rom (d + 2) 159 (0, [some (vR 182)], [], (G0, M)) out := by
  have hc : xkall.getD 159 [] = xk_159 := rfl
  unfold f_159 at e
  refine Rn_ms (σ' := (1, [some (vR 182)], [vR 182], (G0, M))) hc 1 rfl ?_
  refine Rn_getR hc rfl tgc_182 (by decide) rfl prc_182_0 ?_
  refine Rn_ms (σ' := (7, [some (vR 182)], [vI 0, vR 182, vI 0, vR 183], (G0, M))) hc 3 rfl ?_
  refine R_bind e (fun k1 hk1 e => ?_)
  refine Rn_cv hc rfl rfl (by decide) (ii := xi_139) rfl rfl rfl (tgc_182 : Tg _ = 11) (by decide) rfl (le := [some (vR 182), some (vI 0)]) rfl (v := some (vI k1)) (M' := M) (t_139  (d := d + 1) hk1 rfl) ?_
  refine Rn_ms (σ' := (11, [some (vR 182)], [vI 1, vI k1, vI 0, vR 183], (G0, M))) hc 1 rfl ?_
  refine R_ite e (fun b2 e => ?_) (fun b2 e => ?_)
  · refine Rn_icF hc rfl rfl (by decide) (fun w => w b2) ?_
    refine Rn_ms (σ' := (21, [some (vR 182)], [vL 0, vI 0, vR 183], (G0, M))) hc 2 rfl ?_
    refine R_bnd e (fun M3 hM3 e => ?_)
    refine Rn_last' hM3 hc rfl rfl tgc_183 zsc_183 (by decide) rfl ?_
    refine Rn_ms (σ' := (23, [some (vR 182)], [vR 182], (G0, M3))) hc 1 rfl ?_
    refine R_bind e (fun k4 hk4 e => ?_)
    refine Rn_cv hc rfl rfl (by decide) (ii := xi_151) rfl rfl rfl (tgc_182 : Tg _ = 11) (by decide) rfl (le := [some (vR 182)]) rfl (v := none) (M' := k4) (t_151  (d := d + 0) hk4 rfl) ?_
    show Rn rom (d + 2) 159 (26, [some (vR 182)], [], (G0, k4)) out
    cases e
    exact R_end (Rn_vret hc rfl rfl rfl rfl) hK
  · refine Rn_icT (tgt := 18) hc rfl rfl (by decide) (fun w => b2 w) ?_
    refine Rn_ms (σ' := (21, [some (vR 182)], [vL 4, vI 0, vR 183], (G0, M))) hc 1 rfl ?_
    refine R_bnd e (fun M5 hM5 e => ?_)
    refine Rn_last' hM5 hc rfl rfl tgc_183 zsc_183 (by decide) rfl ?_
    refine Rn_ms (σ' := (23, [some (vR 182)], [vR 182], (G0, M5))) hc 1 rfl ?_
    refine R_bind e (fun k6 hk6 e => ?_)
    refine Rn_cv hc rfl rfl (by decide) (ii := xi_151) rfl rfl rfl (tgc_182 : Tg _ = 11) (by decide) rfl (le := [some (vR 182)]) rfl (v := none) (M' := k6) (t_151  (d := d + 0) hk6 rfl) ?_
    show Rn rom (d + 2) 159 (26, [some (vR 182)], [], (G0, k6)) out
    cases e
    exact R_end (Rn_vret hc rfl rfl rfl rfl) hK
def f_160_L39b (c1 : Int) (c3 : Int) (v4 : Int) (M : xM) : Option ((Int × xM) ⊕ ((Int × xM) ⊕ (xM))) :=
  (f_139 M (14 + c3)).bind (fun k6 =>
  if wr (k6 * 36) ≤ wr v4 then
    some (.inr (.inl ((c3 + 1), M)))
  else
    (f_141 M c3 ((wr v4).tdiv 36) ((wr v4).tmod 36)).bind (fun k8 =>
    (f_142 M c3 ((wr v4).tdiv 36) ((wr v4).tmod 36) ((wl ((wr k8) * c1)).tdiv 100)).bind (fun k9 =>
    some (.inl ((v4 + 1), k9))
    ))
  )
theorem t_160_L39b {rom : xRom} {d : Nat} {c1 : Int} {c3 : Int} {v4 : Int} {M : xM} {r : (Int × xM) ⊕ ((Int × xM) ⊕ (xM))} {out : Option xV × xH} (e : f_160_L39b c1 c3 v4 M = some r) (hK : ((Sum.elim (fun s => Rn rom (d + 1) 160 (39, [some (vR 182), some (vL c1), none, some (vI c3), some (vI s.1), none], [], (G0, s.2)) out) ((Sum.elim (fun s => Rn rom (d + 1) 160 (13, [some (vR 182), some (vL c1), none, some (vI s.1), none, none], [], (G0, s.2)) out) (eVW out))))) r) : Rn rom (d + 1) 160 (39, [some (vR 182), some (vL c1), none, some (vI c3), some (vI v4), none], [], (G0, M)) out := by
  have hc : xkall.getD 160 [] = xk_160 := rfl
  unfold f_160_L39b at e
  refine Rn_ms (σ' := (46, [some (vR 182), some (vL c1), none, some (vI c3), some (vI v4), none], [vI (14 + c3), vR 182, vI v4], (G0, M))) hc 5 rfl ?_
  refine R_bind e (fun k6 hk6 e => ?_)
  refine Rn_cv hc rfl rfl (by decide) (ii := xi_139) rfl rfl rfl (tgc_182 : Tg _ = 11) (by decide) rfl (le := [some (vR 182), some (vI (14 + c3))]) rfl (v := some (vI k6)) (M' := M) (t_139  (d := d + 0) hk6 rfl) ?_
  refine Rn_ms (σ' := (52, [some (vR 182), some (vL c1), none, some (vI c3), some (vI v4), none], [vI (k6 * 36), vI v4], (G0, M))) hc 2 rfl ?_
  refine R_ite e (fun b7 e => ?_) (fun b7 e => ?_)
  · refine Rn_icT (tgt := 103) hc rfl rfl (by decide) b7 ?_
    refine Rn_ms (σ' := (13, [some (vR 182), some (vL c1), none, some (vI (c3 + 1)), some (vI v4), none], [], (G0, M))) hc 2 rfl ?_
    cases e
    exact Rn_weak (xle_s (xle_s (xle_s (xle_s (xle_n (xle_s xle_0)))))) hK
  · refine Rn_icF hc rfl rfl (by decide) b7 ?_
    refine Rn_ms (σ' := (61, [some (vR 182), some (vL c1), none, some (vI c3), some (vI v4), none], [vI 36, vI v4, vI c3, vR 182], (G0, M))) hc 4 rfl ?_
    refine Rn_div hc rfl ⟨rfl, rfl⟩ (z' := 36) (by decide) (by decide) ?_
    refine Rn_ms (σ' := (66, [some (vR 182), some (vL c1), none, some (vI c3), some (vI v4), none], [vI 36, vI v4, vI ((wr v4).tdiv 36), vI c3, vR 182], (G0, M))) hc 2 rfl ?_
    refine Rn_rem hc rfl ⟨rfl, rfl⟩ (z' := 36) (by decide) (by decide) ?_
    show Rn rom (d + 1) 160 (67, [some (vR 182), some (vL c1), none, some (vI c3), some (vI v4), none], [vI ((wr v4).tmod 36), vI ((wr v4).tdiv 36), vI c3, vR 182], (G0, M)) out
    refine R_bind e (fun k8 hk8 e => ?_)
    refine Rn_cv hc rfl rfl (by decide) (ii := xi_141) rfl rfl rfl (tgc_182 : Tg _ = 11) (by decide) rfl (le := [some (vR 182), some (vI c3), some (vI ((wr v4).tdiv 36)), some (vI ((wr v4).tmod 36))]) rfl (v := some (vI k8)) (M' := M) (t_141  (d := d + 0) hk8 rfl) ?_
    refine Rn_ms (σ' := (78, [some (vR 182), some (vL c1), none, some (vI c3), some (vI v4), some (vI k8)], [vI 36, vI v4, vI c3, vR 182], (G0, M))) hc 5 rfl ?_
    refine Rn_div hc rfl ⟨rfl, rfl⟩ (z' := 36) (by decide) (by decide) ?_
    refine Rn_ms (σ' := (83, [some (vR 182), some (vL c1), none, some (vI c3), some (vI v4), some (vI k8)], [vI 36, vI v4, vI ((wr v4).tdiv 36), vI c3, vR 182], (G0, M))) hc 2 rfl ?_
    refine Rn_rem hc rfl ⟨rfl, rfl⟩ (z' := 36) (by decide) (by decide) ?_
    refine Rn_ms (σ' := (92, [some (vR 182), some (vL c1), none, some (vI c3), some (vI v4), some (vI k8)], [vL 100, vL ((wr k8) * c1), vI ((wr v4).tmod 36), vI ((wr v4).tdiv 36), vI c3, vR 182], (G0, M))) hc 5 rfl ?_
    refine Rn_ldiv hc rfl ⟨rfl, rfl⟩ (z' := 100) (by decide) (by decide) ?_
    refine Rn_ms (σ' := (94, [some (vR 182), some (vL c1), none, some (vI c3), some (vI v4), some (vI k8)], [vI ((wl ((wr k8) * c1)).tdiv 100), vI ((wr v4).tmod 36), vI ((wr v4).tdiv 36), vI c3, vR 182], (G0, M))) hc 1 rfl ?_
    refine R_bind e (fun k9 hk9 e => ?_)
    refine Rn_cv hc rfl rfl (by decide) (ii := xi_142) rfl rfl rfl (tgc_182 : Tg _ = 11) (by decide) rfl (le := [some (vR 182), some (vI c3), some (vI ((wr v4).tdiv 36)), some (vI ((wr v4).tmod 36)), some (vI ((wl ((wr k8) * c1)).tdiv 100)), none, none]) rfl (v := none) (M' := k9) (t_142  (d := d + 0) hk9 rfl) ?_
    refine Rn_ms (σ' := (39, [some (vR 182), some (vL c1), none, some (vI c3), some (vI (v4 + 1)), some (vI k8)], [], (G0, k9))) hc 2 rfl ?_
    cases e
    exact Rn_weak (xle_s (xle_s (xle_s (xle_s (xle_s (xle_n xle_0)))))) hK
def f_160_L39 (c1 : Int) (c3 : Int) (s : Int × xM) : Option ((Int × xM) ⊕ (xM)) := loop NF (fun s => f_160_L39b c1 c3 s.1 s.2) s
theorem t_160_L39 {rom : xRom} {d : Nat} {c1 : Int} {c3 : Int} {s : Int × xM} {r : (Int × xM) ⊕ (xM)} {out : Option xV × xH} (e : f_160_L39 c1 c3 s = some r) (hK : ((Sum.elim (fun s => Rn rom (d + 1) 160 (13, [some (vR 182), some (vL c1), none, some (vI s.1), none, none], [], (G0, s.2)) out) (eVW out))) r) : Rn rom (d + 1) 160 (39, [some (vR 182), some (vL c1), none, some (vI c3), some (vI s.1), none], [], (G0, s.2)) out := by
  unfold f_160_L39 at e
  revert e hK
  exact R_loop (b := fun s => f_160_L39b c1 c3 s.1 s.2) (G := fun s => Rn rom (d + 1) 160 (39, [some (vR 182), some (vL c1), none, some (vI c3), some (vI s.1), none], [], (G0, s.2)) out) (K := (Sum.elim (fun s => Rn rom (d + 1) 160 (13, [some (vR 182), some (vL c1), none, some (vI s.1), none, none], [], (G0, s.2)) out) (eVW out))) (fun s r e hK => t_160_L39b  e hK) NF s r
def f_160_L13b (c1 : Int) (v3 : Int) (M : xM) : Option ((Int × xM) ⊕ (xM)) :=
  (f_139 M 7).bind (fun k1 =>
  if wr k1 ≤ wr v3 then
    some (.inr (M))
  else
    gd (0 ≤ wr (26 + v3) ∧ wr (26 + v3) < 1376) (
    gd (0 ≤ wr (26 + v3) ∧ wr (26 + v3) < 1376) (
    bnd (xset M 183 (wr (26 + v3)).toNat ((M 183 (wr (26 + v3)).toNat) + 1)) (fun M5 =>
    f_160_L39 c1 v3 (0, M5)
    )))
  )
theorem t_160_L13b {rom : xRom} {d : Nat} {c1 : Int} {v3 : Int} {M : xM} {r : (Int × xM) ⊕ (xM)} {out : Option xV × xH} (e : f_160_L13b c1 v3 M = some r) (hK : ((Sum.elim (fun s => Rn rom (d + 1) 160 (13, [some (vR 182), some (vL c1), none, some (vI s.1), none, none], [], (G0, s.2)) out) (eVW out))) r) : Rn rom (d + 1) 160 (13, [some (vR 182), some (vL c1), none, some (vI v3), none, none], [], (G0, M)) out := by
  have hc : xkall.getD 160 [] = xk_160 := rfl
  unfold f_160_L13b at e
  refine Rn_ms (σ' := (17, [some (vR 182), some (vL c1), none, some (vI v3), none, none], [vI 7, vR 182, vI v3], (G0, M))) hc 3 rfl ?_
  refine R_bind e (fun k1 hk1 e => ?_)
  refine Rn_cv hc rfl rfl (by decide) (ii := xi_139) rfl rfl rfl (tgc_182 : Tg _ = 11) (by decide) rfl (le := [some (vR 182), some (vI 7)]) rfl (v := some (vI k1)) (M' := M) (t_139  (d := d + 0) hk1 rfl) ?_
  show Rn rom (d + 1) 160 (20, [some (vR 182), some (vL c1), none, some (vI v3), none, none], [vI k1, vI v3], (G0, M)) out
  refine R_ite e (fun b2 e => ?_) (fun b2 e => ?_)
  · refine Rn_icT (tgt := 109) hc rfl rfl (by decide) b2 ?_
    show Rn rom (d + 1) 160 (109, [some (vR 182), some (vL c1), none, some (vI v3), none, none], [], (G0, M)) out
    cases e
    exact R_end (Rn_vret hc rfl rfl rfl rfl) hK
  · refine Rn_icF hc rfl rfl (by decide) b2 ?_
    refine Rn_ms (σ' := (24, [some (vR 182), some (vL c1), none, some (vI v3), none, none], [vR 182], (G0, M))) hc 1 rfl ?_
    refine Rn_getR hc rfl tgc_182 (by decide) rfl prc_182_0 ?_
    refine Rn_ms (σ' := (32, [some (vR 182), some (vL c1), none, some (vI v3), none, none], [vI (26 + v3), vR 183, vI (26 + v3), vR 183], (G0, M))) hc 4 rfl ?_
    refine R_gd e (fun g3 e => ?_)
    refine Rn_lald hc rfl rfl tgc_183 zsc_183 g3 rfl ?_
    refine Rn_ms (σ' := (35, [some (vR 182), some (vL c1), none, some (vI v3), none, none], [vL ((M 183 (wr (26 + v3)).toNat) + 1), vI (26 + v3), vR 183], (G0, M))) hc 2 rfl ?_
    refine R_gd e (fun g4 e => ?_)
    refine R_bnd e (fun M5 hM5 e => ?_)
    refine Rn_last' hM5 hc rfl rfl tgc_183 zsc_183 g4 rfl ?_
    refine Rn_ms (σ' := (39, [some (vR 182), some (vL c1), none, some (vI v3), some (vI 0), none], [], (G0, M5))) hc 2 rfl ?_
    exact Rn_weak (xle_s (xle_s (xle_s (xle_s (xle_s (xle_s xle_0)))))) (t_160_L39  e hK)
def f_160_L13 (c1 : Int) (s : Int × xM) : Option (xM) := loop NF (fun s => f_160_L13b c1 s.1 s.2) s
theorem t_160_L13 {rom : xRom} {d : Nat} {c1 : Int} {s : Int × xM} {r : xM} {out : Option xV × xH} (e : f_160_L13 c1 s = some r) (hK : (eVW out) r) : Rn rom (d + 1) 160 (13, [some (vR 182), some (vL c1), none, some (vI s.1), none, none], [], (G0, s.2)) out := by
  unfold f_160_L13 at e
  revert e hK
  exact R_loop (b := fun s => f_160_L13b c1 s.1 s.2) (G := fun s => Rn rom (d + 1) 160 (13, [some (vR 182), some (vL c1), none, some (vI s.1), none, none], [], (G0, s.2)) out) (K := eVW out) (fun s r e hK => t_160_L13b  e hK) NF s r
/-- PedalLayersModel.fades -/
def f_160 (M : xM) : Option (xM) :=
  f_160_L13 (100 - (M 183 5)) (0, M)
theorem t_160 {rom : xRom} {d : Nat} {M : xM}  {r : xM} {out : Option xV × xH} (e : f_160 M = some r) (hK : eVW out r) : Rn rom (d + 1) 160 (0, [some (vR 182), none, none, none, none, none], [], (G0, M)) out := by
  have hc : xkall.getD 160 [] = xk_160 := rfl
  unfold f_160 at e
  refine Rn_ms (σ' := (4, [some (vR 182), none, none, none, none, none], [vR 182, vL 100], (G0, M))) hc 2 rfl ?_
  refine Rn_getR hc rfl tgc_182 (by decide) rfl prc_182_0 ?_
  refine Rn_ms (σ' := (8, [some (vR 182), none, none, none, none, none], [vI 5, vR 183, vL 100], (G0, M))) hc 1 rfl ?_
  refine Rn_lald hc rfl rfl tgc_183 zsc_183 (by decide) rfl ?_
  refine Rn_ms (σ' := (13, [some (vR 182), some (vL (100 - (M 183 5))), none, some (vI 0), none, none], [], (G0, M))) hc 4 rfl ?_
  exact Rn_weak (xle_s (xle_s (xle_s (xle_s (xle_s (xle_s xle_0)))))) (t_160_L13  e hK)
def f_161_L142 (M : xM) (c3 : Int) (c4 : Int) : Option (Int × xM) :=
  if wr c3 = 3 then
    if wr (xlc (M 183 11) (4 * (M 183 6))) < 0 then
      some (c4, M)
    else
      (f_155 M).bind (fun k18 =>
      some (c4, k18)
      )
  else
    some (c4, M)
theorem t_161_L142 {rom : xRom} {d : Nat} {c3 : Int} {c4 : Int} {M : xM} {r : Int × xM} {out : Option xV × xH} (e : f_161_L142 M c3 c4 = some r) (hK : (eIW out) r) : Rn rom (d + 4) 161 (142, [some (vR 182), none, none, some (vI c3), some (vI c4)], [], (G0, M)) out := by
  have hc : xkall.getD 161 [] = xk_161 := rfl
  unfold f_161_L142 at e
  refine Rn_ms (σ' := (144, [some (vR 182), none, none, some (vI c3), some (vI c4)], [vI 3, vI c3], (G0, M))) hc 2 rfl ?_
  refine R_ite e (fun b16 e => ?_) (fun b16 e => ?_)
  · refine Rn_icF hc rfl rfl (by decide) (fun w => w b16) ?_
    refine Rn_ms (σ' := (148, [some (vR 182), none, none, some (vI c3), some (vI c4)], [vR 182], (G0, M))) hc 1 rfl ?_
    refine Rn_getR hc rfl tgc_182 (by decide) rfl prc_182_0 ?_
    refine Rn_ms (σ' := (153, [some (vR 182), none, none, some (vI c3), some (vI c4)], [vI 11, vR 183], (G0, M))) hc 1 rfl ?_
    refine Rn_lald hc rfl rfl tgc_183 zsc_183 (by decide) rfl ?_
    refine Rn_ms (σ' := (158, [some (vR 182), none, none, some (vI c3), some (vI c4)], [vR 182, vL 4, vL (M 183 11)], (G0, M))) hc 2 rfl ?_
    refine Rn_getR hc rfl tgc_182 (by decide) rfl prc_182_0 ?_
    refine Rn_ms (σ' := (163, [some (vR 182), none, none, some (vI c3), some (vI c4)], [vI 6, vR 183, vL 4, vL (M 183 11)], (G0, M))) hc 1 rfl ?_
    refine Rn_lald hc rfl rfl tgc_183 zsc_183 (by decide) rfl ?_
    refine Rn_ms (σ' := (166, [some (vR 182), none, none, some (vI c3), some (vI c4)], [vI (xlc (M 183 11) (4 * (M 183 6)))], (G0, M))) hc 2 rfl ?_
    refine R_ite e (fun b17 e => ?_) (fun b17 e => ?_)
    · refine Rn_ifT (tgt := 173) hc rfl rfl (by decide) b17 ?_
      refine Rn_ms (σ' := (175, [some (vR 182), none, none, some (vI c3), some (vI c4)], [vI c4], (G0, M))) hc 1 rfl ?_
      cases e
      exact R_end (Rn_iret hc rfl rfl (xretI rfl rfl)) hK
    · refine Rn_ifF hc rfl rfl (by decide) b17 ?_
      refine Rn_ms (σ' := (170, [some (vR 182), none, none, some (vI c3), some (vI c4)], [vR 182], (G0, M))) hc 1 rfl ?_
      refine R_bind e (fun k18 hk18 e => ?_)
      refine Rn_cv hc rfl rfl (by decide) (ii := xi_155) rfl rfl rfl (tgc_182 : Tg _ = 11) (by decide) rfl (le := [some (vR 182), none]) rfl (v := none) (M' := k18) (t_155  (d := d + 0) hk18 rfl) ?_
      refine Rn_ms (σ' := (175, [some (vR 182), none, none, some (vI c3), some (vI c4)], [vI c4], (G0, k18))) hc 1 rfl ?_
      cases e
      exact R_end (Rn_iret hc rfl rfl (xretI rfl rfl)) hK
  · refine Rn_icT (tgt := 173) hc rfl rfl (by decide) (fun w => b16 w) ?_
    refine Rn_ms (σ' := (175, [some (vR 182), none, none, some (vI c3), some (vI c4)], [vI c4], (G0, M))) hc 1 rfl ?_
    cases e
    exact R_end (Rn_iret hc rfl rfl (xretI rfl rfl)) hK
def f_161_L46 (M : xM) (c1 : Int) (c3 : Int) (s1 : Int) (s2 : Int) (s3 : Int) : Option (Int × xM) :=
  gd (0 ≤ wr s1 ∧ wr s1 < 1376) (
  bnd (xset M 183 (wr s1).toNat (s2 + s3)) (fun M6 =>
  if wr c3 = 1 then
    (f_139 M6 11).bind (fun k8 =>
    if wr k8 < 48 then
      some (0, M6)
    else
      (f_154 M6).bind (fun k10 =>
      some (0, k10)
      )
    )
  else
    bnd (xset M6 183 1 ((M6 183 1) + c1)) (fun M11 =>
    bnd (xset M11 183 10 ((M11 183 10) + c1)) (fun M12 =>
    (f_139 M12 1).bind (fun k13 =>
    (f_147 M12).bind (fun k14 =>
    if wr k13 < wr (2 * k14) then
      f_161_L142 M12 c3 0
    else
      (f_147 M12).bind (fun k19 =>
      bnd (xset M12 183 1 ((M12 183 1) - (wr (2 * k19)))) (fun M20 =>
      bnd (xset M20 183 9 ((M20 183 9) + 1)) (fun M21 =>
      (f_160 M21).bind (fun k22 =>
      f_161_L142 k22 c3 1
      ))))
    ))))
  ))
theorem t_161_L46 {rom : xRom} {d : Nat} {c1 : Int} {c3 : Int} {s1 : Int} {s2 : Int} {s3 : Int} {M : xM} {r : Int × xM} {out : Option xV × xH} (e : f_161_L46 M c1 c3 s1 s2 s3 = some r) (hK : (eIW out) r) : Rn rom (d + 4) 161 (46, [some (vR 182), some (vL c1), none, some (vI c3), none], [vL s3, vL s2, vI s1, vR 183], (G0, M)) out := by
  have hc : xkall.getD 161 [] = xk_161 := rfl
  unfold f_161_L46 at e
  refine Rn_ms (σ' := (47, [some (vR 182), some (vL c1), none, some (vI c3), none], [vL (s2 + s3), vI s1, vR 183], (G0, M))) hc 1 rfl ?_
  refine R_gd e (fun g5 e => ?_)
  refine R_bnd e (fun M6 hM6 e => ?_)
  refine Rn_last' hM6 hc rfl rfl tgc_183 zsc_183 g5 rfl ?_
  refine Rn_ms (σ' := (50, [some (vR 182), some (vL c1), none, some (vI c3), none], [vI 1, vI c3], (G0, M6))) hc 2 rfl ?_
  refine R_ite e (fun b7 e => ?_) (fun b7 e => ?_)
  · refine Rn_icF hc rfl rfl (by decide) (fun w => w b7) ?_
    refine Rn_ms (σ' := (56, [some (vR 182), some (vL c1), none, some (vI c3), none], [vI 11, vR 182], (G0, M6))) hc 2 rfl ?_
    refine R_bind e (fun k8 hk8 e => ?_)
    refine Rn_cv hc rfl rfl (by decide) (ii := xi_139) rfl rfl rfl (tgc_182 : Tg _ = 11) (by decide) rfl (le := [some (vR 182), some (vI 11)]) rfl (v := some (vI k8)) (M' := M6) (t_139  (d := d + 3) hk8 rfl) ?_
    refine Rn_ms (σ' := (61, [some (vR 182), some (vL c1), none, some (vI c3), none], [vI 48, vI k8], (G0, M6))) hc 1 rfl ?_
    refine R_ite e (fun b9 e => ?_) (fun b9 e => ?_)
    · refine Rn_icT (tgt := 68) hc rfl rfl (by decide) b9 ?_
      refine Rn_ms (σ' := (69, [some (vR 182), some (vL c1), none, some (vI c3), none], [vI 0], (G0, M6))) hc 1 rfl ?_
      cases e
      exact R_end (Rn_iret hc rfl rfl (xretI rfl rfl)) hK
    · refine Rn_icF hc rfl rfl (by decide) b9 ?_
      refine Rn_ms (σ' := (65, [some (vR 182), some (vL c1), none, some (vI c3), none], [vR 182], (G0, M6))) hc 1 rfl ?_
      refine R_bind e (fun k10 hk10 e => ?_)
      refine Rn_cv hc rfl rfl (by decide) (ii := xi_154) rfl rfl rfl (tgc_182 : Tg _ = 11) (by decide) rfl (le := [some (vR 182), none, none]) rfl (v := none) (M' := k10) (t_154  (d := d + 1) hk10 rfl) ?_
      refine Rn_ms (σ' := (69, [some (vR 182), some (vL c1), none, some (vI c3), none], [vI 0], (G0, k10))) hc 1 rfl ?_
      cases e
      exact R_end (Rn_iret hc rfl rfl (xretI rfl rfl)) hK
  · refine Rn_icT (tgt := 70) hc rfl rfl (by decide) (fun w => b7 w) ?_
    refine Rn_ms (σ' := (71, [some (vR 182), some (vL c1), none, some (vI c3), none], [vR 182], (G0, M6))) hc 1 rfl ?_
    refine Rn_getR hc rfl tgc_182 (by decide) rfl prc_182_0 ?_
    refine Rn_ms (σ' := (76, [some (vR 182), some (vL c1), none, some (vI c3), none], [vI 1, vR 183, vI 1, vR 183], (G0, M6))) hc 2 rfl ?_
    refine Rn_lald hc rfl rfl tgc_183 zsc_183 (by decide) rfl ?_
    refine Rn_ms (σ' := (79, [some (vR 182), some (vL c1), none, some (vI c3), none], [vL ((M6 183 1) + c1), vI 1, vR 183], (G0, M6))) hc 2 rfl ?_
    refine R_bnd e (fun M11 hM11 e => ?_)
    refine Rn_last' hM11 hc rfl rfl tgc_183 zsc_183 (by decide) rfl ?_
    refine Rn_ms (σ' := (81, [some (vR 182), some (vL c1), none, some (vI c3), none], [vR 182], (G0, M11))) hc 1 rfl ?_
    refine Rn_getR hc rfl tgc_182 (by decide) rfl prc_182_0 ?_
    refine Rn_ms (σ' := (87, [some (vR 182), some (vL c1), none, some (vI c3), none], [vI 10, vR 183, vI 10, vR 183], (G0, M11))) hc 2 rfl ?_
    refine Rn_lald hc rfl rfl tgc_183 zsc_183 (by decide) rfl ?_
    refine Rn_ms (σ' := (90, [some (vR 182), some (vL c1), none, some (vI c3), none], [vL ((M11 183 10) + c1), vI 10, vR 183], (G0, M11))) hc 2 rfl ?_
    refine R_bnd e (fun M12 hM12 e => ?_)
    refine Rn_last' hM12 hc rfl rfl tgc_183 zsc_183 (by decide) rfl ?_
    refine Rn_ms (σ' := (96, [some (vR 182), some (vL c1), none, some (vI c3), some (vI 0)], [vI 1, vR 182], (G0, M12))) hc 4 rfl ?_
    refine R_bind e (fun k13 hk13 e => ?_)
    refine Rn_cv hc rfl rfl (by decide) (ii := xi_139) rfl rfl rfl (tgc_182 : Tg _ = 11) (by decide) rfl (le := [some (vR 182), some (vI 1)]) rfl (v := some (vI k13)) (M' := M12) (t_139  (d := d + 3) hk13 rfl) ?_
    refine Rn_ms (σ' := (101, [some (vR 182), some (vL c1), none, some (vI c3), some (vI 0)], [vR 182, vI 2, vI k13], (G0, M12))) hc 2 rfl ?_
    refine R_bind e (fun k14 hk14 e => ?_)
    refine Rn_cv hc rfl rfl (by decide) (ii := xi_147) rfl rfl rfl (tgc_182 : Tg _ = 11) (by decide) rfl (le := [some (vR 182)]) rfl (v := some (vI k14)) (M' := M12) (t_147  (d := d + 1) hk14 rfl) ?_
    refine Rn_ms (σ' := (105, [some (vR 182), some (vL c1), none, some (vI c3), some (vI 0)], [vI (2 * k14), vI k13], (G0, M12))) hc 1 rfl ?_
    refine R_ite e (fun b15 e => ?_) (fun b15 e => ?_)
    · refine Rn_icT (tgt := 142) hc rfl rfl (by decide) b15 ?_
      show Rn rom (d + 4) 161 (142, [some (vR 182), some (vL c1), none, some (vI c3), some (vI 0)], [], (G0, M12)) out
      exact Rn_weak (xle_s (xle_n (xle_s (xle_s (xle_s xle_0))))) (t_161_L142  e hK)
    · refine Rn_icF hc rfl rfl (by decide) b15 ?_
      refine Rn_ms (σ' := (109, [some (vR 182), some (vL c1), none, some (vI c3), some (vI 0)], [vR 182], (G0, M12))) hc 1 rfl ?_
      refine Rn_getR hc rfl tgc_182 (by decide) rfl prc_182_0 ?_
      refine Rn_ms (σ' := (114, [some (vR 182), some (vL c1), none, some (vI c3), some (vI 0)], [vI 1, vR 183, vI 1, vR 183], (G0, M12))) hc 2 rfl ?_
      refine Rn_lald hc rfl rfl tgc_183 zsc_183 (by decide) rfl ?_
      refine Rn_ms (σ' := (117, [some (vR 182), some (vL c1), none, some (vI c3), some (vI 0)], [vR 182, vI 2, vL (M12 183 1), vI 1, vR 183], (G0, M12))) hc 2 rfl ?_
      refine R_bind e (fun k19 hk19 e => ?_)
      refine Rn_cv hc rfl rfl (by decide) (ii := xi_147) rfl rfl rfl (tgc_182 : Tg _ = 11) (by decide) rfl (le := [some (vR 182)]) rfl (v := some (vI k19)) (M' := M12) (t_147  (d := d + 1) hk19 rfl) ?_
      refine Rn_ms (σ' := (123, [some (vR 182), some (vL c1), none, some (vI c3), some (vI 0)], [vL ((M12 183 1) - (wr (2 * k19))), vI 1, vR 183], (G0, M12))) hc 3 rfl ?_
      refine R_bnd e (fun M20 hM20 e => ?_)
      refine Rn_last' hM20 hc rfl rfl tgc_183 zsc_183 (by decide) rfl ?_
      refine Rn_ms (σ' := (125, [some (vR 182), some (vL c1), none, some (vI c3), some (vI 0)], [vR 182], (G0, M20))) hc 1 rfl ?_
      refine Rn_getR hc rfl tgc_182 (by decide) rfl prc_182_0 ?_
      refine Rn_ms (σ' := (131, [some (vR 182), some (vL c1), none, some (vI c3), some (vI 0)], [vI 9, vR 183, vI 9, vR 183], (G0, M20))) hc 2 rfl ?_
      refine Rn_lald hc rfl rfl tgc_183 zsc_183 (by decide) rfl ?_
      refine Rn_ms (σ' := (134, [some (vR 182), some (vL c1), none, some (vI c3), some (vI 0)], [vL ((M20 183 9) + 1), vI 9, vR 183], (G0, M20))) hc 2 rfl ?_
      refine R_bnd e (fun M21 hM21 e => ?_)
      refine Rn_last' hM21 hc rfl rfl tgc_183 zsc_183 (by decide) rfl ?_
      refine Rn_ms (σ' := (136, [some (vR 182), some (vL c1), none, some (vI c3), some (vI 0)], [vR 182], (G0, M21))) hc 1 rfl ?_
      refine R_bind e (fun k22 hk22 e => ?_)
      refine Rn_cv hc rfl rfl (by decide) (ii := xi_160) rfl rfl rfl (tgc_182 : Tg _ = 11) (by decide) rfl (le := [some (vR 182), none, none, none, none, none]) rfl (v := none) (M' := k22) (t_160  (d := d + 2) hk22 rfl) ?_
      refine Rn_ms (σ' := (142, [some (vR 182), some (vL c1), none, some (vI c3), some (vI 1)], [], (G0, k22))) hc 2 rfl ?_
      exact Rn_weak (xle_s (xle_n (xle_s (xle_s (xle_s xle_0))))) (t_161_L142  e hK)
/-- PedalLayersModel.ticks -/
def f_161 (M : xM) : Option (Int × xM) :=
  (f_139 M 0).bind (fun k1 =>
  if wr k1 = 0 then
    some (0, M)
  else
    if wr k1 = 4 then
      some (0, M)
    else
      if wr k1 = 2 then
        f_161_L46 M (2 - (M 183 2)) k1 11 (M 183 11) 0
      else
        f_161_L46 M (2 - (M 183 2)) k1 11 (M 183 11) (2 - (M 183 2))
  )
theorem t_161 {rom : xRom} {d : Nat} {M : xM}  {r : Int × xM} {out : Option xV × xH} (e : f_161 M = some r) (hK : eIW out r) : Rn rom (d + 4) 161 (0, [some (vR 182), none, none, none, none], [], (G0, M)) out := by
  have hc : xkall.getD 161 [] = xk_161 := rfl
  unfold f_161 at e
  refine Rn_ms (σ' := (4, [some (vR 182), none, none, none, none], [vR 182, vL 2], (G0, M))) hc 2 rfl ?_
  refine Rn_getR hc rfl tgc_182 (by decide) rfl prc_182_0 ?_
  refine Rn_ms (σ' := (8, [some (vR 182), none, none, none, none], [vI 2, vR 183, vL 2], (G0, M))) hc 1 rfl ?_
  refine Rn_lald hc rfl rfl tgc_183 zsc_183 (by decide) rfl ?_
  refine Rn_ms (σ' := (13, [some (vR 182), some (vL (2 - (M 183 2))), none, none, none], [vI 0, vR 182], (G0, M))) hc 4 rfl ?_
  refine R_bind e (fun k1 hk1 e => ?_)
  refine Rn_cv hc rfl rfl (by decide) (ii := xi_139) rfl rfl rfl (tgc_182 : Tg _ = 11) (by decide) rfl (le := [some (vR 182), some (vI 0)]) rfl (v := some (vI k1)) (M' := M) (t_139  (d := d + 3) hk1 rfl) ?_
  refine Rn_ms (σ' := (18, [some (vR 182), some (vL (2 - (M 183 2))), none, some (vI k1), none], [vI k1], (G0, M))) hc 2 rfl ?_
  refine R_ite e (fun b2 e => ?_) (fun b2 e => ?_)
  · refine Rn_ifT (tgt := 26) hc rfl rfl (by decide) b2 ?_
    refine Rn_ms (σ' := (27, [some (vR 182), some (vL (2 - (M 183 2))), none, some (vI k1), none], [vI 0], (G0, M))) hc 1 rfl ?_
    cases e
    exact R_end (Rn_iret hc rfl rfl (xretI rfl rfl)) hK
  · refine Rn_ifF hc rfl rfl (by decide) b2 ?_
    refine Rn_ms (σ' := (23, [some (vR 182), some (vL (2 - (M 183 2))), none, some (vI k1), none], [vI 4, vI k1], (G0, M))) hc 2 rfl ?_
    refine R_ite e (fun b3 e => ?_) (fun b3 e => ?_)
    · refine Rn_icF hc rfl rfl (by decide) (fun w => w b3) ?_
      refine Rn_ms (σ' := (27, [some (vR 182), some (vL (2 - (M 183 2))), none, some (vI k1), none], [vI 0], (G0, M))) hc 1 rfl ?_
      cases e
      exact R_end (Rn_iret hc rfl rfl (xretI rfl rfl)) hK
    · refine Rn_icT (tgt := 28) hc rfl rfl (by decide) (fun w => b3 w) ?_
      refine Rn_ms (σ' := (29, [some (vR 182), some (vL (2 - (M 183 2))), none, some (vI k1), none], [vR 182], (G0, M))) hc 1 rfl ?_
      refine Rn_getR hc rfl tgc_182 (by decide) rfl prc_182_0 ?_
      refine Rn_ms (σ' := (35, [some (vR 182), some (vL (2 - (M 183 2))), none, some (vI k1), none], [vI 11, vR 183, vI 11, vR 183], (G0, M))) hc 2 rfl ?_
      refine Rn_lald hc rfl rfl tgc_183 zsc_183 (by decide) rfl ?_
      refine Rn_ms (σ' := (38, [some (vR 182), some (vL (2 - (M 183 2))), none, some (vI k1), none], [vI 2, vI k1, vL (M 183 11), vI 11, vR 183], (G0, M))) hc 2 rfl ?_
      refine R_ite e (fun b4 e => ?_) (fun b4 e => ?_)
      · refine Rn_icF hc rfl rfl (by decide) (fun w => w b4) ?_
        refine Rn_ms (σ' := (46, [some (vR 182), some (vL (2 - (M 183 2))), none, some (vI k1), none], [vL 0, vL (M 183 11), vI 11, vR 183], (G0, M))) hc 2 rfl ?_
        exact Rn_weak (xle_s (xle_s (xle_s (xle_s (xle_s xle_0))))) (t_161_L46  e hK)
      · refine Rn_icT (tgt := 45) hc rfl rfl (by decide) (fun w => b4 w) ?_
        refine Rn_ms (σ' := (46, [some (vR 182), some (vL (2 - (M 183 2))), none, some (vI k1), none], [vL (2 - (M 183 2)), vL (M 183 11), vI 11, vR 183], (G0, M))) hc 1 rfl ?_
        exact Rn_weak (xle_s (xle_s (xle_s (xle_s (xle_s xle_0))))) (t_161_L46  e hK)
def f_162_L4b (c1 : Int) (v2 : Int) (v3 : Int) (M : xM) : Option ((Int × Int × xM) ⊕ (Int × xM)) :=
  if wr c1 ≤ wr v3 then
    some (.inr ((v2, M)))
  else
    (f_161 M).bind (fun k2 =>
    some (.inl ((v2 + k2.1), (v3 + 1), k2.2))
    )
theorem t_162_L4b {rom : xRom} {d : Nat} {c1 : Int} {v2 : Int} {v3 : Int} {M : xM} {r : (Int × Int × xM) ⊕ (Int × xM)} {out : Option xV × xH} (e : f_162_L4b c1 v2 v3 M = some r) (hK : ((Sum.elim (fun s => Rn rom (d + 5) 162 (4, [some (vR 182), some (vI c1), some (vI s.1), some (vI s.2.1)], [], (G0, s.2.2)) out) (eIW out))) r) : Rn rom (d + 5) 162 (4, [some (vR 182), some (vI c1), some (vI v2), some (vI v3)], [], (G0, M)) out := by
  have hc : xkall.getD 162 [] = xk_162 := rfl
  unfold f_162_L4b at e
  refine Rn_ms (σ' := (6, [some (vR 182), some (vI c1), some (vI v2), some (vI v3)], [vI c1, vI v3], (G0, M))) hc 2 rfl ?_
  refine R_ite e (fun b1 e => ?_) (fun b1 e => ?_)
  · refine Rn_icT (tgt := 22) hc rfl rfl (by decide) b1 ?_
    refine Rn_ms (σ' := (23, [some (vR 182), some (vI c1), some (vI v2), some (vI v3)], [vI v2], (G0, M))) hc 1 rfl ?_
    cases e
    exact R_end (Rn_iret hc rfl rfl (xretI rfl rfl)) hK
  · refine Rn_icF hc rfl rfl (by decide) b1 ?_
    refine Rn_ms (σ' := (11, [some (vR 182), some (vI c1), some (vI v2), some (vI v3)], [vR 182, vI v2], (G0, M))) hc 2 rfl ?_
    refine R_bind e (fun k2 hk2 e => ?_)
    refine Rn_cv hc rfl rfl (by decide) (ii := xi_161) rfl rfl rfl (tgc_182 : Tg _ = 11) (by decide) rfl (le := [some (vR 182), none, none, none, none]) rfl (v := some (vI k2.1)) (M' := k2.2) (t_161  (d := d + 0) hk2 rfl) ?_
    refine Rn_ms (σ' := (4, [some (vR 182), some (vI c1), some (vI (v2 + k2.1)), some (vI (v3 + 1))], [], (G0, k2.2))) hc 4 rfl ?_
    cases e
    exact Rn_weak (xle_s (xle_s (xle_s (xle_s xle_0)))) hK
def f_162_L4 (c1 : Int) (s : Int × Int × xM) : Option (Int × xM) := loop NF (fun s => f_162_L4b c1 s.1 s.2.1 s.2.2) s
theorem t_162_L4 {rom : xRom} {d : Nat} {c1 : Int} {s : Int × Int × xM} {r : Int × xM} {out : Option xV × xH} (e : f_162_L4 c1 s = some r) (hK : (eIW out) r) : Rn rom (d + 5) 162 (4, [some (vR 182), some (vI c1), some (vI s.1), some (vI s.2.1)], [], (G0, s.2.2)) out := by
  unfold f_162_L4 at e
  revert e hK
  exact R_loop (b := fun s => f_162_L4b c1 s.1 s.2.1 s.2.2) (G := fun s => Rn rom (d + 5) 162 (4, [some (vR 182), some (vI c1), some (vI s.1), some (vI s.2.1)], [], (G0, s.2.2)) out) (K := eIW out) (fun s r e hK => t_162_L4b  e hK) NF s r
/-- PedalLayersModel.passes -/
def f_162 (M : xM) (a1 : Int) : Option (Int × xM) :=
  f_162_L4 a1 (0, 0, M)
theorem t_162 {rom : xRom} {d : Nat} {M : xM} {a1 : Int} {r : Int × xM} {out : Option xV × xH} (e : f_162 M a1 = some r) (hK : eIW out r) : Rn rom (d + 5) 162 (0, [some (vR 182), some (vI a1), none, none], [], (G0, M)) out := by
  have hc : xkall.getD 162 [] = xk_162 := rfl
  unfold f_162 at e
  refine Rn_ms (σ' := (4, [some (vR 182), some (vI a1), some (vI 0), some (vI 0)], [], (G0, M))) hc 4 rfl ?_
  exact Rn_weak (xle_s (xle_s (xle_s (xle_s xle_0)))) (t_162_L4  e hK)
def f_163_L25 (M : xM) (s0 : Int) : Option (Int) :=
  if wr s0 = 0 then
    some (-1)
  else
    (f_148 M).bind (fun k3 =>
    if wr k3 = 0 then
      some (-2)
    else
      some (0)
    )
theorem t_163_L25 {rom : xRom} {d : Nat} {s0 : Int} {M : xM} {r : Int} {out : Option xV × xH} (e : f_163_L25 M s0 = some r) (hK : (eI M out) r) : Rn rom (d + 2) 163 (25, [some (vR 182), none, none, none], [vI s0], (G0, M)) out := by
  have hc : xkall.getD 163 [] = xk_163 := rfl
  unfold f_163_L25 at e
  refine Rn_ms (σ' := (27, [some (vR 182), none, none, some (vI s0)], [vI s0], (G0, M))) hc 2 rfl ?_
  refine R_ite e (fun b2 e => ?_) (fun b2 e => ?_)
  · refine Rn_ifF hc rfl rfl (by decide) (fun w => w b2) ?_
    refine Rn_ms (σ' := (47, [some (vR 182), none, none, some (vI s0)], [vI (-1)], (G0, M))) hc 2 rfl ?_
    cases e
    exact R_end (Rn_iret hc rfl rfl (xretI rfl rfl)) hK
  · refine Rn_ifT (tgt := 34) hc rfl rfl (by decide) (fun w => b2 w) ?_
    refine Rn_ms (σ' := (35, [some (vR 182), none, none, some (vI s0)], [vR 182], (G0, M))) hc 1 rfl ?_
    refine R_bind e (fun k3 hk3 e => ?_)
    refine Rn_cv hc rfl rfl (by decide) (ii := xi_148) rfl rfl rfl (tgc_182 : Tg _ = 11) (by decide) rfl (le := [some (vR 182)]) rfl (v := some (vI k3)) (M' := M) (t_148  (d := d + 0) hk3 rfl) ?_
    show Rn rom (d + 2) 163 (38, [some (vR 182), none, none, some (vI s0)], [vI k3], (G0, M)) out
    refine R_ite e (fun b4 e => ?_) (fun b4 e => ?_)
    · refine Rn_ifT (tgt := 45) hc rfl rfl (by decide) b4 ?_
      refine Rn_ms (σ' := (47, [some (vR 182), none, none, some (vI s0)], [vI (-2)], (G0, M))) hc 1 rfl ?_
      cases e
      exact R_end (Rn_iret hc rfl rfl (xretI rfl rfl)) hK
    · refine Rn_ifF hc rfl rfl (by decide) b4 ?_
      refine Rn_ms (σ' := (47, [some (vR 182), none, none, some (vI s0)], [vI 0], (G0, M))) hc 2 rfl ?_
      cases e
      exact R_end (Rn_iret hc rfl rfl (xretI rfl rfl)) hK
def f_163_L24 (M : xM) : Option (Int) :=
  f_163_L25 M 0
theorem t_163_L24 {rom : xRom} {d : Nat} {M : xM} {r : Int} {out : Option xV × xH} (e : f_163_L24 M = some r) (hK : (eI M out) r) : Rn rom (d + 2) 163 (24, [some (vR 182), none, none, none], [], (G0, M)) out := by
  have hc : xkall.getD 163 [] = xk_163 := rfl
  unfold f_163_L24 at e
  refine Rn_ms (σ' := (25, [some (vR 182), none, none, none], [vI 0], (G0, M))) hc 1 rfl ?_
  exact Rn_weak (xle_s (xle_s (xle_s (xle_s xle_0)))) (t_163_L25  e hK)
/-- PedalLayersModel.whyNotHit -/
def f_163 (M : xM) (a1 : Int) (a2 : Int) : Option (Int) :=
  if wr (f_138 a1 0 23) = 0 then
    f_163_L24 M
  else
    if wr (f_138 a2 1 99) = 0 then
      f_163_L24 M
    else
      f_163_L25 M 1
theorem t_163 {rom : xRom} {d : Nat} {M : xM} {a1 : Int} {a2 : Int} {r : Int} {out : Option xV × xH} (e : f_163 M a1 a2 = some r) (hK : eI M out r) : Rn rom (d + 2) 163 (0, [some (vR 182), some (vI a1), some (vI a2), none], [], (G0, M)) out := by
  have hc : xkall.getD 163 [] = xk_163 := rfl
  unfold f_163 at e
  refine Rn_ms (σ' := (4, [some (vR 182), some (vI a1), some (vI a2), none], [vI 23, vI 0, vI a1], (G0, M))) hc 3 rfl ?_
  refine Rn_cs hc rfl rfl (by decide) (ii := xi_138) rfl rfl rfl (le := [some (vI a1), some (vI 0), some (vI 23)]) rfl (v := some (vI (f_138 a1 0 23))) (M' := M) (t_138  (d := d + 1) rfl rfl) ?_
  show Rn rom (d + 2) 163 (7, [some (vR 182), some (vI a1), some (vI a2), none], [vI (f_138 a1 0 23)], (G0, M)) out
  refine R_ite e (fun b1 e => ?_) (fun b1 e => ?_)
  · refine Rn_ifT (tgt := 24) hc rfl rfl (by decide) b1 ?_
    show Rn rom (d + 2) 163 (24, [some (vR 182), some (vI a1), some (vI a2), none], [], (G0, M)) out
    exact Rn_weak (xle_s (xle_n (xle_n (xle_s xle_0)))) (t_163_L24  e hK)
  · refine Rn_ifF hc rfl rfl (by decide) b1 ?_
    refine Rn_ms (σ' := (14, [some (vR 182), some (vI a1), some (vI a2), none], [vI 99, vI 1, vI a2], (G0, M))) hc 3 rfl ?_
    refine Rn_cs hc rfl rfl (by decide) (ii := xi_138) rfl rfl rfl (le := [some (vI a2), some (vI 1), some (vI 99)]) rfl (v := some (vI (f_138 a2 1 99))) (M' := M) (t_138  (d := d + 1) rfl rfl) ?_
    show Rn rom (d + 2) 163 (17, [some (vR 182), some (vI a1), some (vI a2), none], [vI (f_138 a2 1 99)], (G0, M)) out
    refine R_ite e (fun b5 e => ?_) (fun b5 e => ?_)
    · refine Rn_ifT (tgt := 24) hc rfl rfl (by decide) b5 ?_
      show Rn rom (d + 2) 163 (24, [some (vR 182), some (vI a1), some (vI a2), none], [], (G0, M)) out
      exact Rn_weak (xle_s (xle_n (xle_n (xle_s xle_0)))) (t_163_L24  e hK)
    · refine Rn_ifF hc rfl rfl (by decide) b5 ?_
      refine Rn_ms (σ' := (25, [some (vR 182), some (vI a1), some (vI a2), none], [vI 1], (G0, M))) hc 2 rfl ?_
      exact Rn_weak (xle_s (xle_n (xle_n (xle_s xle_0)))) (t_163_L25  e hK)
def f_164_L44 (M : xM) (c1 : Int) (c2 : Int) (s0 : Int) : Option (Int × xM) :=
  (f_139 M 2).bind (fun k4 =>
  (f_141 M 6 s0 (c1 + (12 * k4))).bind (fun k5 =>
  (f_142 M 6 s0 (c1 + (12 * k4)) (f_144 k5 c2)).bind (fun k6 =>
  some ((f_144 k5 c2), k6)
  )))
theorem t_164_L44 {rom : xRom} {d : Nat} {c1 : Int} {c2 : Int} {s0 : Int} {M : xM} {r : Int × xM} {out : Option xV × xH} (e : f_164_L44 M c1 c2 s0 = some r) (hK : (eIW out) r) : Rn rom (d + 1) 164 (44, [some (vR 182), some (vI c1), some (vI c2), none, none, none], [vI s0], (G0, M)) out := by
  have hc : xkall.getD 164 [] = xk_164 := rfl
  unfold f_164_L44 at e
  refine Rn_ms (σ' := (50, [some (vR 182), some (vI c1), some (vI c2), some (vI s0), none, none], [vI 2, vR 182, vI 12, vI c1], (G0, M))) hc 5 rfl ?_
  refine R_bind e (fun k4 hk4 e => ?_)
  refine Rn_cv hc rfl rfl (by decide) (ii := xi_139) rfl rfl rfl (tgc_182 : Tg _ = 11) (by decide) rfl (le := [some (vR 182), some (vI 2)]) rfl (v := some (vI k4)) (M' := M) (t_139  (d := d + 0) hk4 rfl) ?_
  refine Rn_ms (σ' := (63, [some (vR 182), some (vI c1), some (vI c2), some (vI s0), some (vI (c1 + (12 * k4))), none], [vI (c1 + (12 * k4)), vI s0, vI 6, vR 182], (G0, M))) hc 7 rfl ?_
  refine R_bind e (fun k5 hk5 e => ?_)
  refine Rn_cv hc rfl rfl (by decide) (ii := xi_141) rfl rfl rfl (tgc_182 : Tg _ = 11) (by decide) rfl (le := [some (vR 182), some (vI 6), some (vI s0), some (vI (c1 + (12 * k4)))]) rfl (v := some (vI k5)) (M' := M) (t_141  (d := d + 0) hk5 rfl) ?_
  refine Rn_ms (σ' := (67, [some (vR 182), some (vI c1), some (vI c2), some (vI s0), some (vI (c1 + (12 * k4))), none], [vI c2, vI k5], (G0, M))) hc 1 rfl ?_
  refine Rn_cs hc rfl rfl (by decide) (ii := xi_144) rfl rfl rfl (le := [some (vI k5), some (vI c2)]) rfl (v := some (vI (f_144 k5 c2))) (M' := M) (t_144  (d := d + 0) rfl rfl) ?_
  refine Rn_ms (σ' := (80, [some (vR 182), some (vI c1), some (vI c2), some (vI s0), some (vI (c1 + (12 * k4))), some (vI (f_144 k5 c2))], [vI (f_144 k5 c2), vI (c1 + (12 * k4)), vI s0, vI 6, vR 182], (G0, M))) hc 6 rfl ?_
  refine R_bind e (fun k6 hk6 e => ?_)
  refine Rn_cv hc rfl rfl (by decide) (ii := xi_142) rfl rfl rfl (tgc_182 : Tg _ = 11) (by decide) rfl (le := [some (vR 182), some (vI 6), some (vI s0), some (vI (c1 + (12 * k4))), some (vI (f_144 k5 c2)), none, none]) rfl (v := none) (M' := k6) (t_142  (d := d + 0) hk6 rfl) ?_
  refine Rn_ms (σ' := (85, [some (vR 182), some (vI c1), some (vI c2), some (vI s0), some (vI (c1 + (12 * k4))), some (vI (f_144 k5 c2))], [vI (f_144 k5 c2)], (G0, k6))) hc 1 rfl ?_
  cases e
  exact R_end (Rn_iret hc rfl rfl (xretI rfl rfl)) hK
/-- PedalLayersModel.hits -/
def f_164 (M : xM) (a1 : Int) (a2 : Int) : Option (Int × xM) :=
  (f_139 M 0).bind (fun k1 =>
  if wr k1 = 1 then
    (f_139 M 11).bind (fun k3 =>
    f_164_L44 M a1 a2 ((wr k3).tdiv 2)
    )
  else
    (f_139 M 12).bind (fun k7 =>
    (f_139 M 11).bind (fun k8 =>
    (f_139 M 6).bind (fun k9 =>
    gd ((wr (2 * k9)) ≠ 0) (
    f_164_L44 M a1 a2 ((wr ((wr (k7 + k8)).tdiv 2)).tmod (wr (2 * k9)))
    ))))
  )
theorem t_164 {rom : xRom} {d : Nat} {M : xM} {a1 : Int} {a2 : Int} {r : Int × xM} {out : Option xV × xH} (e : f_164 M a1 a2 = some r) (hK : eIW out r) : Rn rom (d + 1) 164 (0, [some (vR 182), some (vI a1), some (vI a2), none, none, none], [], (G0, M)) out := by
  have hc : xkall.getD 164 [] = xk_164 := rfl
  unfold f_164 at e
  refine Rn_ms (σ' := (2, [some (vR 182), some (vI a1), some (vI a2), none, none, none], [vI 0, vR 182], (G0, M))) hc 2 rfl ?_
  refine R_bind e (fun k1 hk1 e => ?_)
  refine Rn_cv hc rfl rfl (by decide) (ii := xi_139) rfl rfl rfl (tgc_182 : Tg _ = 11) (by decide) rfl (le := [some (vR 182), some (vI 0)]) rfl (v := some (vI k1)) (M' := M) (t_139  (d := d + 0) hk1 rfl) ?_
  refine Rn_ms (σ' := (6, [some (vR 182), some (vI a1), some (vI a2), none, none, none], [vI 1, vI k1], (G0, M))) hc 1 rfl ?_
  refine R_ite e (fun b2 e => ?_) (fun b2 e => ?_)
  · refine Rn_icF hc rfl rfl (by decide) (fun w => w b2) ?_
    refine Rn_ms (σ' := (12, [some (vR 182), some (vI a1), some (vI a2), none, none, none], [vI 11, vR 182], (G0, M))) hc 2 rfl ?_
    refine R_bind e (fun k3 hk3 e => ?_)
    refine Rn_cv hc rfl rfl (by decide) (ii := xi_139) rfl rfl rfl (tgc_182 : Tg _ = 11) (by decide) rfl (le := [some (vR 182), some (vI 11)]) rfl (v := some (vI k3)) (M' := M) (t_139  (d := d + 0) hk3 rfl) ?_
    refine Rn_ms (σ' := (16, [some (vR 182), some (vI a1), some (vI a2), none, none, none], [vI 2, vI k3], (G0, M))) hc 1 rfl ?_
    refine Rn_div hc rfl ⟨rfl, rfl⟩ (z' := 2) (by decide) (by decide) ?_
    refine Rn_ms (σ' := (44, [some (vR 182), some (vI a1), some (vI a2), none, none, none], [vI ((wr k3).tdiv 2)], (G0, M))) hc 1 rfl ?_
    exact Rn_weak (xle_s (xle_s (xle_s (xle_s (xle_s (xle_s xle_0)))))) (t_164_L44  e hK)
  · refine Rn_icT (tgt := 20) hc rfl rfl (by decide) (fun w => b2 w) ?_
    refine Rn_ms (σ' := (23, [some (vR 182), some (vI a1), some (vI a2), none, none, none], [vI 12, vR 182], (G0, M))) hc 2 rfl ?_
    refine R_bind e (fun k7 hk7 e => ?_)
    refine Rn_cv hc rfl rfl (by decide) (ii := xi_139) rfl rfl rfl (tgc_182 : Tg _ = 11) (by decide) rfl (le := [some (vR 182), some (vI 12)]) rfl (v := some (vI k7)) (M' := M) (t_139  (d := d + 0) hk7 rfl) ?_
    refine Rn_ms (σ' := (29, [some (vR 182), some (vI a1), some (vI a2), none, none, none], [vI 11, vR 182, vI k7], (G0, M))) hc 2 rfl ?_
    refine R_bind e (fun k8 hk8 e => ?_)
    refine Rn_cv hc rfl rfl (by decide) (ii := xi_139) rfl rfl rfl (tgc_182 : Tg _ = 11) (by decide) rfl (le := [some (vR 182), some (vI 11)]) rfl (v := some (vI k8)) (M' := M) (t_139  (d := d + 0) hk8 rfl) ?_
    refine Rn_ms (σ' := (34, [some (vR 182), some (vI a1), some (vI a2), none, none, none], [vI 2, vI (k7 + k8)], (G0, M))) hc 2 rfl ?_
    refine Rn_div hc rfl ⟨rfl, rfl⟩ (z' := 2) (by decide) (by decide) ?_
    refine Rn_ms (σ' := (39, [some (vR 182), some (vI a1), some (vI a2), none, none, none], [vI 6, vR 182, vI 2, vI ((wr (k7 + k8)).tdiv 2)], (G0, M))) hc 3 rfl ?_
    refine R_bind e (fun k9 hk9 e => ?_)
    refine Rn_cv hc rfl rfl (by decide) (ii := xi_139) rfl rfl rfl (tgc_182 : Tg _ = 11) (by decide) rfl (le := [some (vR 182), some (vI 6)]) rfl (v := some (vI k9)) (M' := M) (t_139  (d := d + 0) hk9 rfl) ?_
    refine Rn_ms (σ' := (43, [some (vR 182), some (vI a1), some (vI a2), none, none, none], [vI (2 * k9), vI ((wr (k7 + k8)).tdiv 2)], (G0, M))) hc 1 rfl ?_
    refine R_gd e (fun g10 e => ?_)
    refine Rn_rem hc rfl ⟨rfl, rfl⟩ (z' := (wr (2 * k9))) rfl g10 ?_
    show Rn rom (d + 1) 164 (44, [some (vR 182), some (vI a1), some (vI a2), none, none, none], [vI ((wr ((wr (k7 + k8)).tdiv 2)).tmod (wr (2 * k9)))], (G0, M)) out
    exact Rn_weak (xle_s (xle_s (xle_s (xle_s (xle_s (xle_s xle_0)))))) (t_164_L44  e hK)
/-- PedalLayersModel.whyNotPeel -/
def f_165 (M : xM) : Option (Int) :=
  (f_148 M).bind (fun k1 =>
  if wr k1 = 0 then
    (f_139 M 7).bind (fun k3 =>
    if 2 ≤ wr k3 then
      some (0)
    else
      some (-2)
    )
  else
    some (-2)
  )
theorem t_165 {rom : xRom} {d : Nat} {M : xM}  {r : Int} {out : Option xV × xH} (e : f_165 M = some r) (hK : eI M out r) : Rn rom (d + 2) 165 (0, [some (vR 182)], [], (G0, M)) out := by
  have hc : xkall.getD 165 [] = xk_165 := rfl
  unfold f_165 at e
  refine Rn_ms (σ' := (1, [some (vR 182)], [vR 182], (G0, M))) hc 1 rfl ?_
  refine R_bind e (fun k1 hk1 e => ?_)
  refine Rn_cv hc rfl rfl (by decide) (ii := xi_148) rfl rfl rfl (tgc_182 : Tg _ = 11) (by decide) rfl (le := [some (vR 182)]) rfl (v := some (vI k1)) (M' := M) (t_148  (d := d + 0) hk1 rfl) ?_
  show Rn rom (d + 2) 165 (4, [some (vR 182)], [vI k1], (G0, M)) out
  refine R_ite e (fun b2 e => ?_) (fun b2 e => ?_)
  · refine Rn_ifF hc rfl rfl (by decide) (fun w => w b2) ?_
    refine Rn_ms (σ' := (10, [some (vR 182)], [vI 7, vR 182], (G0, M))) hc 2 rfl ?_
    refine R_bind e (fun k3 hk3 e => ?_)
    refine Rn_cv hc rfl rfl (by decide) (ii := xi_139) rfl rfl rfl (tgc_182 : Tg _ = 11) (by decide) rfl (le := [some (vR 182), some (vI 7)]) rfl (v := some (vI k3)) (M' := M) (t_139  (d := d + 1) hk3 rfl) ?_
    refine Rn_ms (σ' := (14, [some (vR 182)], [vI 2, vI k3], (G0, M))) hc 1 rfl ?_
    refine R_ite e (fun b4 e => ?_) (fun b4 e => ?_)
    · refine Rn_icT (tgt := 22) hc rfl rfl (by decide) b4 ?_
      refine Rn_ms (σ' := (23, [some (vR 182)], [vI 0], (G0, M))) hc 1 rfl ?_
      cases e
      exact R_end (Rn_iret hc rfl rfl (xretI rfl rfl)) hK
    · refine Rn_icF hc rfl rfl (by decide) b4 ?_
      refine Rn_ms (σ' := (23, [some (vR 182)], [vI (-2)], (G0, M))) hc 2 rfl ?_
      cases e
      exact R_end (Rn_iret hc rfl rfl (xretI rfl rfl)) hK
  · refine Rn_ifT (tgt := 17) hc rfl rfl (by decide) (fun w => b2 w) ?_
    refine Rn_ms (σ' := (23, [some (vR 182)], [vI (-2)], (G0, M))) hc 2 rfl ?_
    cases e
    exact R_end (Rn_iret hc rfl rfl (xretI rfl rfl)) hK
/-- PedalLayersModel.peels -/
def f_166 (M : xM) : Option (xM) :=
  (f_147 M).bind (fun k1 =>
  bnd (xset M 183 7 ((M 183 7) - 1)) (fun M2 =>
  bnd (xset M2 183 8 ((M2 183 8) + 1)) (fun M3 =>
  (f_147 M3).bind (fun k4 =>
  if wr k1 ≤ wr k4 then
    some (M3)
  else
    (f_147 M3).bind (fun k6 =>
    gd ((wl (wr (2 * k6))) ≠ 0) (
    bnd (xset M3 183 1 ((wl (M3 183 1)).tmod (wl (wr (2 * k6))))) (fun M8 =>
    some (M8)
    )))
  ))))
theorem t_166 {rom : xRom} {d : Nat} {M : xM}  {r : xM} {out : Option xV × xH} (e : f_166 M = some r) (hK : eVW out r) : Rn rom (d + 3) 166 (0, [some (vR 182), none], [], (G0, M)) out := by
  have hc : xkall.getD 166 [] = xk_166 := rfl
  unfold f_166 at e
  refine Rn_ms (σ' := (1, [some (vR 182), none], [vR 182], (G0, M))) hc 1 rfl ?_
  refine R_bind e (fun k1 hk1 e => ?_)
  refine Rn_cv hc rfl rfl (by decide) (ii := xi_147) rfl rfl rfl (tgc_182 : Tg _ = 11) (by decide) rfl (le := [some (vR 182)]) rfl (v := some (vI k1)) (M' := M) (t_147  (d := d + 0) hk1 rfl) ?_
  refine Rn_ms (σ' := (6, [some (vR 182), some (vI k1)], [vR 182], (G0, M))) hc 2 rfl ?_
  refine Rn_getR hc rfl tgc_182 (by decide) rfl prc_182_0 ?_
  refine Rn_ms (σ' := (12, [some (vR 182), some (vI k1)], [vI 7, vR 183, vI 7, vR 183], (G0, M))) hc 2 rfl ?_
  refine Rn_lald hc rfl rfl tgc_183 zsc_183 (by decide) rfl ?_
  refine Rn_ms (σ' := (15, [some (vR 182), some (vI k1)], [vL ((M 183 7) - 1), vI 7, vR 183], (G0, M))) hc 2 rfl ?_
  refine R_bnd e (fun M2 hM2 e => ?_)
  refine Rn_last' hM2 hc rfl rfl tgc_183 zsc_183 (by decide) rfl ?_
  refine Rn_ms (σ' := (17, [some (vR 182), some (vI k1)], [vR 182], (G0, M2))) hc 1 rfl ?_
  refine Rn_getR hc rfl tgc_182 (by decide) rfl prc_182_0 ?_
  refine Rn_ms (σ' := (23, [some (vR 182), some (vI k1)], [vI 8, vR 183, vI 8, vR 183], (G0, M2))) hc 2 rfl ?_
  refine Rn_lald hc rfl rfl tgc_183 zsc_183 (by decide) rfl ?_
  refine Rn_ms (σ' := (26, [some (vR 182), some (vI k1)], [vL ((M2 183 8) + 1), vI 8, vR 183], (G0, M2))) hc 2 rfl ?_
  refine R_bnd e (fun M3 hM3 e => ?_)
  refine Rn_last' hM3 hc rfl rfl tgc_183 zsc_183 (by decide) rfl ?_
  refine Rn_ms (σ' := (28, [some (vR 182), some (vI k1)], [vR 182], (G0, M3))) hc 1 rfl ?_
  refine R_bind e (fun k4 hk4 e => ?_)
  refine Rn_cv hc rfl rfl (by decide) (ii := xi_147) rfl rfl rfl (tgc_182 : Tg _ = 11) (by decide) rfl (le := [some (vR 182)]) rfl (v := some (vI k4)) (M' := M3) (t_147  (d := d + 0) hk4 rfl) ?_
  refine Rn_ms (σ' := (32, [some (vR 182), some (vI k1)], [vI k1, vI k4], (G0, M3))) hc 1 rfl ?_
  refine R_ite e (fun b5 e => ?_) (fun b5 e => ?_)
  · refine Rn_icT (tgt := 51) hc rfl rfl (by decide) b5 ?_
    show Rn rom (d + 3) 166 (51, [some (vR 182), some (vI k1)], [], (G0, M3)) out
    cases e
    exact R_end (Rn_vret hc rfl rfl rfl rfl) hK
  · refine Rn_icF hc rfl rfl (by decide) b5 ?_
    refine Rn_ms (σ' := (36, [some (vR 182), some (vI k1)], [vR 182], (G0, M3))) hc 1 rfl ?_
    refine Rn_getR hc rfl tgc_182 (by decide) rfl prc_182_0 ?_
    refine Rn_ms (σ' := (41, [some (vR 182), some (vI k1)], [vI 1, vR 183, vI 1, vR 183], (G0, M3))) hc 2 rfl ?_
    refine Rn_lald hc rfl rfl tgc_183 zsc_183 (by decide) rfl ?_
    refine Rn_ms (σ' := (44, [some (vR 182), some (vI k1)], [vR 182, vI 2, vL (M3 183 1), vI 1, vR 183], (G0, M3))) hc 2 rfl ?_
    refine R_bind e (fun k6 hk6 e => ?_)
    refine Rn_cv hc rfl rfl (by decide) (ii := xi_147) rfl rfl rfl (tgc_182 : Tg _ = 11) (by decide) rfl (le := [some (vR 182)]) rfl (v := some (vI k6)) (M' := M3) (t_147  (d := d + 0) hk6 rfl) ?_
    refine Rn_ms (σ' := (49, [some (vR 182), some (vI k1)], [vL (wr (2 * k6)), vL (M3 183 1), vI 1, vR 183], (G0, M3))) hc 2 rfl ?_
    refine R_gd e (fun g7 e => ?_)
    refine Rn_lrem hc rfl ⟨rfl, rfl⟩ (z' := (wl (wr (2 * k6)))) rfl g7 ?_
    show Rn rom (d + 3) 166 (50, [some (vR 182), some (vI k1)], [vL ((wl (M3 183 1)).tmod (wl (wr (2 * k6)))), vI 1, vR 183], (G0, M3)) out
    refine R_bnd e (fun M8 hM8 e => ?_)
    refine Rn_last' hM8 hc rfl rfl tgc_183 zsc_183 (by decide) rfl ?_
    show Rn rom (d + 3) 166 (51, [some (vR 182), some (vI k1)], [], (G0, M8)) out
    cases e
    exact R_end (Rn_vret hc rfl rfl rfl rfl) hK
/-- PedalLayersModel.whyNotBack -/
def f_167 (M : xM) : Option (Int) :=
  (f_148 M).bind (fun k1 =>
  if wr k1 = 0 then
    (f_139 M 8).bind (fun k3 =>
    if wr k3 = 0 then
      some (-2)
    else
      some (0)
    )
  else
    some (-2)
  )
theorem t_167 {rom : xRom} {d : Nat} {M : xM}  {r : Int} {out : Option xV × xH} (e : f_167 M = some r) (hK : eI M out r) : Rn rom (d + 2) 167 (0, [some (vR 182)], [], (G0, M)) out := by
  have hc : xkall.getD 167 [] = xk_167 := rfl
  unfold f_167 at e
  refine Rn_ms (σ' := (1, [some (vR 182)], [vR 182], (G0, M))) hc 1 rfl ?_
  refine R_bind e (fun k1 hk1 e => ?_)
  refine Rn_cv hc rfl rfl (by decide) (ii := xi_148) rfl rfl rfl (tgc_182 : Tg _ = 11) (by decide) rfl (le := [some (vR 182)]) rfl (v := some (vI k1)) (M' := M) (t_148  (d := d + 0) hk1 rfl) ?_
  show Rn rom (d + 2) 167 (4, [some (vR 182)], [vI k1], (G0, M)) out
  refine R_ite e (fun b2 e => ?_) (fun b2 e => ?_)
  · refine Rn_ifF hc rfl rfl (by decide) (fun w => w b2) ?_
    refine Rn_ms (σ' := (10, [some (vR 182)], [vI 8, vR 182], (G0, M))) hc 2 rfl ?_
    refine R_bind e (fun k3 hk3 e => ?_)
    refine Rn_cv hc rfl rfl (by decide) (ii := xi_139) rfl rfl rfl (tgc_182 : Tg _ = 11) (by decide) rfl (le := [some (vR 182), some (vI 8)]) rfl (v := some (vI k3)) (M' := M) (t_139  (d := d + 1) hk3 rfl) ?_
    show Rn rom (d + 2) 167 (13, [some (vR 182)], [vI k3], (G0, M)) out
    refine R_ite e (fun b4 e => ?_) (fun b4 e => ?_)
    · refine Rn_ifF hc rfl rfl (by decide) (fun w => w b4) ?_
      refine Rn_ms (σ' := (22, [some (vR 182)], [vI (-2)], (G0, M))) hc 2 rfl ?_
      cases e
      exact R_end (Rn_iret hc rfl rfl (xretI rfl rfl)) hK
    · refine Rn_ifT (tgt := 21) hc rfl rfl (by decide) (fun w => b4 w) ?_
      refine Rn_ms (σ' := (22, [some (vR 182)], [vI 0], (G0, M))) hc 1 rfl ?_
      cases e
      exact R_end (Rn_iret hc rfl rfl (xretI rfl rfl)) hK
  · refine Rn_ifT (tgt := 16) hc rfl rfl (by decide) (fun w => b2 w) ?_
    refine Rn_ms (σ' := (22, [some (vR 182)], [vI (-2)], (G0, M))) hc 2 rfl ?_
    cases e
    exact R_end (Rn_iret hc rfl rfl (xretI rfl rfl)) hK
/-- PedalLayersModel.backs -/
def f_168 (M : xM) : xM :=
  bnd (xset M 183 7 ((M 183 7) + 1)) (fun M1 =>
  bnd (xset M1 183 8 ((M1 183 8) - 1)) (fun M2 =>
  M2
  ))
theorem t_168 {rom : xRom} {d : Nat} {M : xM}  {r : xM} {out : Option xV × xH} (e : f_168 M = r) (hK : eVW out r) : Rn rom (d + 0) 168 (0, [some (vR 182)], [], (G0, M)) out := by
  have hc : xkall.getD 168 [] = xk_168 := rfl
  unfold f_168 at e
  refine Rn_ms (σ' := (1, [some (vR 182)], [vR 182], (G0, M))) hc 1 rfl ?_
  refine Rn_getR hc rfl tgc_182 (by decide) rfl prc_182_0 ?_
  refine Rn_ms (σ' := (7, [some (vR 182)], [vI 7, vR 183, vI 7, vR 183], (G0, M))) hc 2 rfl ?_
  refine Rn_lald hc rfl rfl tgc_183 zsc_183 (by decide) rfl ?_
  refine Rn_ms (σ' := (10, [some (vR 182)], [vL ((M 183 7) + 1), vI 7, vR 183], (G0, M))) hc 2 rfl ?_
  refine R_bnd e (fun M1 hM1 e => ?_)
  refine Rn_last' hM1 hc rfl rfl tgc_183 zsc_183 (by decide) rfl ?_
  refine Rn_ms (σ' := (12, [some (vR 182)], [vR 182], (G0, M1))) hc 1 rfl ?_
  refine Rn_getR hc rfl tgc_182 (by decide) rfl prc_182_0 ?_
  refine Rn_ms (σ' := (18, [some (vR 182)], [vI 8, vR 183, vI 8, vR 183], (G0, M1))) hc 2 rfl ?_
  refine Rn_lald hc rfl rfl tgc_183 zsc_183 (by decide) rfl ?_
  refine Rn_ms (σ' := (21, [some (vR 182)], [vL ((M1 183 8) - 1), vI 8, vR 183], (G0, M1))) hc 2 rfl ?_
  refine R_bnd e (fun M2 hM2 e => ?_)
  refine Rn_last' hM2 hc rfl rfl tgc_183 zsc_183 (by decide) rfl ?_
  show Rn rom (d + 0) 168 (22, [some (vR 182)], [], (G0, M2)) out
  cases e
  exact R_end (Rn_vret hc rfl rfl rfl rfl) hK
/-- PedalLayersModel.press -/
def f_169 (M : xM) : Option (Int × xM) :=
  (f_156 M).bind (fun k1 =>
  if 0 ≤ wr k1 then
    (f_140 M).bind (fun k3 =>
    (f_157 k3).bind (fun k4 =>
    (f_139 k4 0).bind (fun k5 =>
    some (k5, k4)
    )))
  else
    some (k1, M)
  )
theorem t_169 {rom : xRom} {d : Nat} {M : xM}  {r : Int × xM} {out : Option xV × xH} (e : f_169 M = some r) (hK : eIW out r) : Rn rom (d + 5) 169 (0, [some (vR 182), none], [], (G0, M)) out := by
  have hc : xkall.getD 169 [] = xk_169 := rfl
  unfold f_169 at e
  refine Rn_ms (σ' := (1, [some (vR 182), none], [vR 182], (G0, M))) hc 1 rfl ?_
  refine R_bind e (fun k1 hk1 e => ?_)
  refine Rn_cv hc rfl rfl (by decide) (ii := xi_156) rfl rfl rfl (tgc_182 : Tg _ = 11) (by decide) rfl (le := [some (vR 182), none]) rfl (v := some (vI k1)) (M' := M) (t_156  (d := d + 2) hk1 rfl) ?_
  refine Rn_ms (σ' := (6, [some (vR 182), some (vI k1)], [vI k1], (G0, M))) hc 2 rfl ?_
  refine R_ite e (fun b2 e => ?_) (fun b2 e => ?_)
  · refine Rn_ifT (tgt := 11) hc rfl rfl (by decide) b2 ?_
    refine Rn_ms (σ' := (12, [some (vR 182), some (vI k1)], [vR 182], (G0, M))) hc 1 rfl ?_
    refine R_bind e (fun k3 hk3 e => ?_)
    refine Rn_cv hc rfl rfl (by decide) (ii := xi_140) rfl rfl rfl (tgc_182 : Tg _ = 11) (by decide) rfl (le := [some (vR 182), none]) rfl (v := none) (M' := k3) (t_140  (d := d + 4) hk3 rfl) ?_
    refine Rn_ms (σ' := (16, [some (vR 182), some (vI k1)], [vR 182], (G0, k3))) hc 1 rfl ?_
    refine R_bind e (fun k4 hk4 e => ?_)
    refine Rn_cv hc rfl rfl (by decide) (ii := xi_157) rfl rfl rfl (tgc_182 : Tg _ = 11) (by decide) rfl (le := [some (vR 182)]) rfl (v := none) (M' := k4) (t_157  (d := d + 0) hk4 rfl) ?_
    refine Rn_ms (σ' := (21, [some (vR 182), some (vI k1)], [vI 0, vR 182], (G0, k4))) hc 2 rfl ?_
    refine R_bind e (fun k5 hk5 e => ?_)
    refine Rn_cv hc rfl rfl (by decide) (ii := xi_139) rfl rfl rfl (tgc_182 : Tg _ = 11) (by decide) rfl (le := [some (vR 182), some (vI 0)]) rfl (v := some (vI k5)) (M' := k4) (t_139  (d := d + 4) hk5 rfl) ?_
    show Rn rom (d + 5) 169 (24, [some (vR 182), some (vI k1)], [vI k5], (G0, k4)) out
    cases e
    exact R_end (Rn_iret hc rfl rfl (xretI rfl rfl)) hK
  · refine Rn_ifF hc rfl rfl (by decide) b2 ?_
    refine Rn_ms (σ' := (10, [some (vR 182), some (vI k1)], [vI k1], (G0, M))) hc 1 rfl ?_
    cases e
    exact R_end (Rn_iret hc rfl rfl (xretI rfl rfl)) hK
/-- PedalLayersModel.stop -/
def f_170 (M : xM) : Option (Int × xM) :=
  (f_158 M).bind (fun k1 =>
  if 0 ≤ wr k1 then
    (f_140 M).bind (fun k3 =>
    (f_159 k3).bind (fun k4 =>
    (f_139 k4 0).bind (fun k5 =>
    some (k5, k4)
    )))
  else
    some ((-2), M)
  )
theorem t_170 {rom : xRom} {d : Nat} {M : xM}  {r : Int × xM} {out : Option xV × xH} (e : f_170 M = some r) (hK : eIW out r) : Rn rom (d + 3) 170 (0, [some (vR 182)], [], (G0, M)) out := by
  have hc : xkall.getD 170 [] = xk_170 := rfl
  unfold f_170 at e
  refine Rn_ms (σ' := (1, [some (vR 182)], [vR 182], (G0, M))) hc 1 rfl ?_
  refine R_bind e (fun k1 hk1 e => ?_)
  refine Rn_cv hc rfl rfl (by decide) (ii := xi_158) rfl rfl rfl (tgc_182 : Tg _ = 11) (by decide) rfl (le := [some (vR 182)]) rfl (v := some (vI k1)) (M' := M) (t_158  (d := d + 1) hk1 rfl) ?_
  show Rn rom (d + 3) 170 (4, [some (vR 182)], [vI k1], (G0, M)) out
  refine R_ite e (fun b2 e => ?_) (fun b2 e => ?_)
  · refine Rn_ifT (tgt := 10) hc rfl rfl (by decide) b2 ?_
    refine Rn_ms (σ' := (11, [some (vR 182)], [vR 182], (G0, M))) hc 1 rfl ?_
    refine R_bind e (fun k3 hk3 e => ?_)
    refine Rn_cv hc rfl rfl (by decide) (ii := xi_140) rfl rfl rfl (tgc_182 : Tg _ = 11) (by decide) rfl (le := [some (vR 182), none]) rfl (v := none) (M' := k3) (t_140  (d := d + 2) hk3 rfl) ?_
    refine Rn_ms (σ' := (15, [some (vR 182)], [vR 182], (G0, k3))) hc 1 rfl ?_
    refine R_bind e (fun k4 hk4 e => ?_)
    refine Rn_cv hc rfl rfl (by decide) (ii := xi_159) rfl rfl rfl (tgc_182 : Tg _ = 11) (by decide) rfl (le := [some (vR 182)]) rfl (v := none) (M' := k4) (t_159  (d := d + 0) hk4 rfl) ?_
    refine Rn_ms (σ' := (20, [some (vR 182)], [vI 0, vR 182], (G0, k4))) hc 2 rfl ?_
    refine R_bind e (fun k5 hk5 e => ?_)
    refine Rn_cv hc rfl rfl (by decide) (ii := xi_139) rfl rfl rfl (tgc_182 : Tg _ = 11) (by decide) rfl (le := [some (vR 182), some (vI 0)]) rfl (v := some (vI k5)) (M' := k4) (t_139  (d := d + 2) hk5 rfl) ?_
    show Rn rom (d + 3) 170 (23, [some (vR 182)], [vI k5], (G0, k4)) out
    cases e
    exact R_end (Rn_iret hc rfl rfl (xretI rfl rfl)) hK
  · refine Rn_ifF hc rfl rfl (by decide) b2 ?_
    refine Rn_ms (σ' := (9, [some (vR 182)], [vI (-2)], (G0, M))) hc 1 rfl ?_
    cases e
    exact R_end (Rn_iret hc rfl rfl (xretI rfl rfl)) hK
/-- PedalLayersModel.empty -/
def f_171 (M : xM) : Option (Int × xM) :=
  (f_139 M 0).bind (fun k1 =>
  if wr k1 = 0 then
    some ((-2), M)
  else
    (f_140 M).bind (fun k3 =>
    (f_139 k3 7).bind (fun k4 =>
    bnd (f_149 k3) (fun k5 =>
    (f_151 k5).bind (fun k6 =>
    bnd (xset k6 183 0 0) (fun M7 =>
    bnd (xset M7 183 7 0) (fun M8 =>
    bnd (xset M8 183 8 0) (fun M9 =>
    bnd (xset M9 183 6 0) (fun M10 =>
    some (k4, M10)
    ))))))))
  )
theorem t_171 {rom : xRom} {d : Nat} {M : xM}  {r : Int × xM} {out : Option xV × xH} (e : f_171 M = some r) (hK : eIW out r) : Rn rom (d + 2) 171 (0, [some (vR 182), none], [], (G0, M)) out := by
  have hc : xkall.getD 171 [] = xk_171 := rfl
  unfold f_171 at e
  refine Rn_ms (σ' := (2, [some (vR 182), none], [vI 0, vR 182], (G0, M))) hc 2 rfl ?_
  refine R_bind e (fun k1 hk1 e => ?_)
  refine Rn_cv hc rfl rfl (by decide) (ii := xi_139) rfl rfl rfl (tgc_182 : Tg _ = 11) (by decide) rfl (le := [some (vR 182), some (vI 0)]) rfl (v := some (vI k1)) (M' := M) (t_139  (d := d + 1) hk1 rfl) ?_
  show Rn rom (d + 2) 171 (5, [some (vR 182), none], [vI k1], (G0, M)) out
  refine R_ite e (fun b2 e => ?_) (fun b2 e => ?_)
  · refine Rn_ifF hc rfl rfl (by decide) (fun w => w b2) ?_
    refine Rn_ms (σ' := (10, [some (vR 182), none], [vI (-2)], (G0, M))) hc 1 rfl ?_
    cases e
    exact R_end (Rn_iret hc rfl rfl (xretI rfl rfl)) hK
  · refine Rn_ifT (tgt := 11) hc rfl rfl (by decide) (fun w => b2 w) ?_
    refine Rn_ms (σ' := (12, [some (vR 182), none], [vR 182], (G0, M))) hc 1 rfl ?_
    refine R_bind e (fun k3 hk3 e => ?_)
    refine Rn_cv hc rfl rfl (by decide) (ii := xi_140) rfl rfl rfl (tgc_182 : Tg _ = 11) (by decide) rfl (le := [some (vR 182), none]) rfl (v := none) (M' := k3) (t_140  (d := d + 1) hk3 rfl) ?_
    refine Rn_ms (σ' := (18, [some (vR 182), none], [vI 7, vR 182], (G0, k3))) hc 2 rfl ?_
    refine R_bind e (fun k4 hk4 e => ?_)
    refine Rn_cv hc rfl rfl (by decide) (ii := xi_139) rfl rfl rfl (tgc_182 : Tg _ = 11) (by decide) rfl (le := [some (vR 182), some (vI 7)]) rfl (v := some (vI k4)) (M' := k3) (t_139  (d := d + 1) hk4 rfl) ?_
    refine Rn_ms (σ' := (23, [some (vR 182), some (vI k4)], [vR 182], (G0, k3))) hc 2 rfl ?_
    refine R_bnd e (fun k5 hk5 e => ?_)
    refine Rn_cv hc rfl rfl (by decide) (ii := xi_149) rfl rfl rfl (tgc_182 : Tg _ = 11) (by decide) rfl (le := [some (vR 182)]) rfl (v := none) (M' := k5) (t_149  (d := d + 1) hk5.symm rfl) ?_
    refine Rn_ms (σ' := (27, [some (vR 182), some (vI k4)], [vR 182], (G0, k5))) hc 1 rfl ?_
    refine R_bind e (fun k6 hk6 e => ?_)
    refine Rn_cv hc rfl rfl (by decide) (ii := xi_151) rfl rfl rfl (tgc_182 : Tg _ = 11) (by decide) rfl (le := [some (vR 182)]) rfl (v := none) (M' := k6) (t_151  (d := d + 0) hk6 rfl) ?_
    refine Rn_ms (σ' := (31, [some (vR 182), some (vI k4)], [vR 182], (G0, k6))) hc 1 rfl ?_
    refine Rn_getR hc rfl tgc_182 (by decide) rfl prc_182_0 ?_
    refine Rn_ms (σ' := (36, [some (vR 182), some (vI k4)], [vL 0, vI 0, vR 183], (G0, k6))) hc 2 rfl ?_
    refine R_bnd e (fun M7 hM7 e => ?_)
    refine Rn_last' hM7 hc rfl rfl tgc_183 zsc_183 (by decide) rfl ?_
    refine Rn_ms (σ' := (38, [some (vR 182), some (vI k4)], [vR 182], (G0, M7))) hc 1 rfl ?_
    refine Rn_getR hc rfl tgc_182 (by decide) rfl prc_182_0 ?_
    refine Rn_ms (σ' := (44, [some (vR 182), some (vI k4)], [vL 0, vI 7, vR 183], (G0, M7))) hc 2 rfl ?_
    refine R_bnd e (fun M8 hM8 e => ?_)
    refine Rn_last' hM8 hc rfl rfl tgc_183 zsc_183 (by decide) rfl ?_
    refine Rn_ms (σ' := (46, [some (vR 182), some (vI k4)], [vR 182], (G0, M8))) hc 1 rfl ?_
    refine Rn_getR hc rfl tgc_182 (by decide) rfl prc_182_0 ?_
    refine Rn_ms (σ' := (52, [some (vR 182), some (vI k4)], [vL 0, vI 8, vR 183], (G0, M8))) hc 2 rfl ?_
    refine R_bnd e (fun M9 hM9 e => ?_)
    refine Rn_last' hM9 hc rfl rfl tgc_183 zsc_183 (by decide) rfl ?_
    refine Rn_ms (σ' := (54, [some (vR 182), some (vI k4)], [vR 182], (G0, M9))) hc 1 rfl ?_
    refine Rn_getR hc rfl tgc_182 (by decide) rfl prc_182_0 ?_
    refine Rn_ms (σ' := (60, [some (vR 182), some (vI k4)], [vL 0, vI 6, vR 183], (G0, M9))) hc 2 rfl ?_
    refine R_bnd e (fun M10 hM10 e => ?_)
    refine Rn_last' hM10 hc rfl rfl tgc_183 zsc_183 (by decide) rfl ?_
    refine Rn_ms (σ' := (62, [some (vR 182), some (vI k4)], [vI k4], (G0, M10))) hc 1 rfl ?_
    cases e
    exact R_end (Rn_iret hc rfl rfl (xretI rfl rfl)) hK
/-- PedalLayersModel.hit -/
def f_172 (M : xM) (a1 : Int) (a2 : Int) : Option (Int × xM) :=
  (f_163 M a1 a2).bind (fun k1 =>
  if 0 ≤ wr k1 then
    (f_140 M).bind (fun k3 =>
    (f_164 k3 a1 a2).bind (fun k4 =>
    some (k4.1, k4.2)
    ))
  else
    some (k1, M)
  )
theorem t_172 {rom : xRom} {d : Nat} {M : xM} {a1 : Int} {a2 : Int} {r : Int × xM} {out : Option xV × xH} (e : f_172 M a1 a2 = some r) (hK : eIW out r) : Rn rom (d + 3) 172 (0, [some (vR 182), some (vI a1), some (vI a2), none], [], (G0, M)) out := by
  have hc : xkall.getD 172 [] = xk_172 := rfl
  unfold f_172 at e
  refine Rn_ms (σ' := (3, [some (vR 182), some (vI a1), some (vI a2), none], [vI a2, vI a1, vR 182], (G0, M))) hc 3 rfl ?_
  refine R_bind e (fun k1 hk1 e => ?_)
  refine Rn_cv hc rfl rfl (by decide) (ii := xi_163) rfl rfl rfl (tgc_182 : Tg _ = 11) (by decide) rfl (le := [some (vR 182), some (vI a1), some (vI a2), none]) rfl (v := some (vI k1)) (M' := M) (t_163  (d := d + 0) hk1 rfl) ?_
  refine Rn_ms (σ' := (8, [some (vR 182), some (vI a1), some (vI a2), some (vI k1)], [vI k1], (G0, M))) hc 2 rfl ?_
  refine R_ite e (fun b2 e => ?_) (fun b2 e => ?_)
  · refine Rn_ifT (tgt := 13) hc rfl rfl (by decide) b2 ?_
    refine Rn_ms (σ' := (14, [some (vR 182), some (vI a1), some (vI a2), some (vI k1)], [vR 182], (G0, M))) hc 1 rfl ?_
    refine R_bind e (fun k3 hk3 e => ?_)
    refine Rn_cv hc rfl rfl (by decide) (ii := xi_140) rfl rfl rfl (tgc_182 : Tg _ = 11) (by decide) rfl (le := [some (vR 182), none]) rfl (v := none) (M' := k3) (t_140  (d := d + 2) hk3 rfl) ?_
    refine Rn_ms (σ' := (20, [some (vR 182), some (vI a1), some (vI a2), some (vI k1)], [vI a2, vI a1, vR 182], (G0, k3))) hc 3 rfl ?_
    refine R_bind e (fun k4 hk4 e => ?_)
    refine Rn_cv hc rfl rfl (by decide) (ii := xi_164) rfl rfl rfl (tgc_182 : Tg _ = 11) (by decide) rfl (le := [some (vR 182), some (vI a1), some (vI a2), none, none, none]) rfl (v := some (vI k4.1)) (M' := k4.2) (t_164  (d := d + 1) hk4 rfl) ?_
    show Rn rom (d + 3) 172 (23, [some (vR 182), some (vI a1), some (vI a2), some (vI k1)], [vI k4.1], (G0, k4.2)) out
    cases e
    exact R_end (Rn_iret hc rfl rfl (xretI rfl rfl)) hK
  · refine Rn_ifF hc rfl rfl (by decide) b2 ?_
    refine Rn_ms (σ' := (12, [some (vR 182), some (vI a1), some (vI a2), some (vI k1)], [vI k1], (G0, M))) hc 1 rfl ?_
    cases e
    exact R_end (Rn_iret hc rfl rfl (xretI rfl rfl)) hK
/-- PedalLayersModel.pass -/
def f_173 (M : xM) (a1 : Int) : Option (Int × xM) :=
  if wr (f_138 a1 1 99) = 0 then
    some ((-1), M)
  else
    (f_140 M).bind (fun k2 =>
    (f_162 k2 a1).bind (fun k3 =>
    some (k3.1, k3.2)
    ))
theorem t_173 {rom : xRom} {d : Nat} {M : xM} {a1 : Int} {r : Int × xM} {out : Option xV × xH} (e : f_173 M a1 = some r) (hK : eIW out r) : Rn rom (d + 6) 173 (0, [some (vR 182), some (vI a1)], [], (G0, M)) out := by
  have hc : xkall.getD 173 [] = xk_173 := rfl
  unfold f_173 at e
  refine Rn_ms (σ' := (4, [some (vR 182), some (vI a1)], [vI 99, vI 1, vI a1], (G0, M))) hc 3 rfl ?_
  refine Rn_cs hc rfl rfl (by decide) (ii := xi_138) rfl rfl rfl (le := [some (vI a1), some (vI 1), some (vI 99)]) rfl (v := some (vI (f_138 a1 1 99))) (M' := M) (t_138  (d := d + 5) rfl rfl) ?_
  show Rn rom (d + 6) 173 (7, [some (vR 182), some (vI a1)], [vI (f_138 a1 1 99)], (G0, M)) out
  refine R_ite e (fun b1 e => ?_) (fun b1 e => ?_)
  · refine Rn_ifF hc rfl rfl (by decide) (fun w => w b1) ?_
    refine Rn_ms (σ' := (11, [some (vR 182), some (vI a1)], [vI (-1)], (G0, M))) hc 1 rfl ?_
    cases e
    exact R_end (Rn_iret hc rfl rfl (xretI rfl rfl)) hK
  · refine Rn_ifT (tgt := 12) hc rfl rfl (by decide) (fun w => b1 w) ?_
    refine Rn_ms (σ' := (13, [some (vR 182), some (vI a1)], [vR 182], (G0, M))) hc 1 rfl ?_
    refine R_bind e (fun k2 hk2 e => ?_)
    refine Rn_cv hc rfl rfl (by decide) (ii := xi_140) rfl rfl rfl (tgc_182 : Tg _ = 11) (by decide) rfl (le := [some (vR 182), none]) rfl (v := none) (M' := k2) (t_140  (d := d + 5) hk2 rfl) ?_
    refine Rn_ms (σ' := (18, [some (vR 182), some (vI a1)], [vI a1, vR 182], (G0, k2))) hc 2 rfl ?_
    refine R_bind e (fun k3 hk3 e => ?_)
    refine Rn_cv hc rfl rfl (by decide) (ii := xi_162) rfl rfl rfl (tgc_182 : Tg _ = 11) (by decide) rfl (le := [some (vR 182), some (vI a1), none, none]) rfl (v := some (vI k3.1)) (M' := k3.2) (t_162  (d := d + 0) hk3 rfl) ?_
    show Rn rom (d + 6) 173 (21, [some (vR 182), some (vI a1)], [vI k3.1], (G0, k3.2)) out
    cases e
    exact R_end (Rn_iret hc rfl rfl (xretI rfl rfl)) hK
/-- PedalLayersModel.peel -/
def f_174 (M : xM) : Option (Int × xM) :=
  (f_165 M).bind (fun k1 =>
  if 0 ≤ wr k1 then
    (f_140 M).bind (fun k3 =>
    (f_166 k3).bind (fun k4 =>
    (f_139 k4 7).bind (fun k5 =>
    some (k5, k4)
    )))
  else
    some ((-2), M)
  )
theorem t_174 {rom : xRom} {d : Nat} {M : xM}  {r : Int × xM} {out : Option xV × xH} (e : f_174 M = some r) (hK : eIW out r) : Rn rom (d + 4) 174 (0, [some (vR 182)], [], (G0, M)) out := by
  have hc : xkall.getD 174 [] = xk_174 := rfl
  unfold f_174 at e
  refine Rn_ms (σ' := (1, [some (vR 182)], [vR 182], (G0, M))) hc 1 rfl ?_
  refine R_bind e (fun k1 hk1 e => ?_)
  refine Rn_cv hc rfl rfl (by decide) (ii := xi_165) rfl rfl rfl (tgc_182 : Tg _ = 11) (by decide) rfl (le := [some (vR 182)]) rfl (v := some (vI k1)) (M' := M) (t_165  (d := d + 1) hk1 rfl) ?_
  show Rn rom (d + 4) 174 (4, [some (vR 182)], [vI k1], (G0, M)) out
  refine R_ite e (fun b2 e => ?_) (fun b2 e => ?_)
  · refine Rn_ifT (tgt := 10) hc rfl rfl (by decide) b2 ?_
    refine Rn_ms (σ' := (11, [some (vR 182)], [vR 182], (G0, M))) hc 1 rfl ?_
    refine R_bind e (fun k3 hk3 e => ?_)
    refine Rn_cv hc rfl rfl (by decide) (ii := xi_140) rfl rfl rfl (tgc_182 : Tg _ = 11) (by decide) rfl (le := [some (vR 182), none]) rfl (v := none) (M' := k3) (t_140  (d := d + 3) hk3 rfl) ?_
    refine Rn_ms (σ' := (15, [some (vR 182)], [vR 182], (G0, k3))) hc 1 rfl ?_
    refine R_bind e (fun k4 hk4 e => ?_)
    refine Rn_cv hc rfl rfl (by decide) (ii := xi_166) rfl rfl rfl (tgc_182 : Tg _ = 11) (by decide) rfl (le := [some (vR 182), none]) rfl (v := none) (M' := k4) (t_166  (d := d + 0) hk4 rfl) ?_
    refine Rn_ms (σ' := (21, [some (vR 182)], [vI 7, vR 182], (G0, k4))) hc 2 rfl ?_
    refine R_bind e (fun k5 hk5 e => ?_)
    refine Rn_cv hc rfl rfl (by decide) (ii := xi_139) rfl rfl rfl (tgc_182 : Tg _ = 11) (by decide) rfl (le := [some (vR 182), some (vI 7)]) rfl (v := some (vI k5)) (M' := k4) (t_139  (d := d + 3) hk5 rfl) ?_
    show Rn rom (d + 4) 174 (24, [some (vR 182)], [vI k5], (G0, k4)) out
    cases e
    exact R_end (Rn_iret hc rfl rfl (xretI rfl rfl)) hK
  · refine Rn_ifF hc rfl rfl (by decide) b2 ?_
    refine Rn_ms (σ' := (9, [some (vR 182)], [vI (-2)], (G0, M))) hc 1 rfl ?_
    cases e
    exact R_end (Rn_iret hc rfl rfl (xretI rfl rfl)) hK
/-- PedalLayersModel.back -/
def f_175 (M : xM) : Option (Int × xM) :=
  (f_167 M).bind (fun k1 =>
  if 0 ≤ wr k1 then
    (f_140 M).bind (fun k3 =>
    bnd (f_168 k3) (fun k4 =>
    (f_139 k4 7).bind (fun k5 =>
    some (k5, k4)
    )))
  else
    some ((-2), M)
  )
theorem t_175 {rom : xRom} {d : Nat} {M : xM}  {r : Int × xM} {out : Option xV × xH} (e : f_175 M = some r) (hK : eIW out r) : Rn rom (d + 3) 175 (0, [some (vR 182)], [], (G0, M)) out := by
  have hc : xkall.getD 175 [] = xk_175 := rfl
  unfold f_175 at e
  refine Rn_ms (σ' := (1, [some (vR 182)], [vR 182], (G0, M))) hc 1 rfl ?_
  refine R_bind e (fun k1 hk1 e => ?_)
  refine Rn_cv hc rfl rfl (by decide) (ii := xi_167) rfl rfl rfl (tgc_182 : Tg _ = 11) (by decide) rfl (le := [some (vR 182)]) rfl (v := some (vI k1)) (M' := M) (t_167  (d := d + 0) hk1 rfl) ?_
  show Rn rom (d + 3) 175 (4, [some (vR 182)], [vI k1], (G0, M)) out
  refine R_ite e (fun b2 e => ?_) (fun b2 e => ?_)
  · refine Rn_ifT (tgt := 10) hc rfl rfl (by decide) b2 ?_
    refine Rn_ms (σ' := (11, [some (vR 182)], [vR 182], (G0, M))) hc 1 rfl ?_
    refine R_bind e (fun k3 hk3 e => ?_)
    refine Rn_cv hc rfl rfl (by decide) (ii := xi_140) rfl rfl rfl (tgc_182 : Tg _ = 11) (by decide) rfl (le := [some (vR 182), none]) rfl (v := none) (M' := k3) (t_140  (d := d + 2) hk3 rfl) ?_
    refine Rn_ms (σ' := (15, [some (vR 182)], [vR 182], (G0, k3))) hc 1 rfl ?_
    refine R_bnd e (fun k4 hk4 e => ?_)
    refine Rn_cv hc rfl rfl (by decide) (ii := xi_168) rfl rfl rfl (tgc_182 : Tg _ = 11) (by decide) rfl (le := [some (vR 182)]) rfl (v := none) (M' := k4) (t_168  (d := d + 2) hk4.symm rfl) ?_
    refine Rn_ms (σ' := (21, [some (vR 182)], [vI 7, vR 182], (G0, k4))) hc 2 rfl ?_
    refine R_bind e (fun k5 hk5 e => ?_)
    refine Rn_cv hc rfl rfl (by decide) (ii := xi_139) rfl rfl rfl (tgc_182 : Tg _ = 11) (by decide) rfl (le := [some (vR 182), some (vI 7)]) rfl (v := some (vI k5)) (M' := k4) (t_139  (d := d + 2) hk5 rfl) ?_
    show Rn rom (d + 3) 175 (24, [some (vR 182)], [vI k5], (G0, k4)) out
    cases e
    exact R_end (Rn_iret hc rfl rfl (xretI rfl rfl)) hK
  · refine Rn_ifF hc rfl rfl (by decide) b2 ?_
    refine Rn_ms (σ' := (9, [some (vR 182)], [vI (-2)], (G0, M))) hc 1 rfl ?_
    cases e
    exact R_end (Rn_iret hc rfl rfl (xretI rfl rfl)) hK
/-- PedalLayersModel.mute -/
def f_176 (M : xM) (a1 : Int) : Option (Int × xM) :=
  (f_145 M a1).bind (fun k1 =>
  if wr k1 = 0 then
    some ((-1), M)
  else
    (f_140 M).bind (fun k3 =>
    gd (0 ≤ wr (20 + a1) ∧ wr (20 + a1) < 1376) (
    gd (0 ≤ wr (20 + a1) ∧ wr (20 + a1) < 1376) (
    bnd (xset k3 183 (wr (20 + a1)).toNat (1 - (k3 183 (wr (20 + a1)).toNat))) (fun M6 =>
    (f_139 M6 (20 + a1)).bind (fun k7 =>
    some (k7, M6)
    )))))
  )
theorem t_176 {rom : xRom} {d : Nat} {M : xM} {a1 : Int} {r : Int × xM} {out : Option xV × xH} (e : f_176 M a1 = some r) (hK : eIW out r) : Rn rom (d + 2) 176 (0, [some (vR 182), some (vI a1)], [], (G0, M)) out := by
  have hc : xkall.getD 176 [] = xk_176 := rfl
  unfold f_176 at e
  refine Rn_ms (σ' := (2, [some (vR 182), some (vI a1)], [vI a1, vR 182], (G0, M))) hc 2 rfl ?_
  refine R_bind e (fun k1 hk1 e => ?_)
  refine Rn_cv hc rfl rfl (by decide) (ii := xi_145) rfl rfl rfl (tgc_182 : Tg _ = 11) (by decide) rfl (le := [some (vR 182), some (vI a1)]) rfl (v := some (vI k1)) (M' := M) (t_145  (d := d + 0) hk1 rfl) ?_
  show Rn rom (d + 2) 176 (5, [some (vR 182), some (vI a1)], [vI k1], (G0, M)) out
  refine R_ite e (fun b2 e => ?_) (fun b2 e => ?_)
  · refine Rn_ifF hc rfl rfl (by decide) (fun w => w b2) ?_
    refine Rn_ms (σ' := (9, [some (vR 182), some (vI a1)], [vI (-1)], (G0, M))) hc 1 rfl ?_
    cases e
    exact R_end (Rn_iret hc rfl rfl (xretI rfl rfl)) hK
  · refine Rn_ifT (tgt := 10) hc rfl rfl (by decide) (fun w => b2 w) ?_
    refine Rn_ms (σ' := (11, [some (vR 182), some (vI a1)], [vR 182], (G0, M))) hc 1 rfl ?_
    refine R_bind e (fun k3 hk3 e => ?_)
    refine Rn_cv hc rfl rfl (by decide) (ii := xi_140) rfl rfl rfl (tgc_182 : Tg _ = 11) (by decide) rfl (le := [some (vR 182), none]) rfl (v := none) (M' := k3) (t_140  (d := d + 1) hk3 rfl) ?_
    refine Rn_ms (σ' := (15, [some (vR 182), some (vI a1)], [vR 182], (G0, k3))) hc 1 rfl ?_
    refine Rn_getR hc rfl tgc_182 (by decide) rfl prc_182_0 ?_
    refine Rn_ms (σ' := (24, [some (vR 182), some (vI a1)], [vR 182, vL 1, vI (20 + a1), vR 183], (G0, k3))) hc 5 rfl ?_
    refine Rn_getR hc rfl tgc_182 (by decide) rfl prc_182_0 ?_
    refine Rn_ms (σ' := (31, [some (vR 182), some (vI a1)], [vI (20 + a1), vR 183, vL 1, vI (20 + a1), vR 183], (G0, k3))) hc 3 rfl ?_
    refine R_gd e (fun g4 e => ?_)
    refine Rn_lald hc rfl rfl tgc_183 zsc_183 g4 rfl ?_
    refine Rn_ms (σ' := (33, [some (vR 182), some (vI a1)], [vL (1 - (k3 183 (wr (20 + a1)).toNat)), vI (20 + a1), vR 183], (G0, k3))) hc 1 rfl ?_
    refine R_gd e (fun g5 e => ?_)
    refine R_bnd e (fun M6 hM6 e => ?_)
    refine Rn_last' hM6 hc rfl rfl tgc_183 zsc_183 g5 rfl ?_
    refine Rn_ms (σ' := (39, [some (vR 182), some (vI a1)], [vI (20 + a1), vR 182], (G0, M6))) hc 4 rfl ?_
    refine R_bind e (fun k7 hk7 e => ?_)
    refine Rn_cv hc rfl rfl (by decide) (ii := xi_139) rfl rfl rfl (tgc_182 : Tg _ = 11) (by decide) rfl (le := [some (vR 182), some (vI (20 + a1))]) rfl (v := some (vI k7)) (M' := M6) (t_139  (d := d + 1) hk7 rfl) ?_
    show Rn rom (d + 2) 176 (42, [some (vR 182), some (vI a1)], [vI k7], (G0, M6)) out
    cases e
    exact R_end (Rn_iret hc rfl rfl (xretI rfl rfl)) hK
/-- PedalLayersModel.speed -/
def f_177 (M : xM) : Option (Int × xM) :=
  (f_140 M).bind (fun k1 =>
  bnd (xset k1 183 2 (1 - (k1 183 2))) (fun M2 =>
  (f_139 M2 2).bind (fun k3 =>
  some (k3, M2)
  )))
theorem t_177 {rom : xRom} {d : Nat} {M : xM}  {r : Int × xM} {out : Option xV × xH} (e : f_177 M = some r) (hK : eIW out r) : Rn rom (d + 1) 177 (0, [some (vR 182)], [], (G0, M)) out := by
  have hc : xkall.getD 177 [] = xk_177 := rfl
  unfold f_177 at e
  refine Rn_ms (σ' := (1, [some (vR 182)], [vR 182], (G0, M))) hc 1 rfl ?_
  refine R_bind e (fun k1 hk1 e => ?_)
  refine Rn_cv hc rfl rfl (by decide) (ii := xi_140) rfl rfl rfl (tgc_182 : Tg _ = 11) (by decide) rfl (le := [some (vR 182), none]) rfl (v := none) (M' := k1) (t_140  (d := d + 0) hk1 rfl) ?_
  refine Rn_ms (σ' := (5, [some (vR 182)], [vR 182], (G0, k1))) hc 1 rfl ?_
  refine Rn_getR hc rfl tgc_182 (by decide) rfl prc_182_0 ?_
  refine Rn_ms (σ' := (11, [some (vR 182)], [vR 182, vL 1, vI 2, vR 183], (G0, k1))) hc 3 rfl ?_
  refine Rn_getR hc rfl tgc_182 (by decide) rfl prc_182_0 ?_
  refine Rn_ms (σ' := (15, [some (vR 182)], [vI 2, vR 183, vL 1, vI 2, vR 183], (G0, k1))) hc 1 rfl ?_
  refine Rn_lald hc rfl rfl tgc_183 zsc_183 (by decide) rfl ?_
  refine Rn_ms (σ' := (17, [some (vR 182)], [vL (1 - (k1 183 2)), vI 2, vR 183], (G0, k1))) hc 1 rfl ?_
  refine R_bnd e (fun M2 hM2 e => ?_)
  refine Rn_last' hM2 hc rfl rfl tgc_183 zsc_183 (by decide) rfl ?_
  refine Rn_ms (σ' := (20, [some (vR 182)], [vI 2, vR 182], (G0, M2))) hc 2 rfl ?_
  refine R_bind e (fun k3 hk3 e => ?_)
  refine Rn_cv hc rfl rfl (by decide) (ii := xi_139) rfl rfl rfl (tgc_182 : Tg _ = 11) (by decide) rfl (le := [some (vR 182), some (vI 2)]) rfl (v := some (vI k3)) (M' := M2) (t_139  (d := d + 0) hk3 rfl) ?_
  show Rn rom (d + 1) 177 (23, [some (vR 182)], [vI k3], (G0, M2)) out
  cases e
  exact R_end (Rn_iret hc rfl rfl (xretI rfl rfl)) hK
