/-! functions for methods, by program (wip/whole/gen/dec.py) -/
def f_178_L49 (M : xM) (c1 : Int) (c2 : Int) (s0 : Int) : Option (Int × xM) :=
  if wr s0 = 0 then
    some ((-1), M)
  else
    (f_140 M).bind (fun k3 =>
    (f_139 k3 (3 + c1)).bind (fun k4 =>
    gd (0 ≤ wr (3 + c1) ∧ wr (3 + c1) < 1376) (
    bnd (xset k3 183 (wr (3 + c1)).toNat (wr c2)) (fun M6 =>
    some (k4, M6)
    ))))
theorem t_178_L49 {rom : xRom} {d : Nat} {c1 : Int} {c2 : Int} {s0 : Int} {M : xM} {r : Int × xM} {out : Option xV × xH} (e : f_178_L49 M c1 c2 s0 = some r) (hK : (eIW out) r) : Rn rom (d + 1) 178 (49, [some (vR 182), some (vI c1), some (vI c2), none, none], [vI s0], (G0, M)) out := by
  have hc : xkall.getD 178 [] = xk_178 := rfl
  unfold f_178_L49 at e
  refine Rn_ms (σ' := (51, [some (vR 182), some (vI c1), some (vI c2), some (vI s0), none], [vI s0], (G0, M))) hc 2 rfl ?_
  refine R_ite e (fun b2 e => ?_) (fun b2 e => ?_)
  · refine Rn_ifF hc rfl rfl (by decide) (fun w => w b2) ?_
    refine Rn_ms (σ' := (55, [some (vR 182), some (vI c1), some (vI c2), some (vI s0), none], [vI (-1)], (G0, M))) hc 1 rfl ?_
    cases e
    exact R_end (Rn_iret hc rfl rfl (xretI rfl rfl)) hK
  · refine Rn_ifT (tgt := 56) hc rfl rfl (by decide) (fun w => b2 w) ?_
    refine Rn_ms (σ' := (57, [some (vR 182), some (vI c1), some (vI c2), some (vI s0), none], [vR 182], (G0, M))) hc 1 rfl ?_
    refine R_bind e (fun k3 hk3 e => ?_)
    refine Rn_cv hc rfl rfl (by decide) (ii := xi_140) rfl rfl rfl (tgc_182 : Tg _ = 11) (by decide) rfl (le := [some (vR 182), none]) rfl (v := none) (M' := k3) (t_140  (d := d + 0) hk3 rfl) ?_
    refine Rn_ms (σ' := (64, [some (vR 182), some (vI c1), some (vI c2), some (vI s0), none], [vI (3 + c1), vR 182], (G0, k3))) hc 4 rfl ?_
    refine R_bind e (fun k4 hk4 e => ?_)
    refine Rn_cv hc rfl rfl (by decide) (ii := xi_139) rfl rfl rfl (tgc_182 : Tg _ = 11) (by decide) rfl (le := [some (vR 182), some (vI (3 + c1))]) rfl (v := some (vI k4)) (M' := k3) (t_139  (d := d + 0) hk4 rfl) ?_
    refine Rn_ms (σ' := (70, [some (vR 182), some (vI c1), some (vI c2), some (vI s0), some (vI k4)], [vR 182], (G0, k3))) hc 2 rfl ?_
    refine Rn_getR hc rfl tgc_182 (by decide) rfl prc_182_0 ?_
    refine Rn_ms (σ' := (78, [some (vR 182), some (vI c1), some (vI c2), some (vI s0), some (vI k4)], [vL (wr c2), vI (3 + c1), vR 183], (G0, k3))) hc 5 rfl ?_
    refine R_gd e (fun g5 e => ?_)
    refine R_bnd e (fun M6 hM6 e => ?_)
    refine Rn_last' hM6 hc rfl rfl tgc_183 zsc_183 g5 rfl ?_
    refine Rn_ms (σ' := (81, [some (vR 182), some (vI c1), some (vI c2), some (vI s0), some (vI k4)], [vI k4], (G0, M6))) hc 1 rfl ?_
    cases e
    exact R_end (Rn_iret hc rfl rfl (xretI rfl rfl)) hK
def f_178_L48 (M : xM) (c1 : Int) (c2 : Int) : Option (Int × xM) :=
  f_178_L49 M c1 c2 0
theorem t_178_L48 {rom : xRom} {d : Nat} {c1 : Int} {c2 : Int} {M : xM} {r : Int × xM} {out : Option xV × xH} (e : f_178_L48 M c1 c2 = some r) (hK : (eIW out) r) : Rn rom (d + 1) 178 (48, [some (vR 182), some (vI c1), some (vI c2), none, none], [], (G0, M)) out := by
  have hc : xkall.getD 178 [] = xk_178 := rfl
  unfold f_178_L48 at e
  refine Rn_ms (σ' := (49, [some (vR 182), some (vI c1), some (vI c2), none, none], [vI 0], (G0, M))) hc 1 rfl ?_
  exact Rn_weak (xle_s (xle_s (xle_s (xle_s (xle_s xle_0))))) (t_178_L49  e hK)
/-- PedalLayersModel.set -/
def f_178 (M : xM) (a1 : Int) (a2 : Int) : Option (Int × xM) :=
  if wr a1 = 0 then
    f_178_L49 M a1 a2 (f_138 a2 2 16)
  else
    if wr a1 = 1 then
      f_178_L49 M a1 a2 (f_138 a2 0 8)
    else
      if wr a1 = 2 then
        if wr (f_138 a2 0 100) = 0 then
          f_178_L48 M a1 a2
        else
          f_178_L49 M a1 a2 1
      else
        f_178_L48 M a1 a2
theorem t_178 {rom : xRom} {d : Nat} {M : xM} {a1 : Int} {a2 : Int} {r : Int × xM} {out : Option xV × xH} (e : f_178 M a1 a2 = some r) (hK : eIW out r) : Rn rom (d + 1) 178 (0, [some (vR 182), some (vI a1), some (vI a2), none, none], [], (G0, M)) out := by
  have hc : xkall.getD 178 [] = xk_178 := rfl
  unfold f_178 at e
  refine Rn_ms (σ' := (1, [some (vR 182), some (vI a1), some (vI a2), none, none], [vI a1], (G0, M))) hc 1 rfl ?_
  refine R_ite e (fun b1 e => ?_) (fun b1 e => ?_)
  · refine Rn_ifF hc rfl rfl (by decide) (fun w => w b1) ?_
    refine Rn_ms (σ' := (8, [some (vR 182), some (vI a1), some (vI a2), none, none], [vI 16, vI 2, vI a2], (G0, M))) hc 3 rfl ?_
    refine Rn_cs hc rfl rfl (by decide) (ii := xi_138) rfl rfl rfl (le := [some (vI a2), some (vI 2), some (vI 16)]) rfl (v := some (vI (f_138 a2 2 16))) (M' := M) (t_138  (d := d + 0) rfl rfl) ?_
    refine Rn_ms (σ' := (49, [some (vR 182), some (vI a1), some (vI a2), none, none], [vI (f_138 a2 2 16)], (G0, M))) hc 1 rfl ?_
    exact Rn_weak (xle_s (xle_s (xle_s (xle_s (xle_s xle_0))))) (t_178_L49  e hK)
  · refine Rn_ifT (tgt := 14) hc rfl rfl (by decide) (fun w => b1 w) ?_
    refine Rn_ms (σ' := (16, [some (vR 182), some (vI a1), some (vI a2), none, none], [vI 1, vI a1], (G0, M))) hc 2 rfl ?_
    refine R_ite e (fun b7 e => ?_) (fun b7 e => ?_)
    · refine Rn_icF hc rfl rfl (by decide) (fun w => w b7) ?_
      refine Rn_ms (σ' := (23, [some (vR 182), some (vI a1), some (vI a2), none, none], [vI 8, vI 0, vI a2], (G0, M))) hc 3 rfl ?_
      refine Rn_cs hc rfl rfl (by decide) (ii := xi_138) rfl rfl rfl (le := [some (vI a2), some (vI 0), some (vI 8)]) rfl (v := some (vI (f_138 a2 0 8))) (M' := M) (t_138  (d := d + 0) rfl rfl) ?_
      refine Rn_ms (σ' := (49, [some (vR 182), some (vI a1), some (vI a2), none, none], [vI (f_138 a2 0 8)], (G0, M))) hc 1 rfl ?_
      exact Rn_weak (xle_s (xle_s (xle_s (xle_s (xle_s xle_0))))) (t_178_L49  e hK)
    · refine Rn_icT (tgt := 29) hc rfl rfl (by decide) (fun w => b7 w) ?_
      refine Rn_ms (σ' := (31, [some (vR 182), some (vI a1), some (vI a2), none, none], [vI 2, vI a1], (G0, M))) hc 2 rfl ?_
      refine R_ite e (fun b8 e => ?_) (fun b8 e => ?_)
      · refine Rn_icF hc rfl rfl (by decide) (fun w => w b8) ?_
        refine Rn_ms (σ' := (38, [some (vR 182), some (vI a1), some (vI a2), none, none], [vI 100, vI 0, vI a2], (G0, M))) hc 3 rfl ?_
        refine Rn_cs hc rfl rfl (by decide) (ii := xi_138) rfl rfl rfl (le := [some (vI a2), some (vI 0), some (vI 100)]) rfl (v := some (vI (f_138 a2 0 100))) (M' := M) (t_138  (d := d + 0) rfl rfl) ?_
        show Rn rom (d + 1) 178 (41, [some (vR 182), some (vI a1), some (vI a2), none, none], [vI (f_138 a2 0 100)], (G0, M)) out
        refine R_ite e (fun b9 e => ?_) (fun b9 e => ?_)
        · refine Rn_ifT (tgt := 48) hc rfl rfl (by decide) b9 ?_
          show Rn rom (d + 1) 178 (48, [some (vR 182), some (vI a1), some (vI a2), none, none], [], (G0, M)) out
          exact Rn_weak (xle_s (xle_s (xle_s (xle_s (xle_s xle_0))))) (t_178_L48  e hK)
        · refine Rn_ifF hc rfl rfl (by decide) b9 ?_
          refine Rn_ms (σ' := (49, [some (vR 182), some (vI a1), some (vI a2), none, none], [vI 1], (G0, M))) hc 2 rfl ?_
          exact Rn_weak (xle_s (xle_s (xle_s (xle_s (xle_s xle_0))))) (t_178_L49  e hK)
      · refine Rn_icT (tgt := 48) hc rfl rfl (by decide) (fun w => b8 w) ?_
        show Rn rom (d + 1) 178 (48, [some (vR 182), some (vI a1), some (vI a2), none, none], [], (G0, M)) out
        exact Rn_weak (xle_s (xle_s (xle_s (xle_s (xle_s xle_0))))) (t_178_L48  e hK)
/-- PedalLayersModel.append -/
def f_179 (M : xM) (a1 : Int) : Option (Int × xM) :=
  if wr (f_138 a1 33 126) = 0 then
    some ((-1), M)
  else
    if wr (M 182 6) = 60 then
      some ((-3), M)
    else
      gd (0 ≤ wr (M 182 6) ∧ wr (M 182 6) < 60) (
      bnd (xset M 186 (wr (M 182 6)).toNat a1) (fun M4 =>
      bnd (xset M4 182 6 ((M4 182 6) + 1)) (fun M5 =>
      some ((M5 182 6), M5)
      )))
theorem t_179 {rom : xRom} {d : Nat} {M : xM} {a1 : Int} {r : Int × xM} {out : Option xV × xH} (e : f_179 M a1 = some r) (hK : eIW out r) : Rn rom (d + 1) 179 (0, [some (vR 182), some (vI a1)], [], (G0, M)) out := by
  have hc : xkall.getD 179 [] = xk_179 := rfl
  unfold f_179 at e
  refine Rn_ms (σ' := (5, [some (vR 182), some (vI a1)], [vI 126, vI 33, vI a1], (G0, M))) hc 3 rfl ?_
  refine Rn_cs hc rfl rfl (by decide) (ii := xi_138) rfl rfl rfl (le := [some (vI a1), some (vI 33), some (vI 126)]) rfl (v := some (vI (f_138 a1 33 126))) (M' := M) (t_138  (d := d + 0) rfl rfl) ?_
  show Rn rom (d + 1) 179 (8, [some (vR 182), some (vI a1)], [vI (f_138 a1 33 126)], (G0, M)) out
  refine R_ite e (fun b1 e => ?_) (fun b1 e => ?_)
  · refine Rn_ifF hc rfl rfl (by decide) (fun w => w b1) ?_
    refine Rn_ms (σ' := (12, [some (vR 182), some (vI a1)], [vI (-1)], (G0, M))) hc 1 rfl ?_
    cases e
    exact R_end (Rn_iret hc rfl rfl (xretI rfl rfl)) hK
  · refine Rn_ifT (tgt := 13) hc rfl rfl (by decide) (fun w => b1 w) ?_
    refine Rn_ms (σ' := (14, [some (vR 182), some (vI a1)], [vR 182], (G0, M))) hc 1 rfl ?_
    refine Rn_getI hc rfl tgc_182 (by decide) (by decide) ?_
    refine Rn_ms (σ' := (19, [some (vR 182), some (vI a1)], [vI 60, vI (M 182 6)], (G0, M))) hc 1 rfl ?_
    refine R_ite e (fun b2 e => ?_) (fun b2 e => ?_)
    · refine Rn_icF hc rfl rfl (by decide) (fun w => w b2) ?_
      refine Rn_ms (σ' := (24, [some (vR 182), some (vI a1)], [vI (-3)], (G0, M))) hc 1 rfl ?_
      cases e
      exact R_end (Rn_iret hc rfl rfl (xretI rfl rfl)) hK
    · refine Rn_icT (tgt := 25) hc rfl rfl (by decide) (fun w => b2 w) ?_
      refine Rn_ms (σ' := (26, [some (vR 182), some (vI a1)], [vR 182], (G0, M))) hc 1 rfl ?_
      refine Rn_getR hc rfl tgc_182 (by decide) rfl prc_182_5 ?_
      refine Rn_ms (σ' := (30, [some (vR 182), some (vI a1)], [vR 182, vR 186], (G0, M))) hc 1 rfl ?_
      refine Rn_getI hc rfl tgc_182 (by decide) (by decide) ?_
      refine Rn_ms (σ' := (34, [some (vR 182), some (vI a1)], [vI a1, vI (M 182 6), vR 186], (G0, M))) hc 1 rfl ?_
      refine R_gd e (fun g3 e => ?_)
      refine R_bnd e (fun M4 hM4 e => ?_)
      refine Rn_iast' hM4 hc rfl rfl tgc_186 zsc_186 g3 rfl ?_
      refine Rn_ms (σ' := (37, [some (vR 182), some (vI a1)], [vR 182, vR 182], (G0, M4))) hc 2 rfl ?_
      refine Rn_getI hc rfl tgc_182 (by decide) (by decide) ?_
      refine Rn_ms (σ' := (42, [some (vR 182), some (vI a1)], [vI ((M4 182 6) + 1), vR 182], (G0, M4))) hc 2 rfl ?_
      refine R_bnd e (fun M5 hM5 e => ?_)
      refine Rn_putI' hM5 hc rfl tgc_182 (by decide) (Or.inl rfl) ?_
      refine Rn_ms (σ' := (46, [some (vR 182), some (vI a1)], [vR 182], (G0, M5))) hc 1 rfl ?_
      refine Rn_getI hc rfl tgc_182 (by decide) (by decide) ?_
      show Rn rom (d + 1) 179 (49, [some (vR 182), some (vI a1)], [vI (M5 182 6)], (G0, M5)) out
      cases e
      exact R_end (Rn_iret hc rfl rfl (xretI rfl rfl)) hK
/-- PedalLayersModel.erase -/
def f_180 (M : xM) : Int × xM :=
  bnd (xset M 182 6 0) (fun M1 =>
  ((M 182 6), M1)
  )
theorem t_180 {rom : xRom} {d : Nat} {M : xM}  {r : Int × xM} {out : Option xV × xH} (e : f_180 M = r) (hK : eIW out r) : Rn rom (d + 0) 180 (0, [some (vR 182), none], [], (G0, M)) out := by
  have hc : xkall.getD 180 [] = xk_180 := rfl
  unfold f_180 at e
  refine Rn_ms (σ' := (1, [some (vR 182), none], [vR 182], (G0, M))) hc 1 rfl ?_
  refine Rn_getI hc rfl tgc_182 (by decide) (by decide) ?_
  refine Rn_ms (σ' := (7, [some (vR 182), some (vI (M 182 6))], [vI 0, vR 182], (G0, M))) hc 3 rfl ?_
  refine R_bnd e (fun M1 hM1 e => ?_)
  refine Rn_putI' hM1 hc rfl tgc_182 (by decide) (Or.inl rfl) ?_
  refine Rn_ms (σ' := (11, [some (vR 182), some (vI (M 182 6))], [vI (M 182 6)], (G0, M1))) hc 1 rfl ?_
  cases e
  exact R_end (Rn_iret hc rfl rfl (xretI rfl rfl)) hK
/-- PedalLayersModel.sign -/
def f_181 (M : xM) (a1 : Int) : Option (Int) :=
  if wr (M 182 6) ≤ wr a1 then
    some (-1)
  else
    gd (0 ≤ wr a1 ∧ wr a1 < 60) (
    some (M 186 (wr a1).toNat)
    )
theorem t_181 {rom : xRom} {d : Nat} {M : xM} {a1 : Int} {r : Int} {out : Option xV × xH} (e : f_181 M a1 = some r) (hK : eI M out r) : Rn rom (d + 0) 181 (0, [some (vR 182), some (vI a1)], [], (G0, M)) out := by
  have hc : xkall.getD 181 [] = xk_181 := rfl
  unfold f_181 at e
  refine Rn_ms (σ' := (2, [some (vR 182), some (vI a1)], [vR 182, vI a1], (G0, M))) hc 2 rfl ?_
  refine Rn_getI hc rfl tgc_182 (by decide) (by decide) ?_
  show Rn rom (d + 0) 181 (5, [some (vR 182), some (vI a1)], [vI (M 182 6), vI a1], (G0, M)) out
  refine R_ite e (fun b1 e => ?_) (fun b1 e => ?_)
  · refine Rn_icT (tgt := 17) hc rfl rfl (by decide) b1 ?_
    refine Rn_ms (σ' := (18, [some (vR 182), some (vI a1)], [vI (-1)], (G0, M))) hc 1 rfl ?_
    cases e
    exact R_end (Rn_iret hc rfl rfl (xretI rfl rfl)) hK
  · refine Rn_icF hc rfl rfl (by decide) b1 ?_
    refine Rn_ms (σ' := (9, [some (vR 182), some (vI a1)], [vR 182], (G0, M))) hc 1 rfl ?_
    refine Rn_getR hc rfl tgc_182 (by decide) rfl prc_182_5 ?_
    refine Rn_ms (σ' := (13, [some (vR 182), some (vI a1)], [vI a1, vR 186], (G0, M))) hc 1 rfl ?_
    refine R_gd e (fun g2 e => ?_)
    refine Rn_iald hc rfl rfl tgc_186 zsc_186 g2 rfl ?_
    refine Rn_ms (σ' := (18, [some (vR 182), some (vI a1)], [vI (M 186 (wr a1).toNat)], (G0, M))) hc 1 rfl ?_
    cases e
    exact R_end (Rn_iret hc rfl rfl (xretI rfl rfl)) hK
/-- PedalLayersModel.digit -/
def f_182 (M : xM) (a1 : Int) : Option (Int) :=
  (f_181 M a1).bind (fun k1 =>
  if wr (f_138 k1 48 57) = 0 then
    some (-1)
  else
    (f_181 M a1).bind (fun k3 =>
    some (k3 - 48)
    )
  )
theorem t_182 {rom : xRom} {d : Nat} {M : xM} {a1 : Int} {r : Int} {out : Option xV × xH} (e : f_182 M a1 = some r) (hK : eI M out r) : Rn rom (d + 1) 182 (0, [some (vR 182), some (vI a1)], [], (G0, M)) out := by
  have hc : xkall.getD 182 [] = xk_182 := rfl
  unfold f_182 at e
  refine Rn_ms (σ' := (2, [some (vR 182), some (vI a1)], [vI a1, vR 182], (G0, M))) hc 2 rfl ?_
  refine R_bind e (fun k1 hk1 e => ?_)
  refine Rn_cv hc rfl rfl (by decide) (ii := xi_181) rfl rfl rfl (tgc_182 : Tg _ = 11) (by decide) rfl (le := [some (vR 182), some (vI a1)]) rfl (v := some (vI k1)) (M' := M) (t_181  (d := d + 0) hk1 rfl) ?_
  refine Rn_ms (σ' := (9, [some (vR 182), some (vI a1)], [vI 57, vI 48, vI k1], (G0, M))) hc 2 rfl ?_
  refine Rn_cs hc rfl rfl (by decide) (ii := xi_138) rfl rfl rfl (le := [some (vI k1), some (vI 48), some (vI 57)]) rfl (v := some (vI (f_138 k1 48 57))) (M' := M) (t_138  (d := d + 0) rfl rfl) ?_
  show Rn rom (d + 1) 182 (12, [some (vR 182), some (vI a1)], [vI (f_138 k1 48 57)], (G0, M)) out
  refine R_ite e (fun b2 e => ?_) (fun b2 e => ?_)
  · refine Rn_ifT (tgt := 26) hc rfl rfl (by decide) b2 ?_
    refine Rn_ms (σ' := (27, [some (vR 182), some (vI a1)], [vI (-1)], (G0, M))) hc 1 rfl ?_
    cases e
    exact R_end (Rn_iret hc rfl rfl (xretI rfl rfl)) hK
  · refine Rn_ifF hc rfl rfl (by decide) b2 ?_
    refine Rn_ms (σ' := (17, [some (vR 182), some (vI a1)], [vI a1, vR 182], (G0, M))) hc 2 rfl ?_
    refine R_bind e (fun k3 hk3 e => ?_)
    refine Rn_cv hc rfl rfl (by decide) (ii := xi_181) rfl rfl rfl (tgc_182 : Tg _ = 11) (by decide) rfl (le := [some (vR 182), some (vI a1)]) rfl (v := some (vI k3)) (M' := M) (t_181  (d := d + 0) hk3 rfl) ?_
    refine Rn_ms (σ' := (27, [some (vR 182), some (vI a1)], [vI (k3 - 48)], (G0, M))) hc 3 rfl ?_
    cases e
    exact R_end (Rn_iret hc rfl rfl (xretI rfl rfl)) hK
def f_183_L28b (M : xM) (c3 : Int) (v4 : Int) (v5 : Int) : Option ((Int × Int) ⊕ (Int)) :=
  if wr v4 ≤ 0 then
    some (.inr (v5))
  else
    (f_182 M v5).bind (fun k5 =>
    if wr k5 < 0 then
      some (.inr (v5))
    else
      (f_182 M v5).bind (fun k7 =>
      if wr c3 < wr ((10 * v4) + k7) then
        some (.inr (v5))
      else
        (f_182 M v5).bind (fun k9 =>
        some (.inl (((10 * v4) + k9), (v5 + 1)))
        )
      )
    )
theorem t_183_L28b {rom : xRom} {d : Nat} {c3 : Int} {v4 : Int} {v5 : Int} {M : xM} {r : (Int × Int) ⊕ (Int)} {out : Option xV × xH} (e : f_183_L28b M c3 v4 v5 = some r) (hK : ((Sum.elim (fun s => Rn rom (d + 2) 183 (28, [some (vR 182), none, none, some (vI c3), some (vI s.1), some (vI s.2)], [], (G0, M)) out) (eI M out))) r) : Rn rom (d + 2) 183 (28, [some (vR 182), none, none, some (vI c3), some (vI v4), some (vI v5)], [], (G0, M)) out := by
  have hc : xkall.getD 183 [] = xk_183 := rfl
  unfold f_183_L28b at e
  refine Rn_ms (σ' := (30, [some (vR 182), none, none, some (vI c3), some (vI v4), some (vI v5)], [vI v4], (G0, M))) hc 1 rfl ?_
  refine R_ite e (fun b4 e => ?_) (fun b4 e => ?_)
  · refine Rn_ifT (tgt := 78) hc rfl rfl (by decide) b4 ?_
    refine Rn_ms (σ' := (80, [some (vR 182), none, none, some (vI c3), some (vI v4), some (vI v5)], [vI v5], (G0, M))) hc 1 rfl ?_
    cases e
    exact R_end (Rn_iret hc rfl rfl (xretI rfl rfl)) hK
  · refine Rn_ifF hc rfl rfl (by decide) b4 ?_
    refine Rn_ms (σ' := (36, [some (vR 182), none, none, some (vI c3), some (vI v4), some (vI v5)], [vI v5, vR 182], (G0, M))) hc 2 rfl ?_
    refine R_bind e (fun k5 hk5 e => ?_)
    refine Rn_cv hc rfl rfl (by decide) (ii := xi_182) rfl rfl rfl (tgc_182 : Tg _ = 11) (by decide) rfl (le := [some (vR 182), some (vI v5)]) rfl (v := some (vI k5)) (M' := M) (t_182  (d := d + 0) hk5 rfl) ?_
    show Rn rom (d + 2) 183 (39, [some (vR 182), none, none, some (vI c3), some (vI v4), some (vI v5)], [vI k5], (G0, M)) out
    refine R_ite e (fun b6 e => ?_) (fun b6 e => ?_)
    · refine Rn_ifT (tgt := 78) hc rfl rfl (by decide) b6 ?_
      refine Rn_ms (σ' := (80, [some (vR 182), none, none, some (vI c3), some (vI v4), some (vI v5)], [vI v5], (G0, M))) hc 1 rfl ?_
      cases e
      exact R_end (Rn_iret hc rfl rfl (xretI rfl rfl)) hK
    · refine Rn_ifF hc rfl rfl (by decide) b6 ?_
      refine Rn_ms (σ' := (50, [some (vR 182), none, none, some (vI c3), some (vI v4), some (vI v5)], [vI v5, vR 182, vI (10 * v4)], (G0, M))) hc 5 rfl ?_
      refine R_bind e (fun k7 hk7 e => ?_)
      refine Rn_cv hc rfl rfl (by decide) (ii := xi_182) rfl rfl rfl (tgc_182 : Tg _ = 11) (by decide) rfl (le := [some (vR 182), some (vI v5)]) rfl (v := some (vI k7)) (M' := M) (t_182  (d := d + 0) hk7 rfl) ?_
      refine Rn_ms (σ' := (55, [some (vR 182), none, none, some (vI c3), some (vI v4), some (vI v5)], [vI c3, vI ((10 * v4) + k7)], (G0, M))) hc 2 rfl ?_
      refine R_ite e (fun b8 e => ?_) (fun b8 e => ?_)
      · refine Rn_icT (tgt := 78) hc rfl rfl (by decide) b8 ?_
        refine Rn_ms (σ' := (80, [some (vR 182), none, none, some (vI c3), some (vI v4), some (vI v5)], [vI v5], (G0, M))) hc 1 rfl ?_
        cases e
        exact R_end (Rn_iret hc rfl rfl (xretI rfl rfl)) hK
      · refine Rn_icF hc rfl rfl (by decide) b8 ?_
        refine Rn_ms (σ' := (66, [some (vR 182), none, none, some (vI c3), some (vI v4), some (vI v5)], [vI v5, vR 182, vI (10 * v4)], (G0, M))) hc 5 rfl ?_
        refine R_bind e (fun k9 hk9 e => ?_)
        refine Rn_cv hc rfl rfl (by decide) (ii := xi_182) rfl rfl rfl (tgc_182 : Tg _ = 11) (by decide) rfl (le := [some (vR 182), some (vI v5)]) rfl (v := some (vI k9)) (M' := M) (t_182  (d := d + 0) hk9 rfl) ?_
        refine Rn_ms (σ' := (28, [some (vR 182), none, none, some (vI c3), some (vI ((10 * v4) + k9)), some (vI (v5 + 1))], [], (G0, M))) hc 4 rfl ?_
        cases e
        exact Rn_weak (xle_s (xle_s (xle_s (xle_s (xle_s (xle_s xle_0)))))) hK
def f_183_L28 (M : xM) (c3 : Int) (s : Int × Int) : Option (Int) := loop NF (fun s => f_183_L28b M c3 s.1 s.2) s
theorem t_183_L28 {rom : xRom} {d : Nat} {c3 : Int} {M : xM} {s : Int × Int} {r : Int} {out : Option xV × xH} (e : f_183_L28 M c3 s = some r) (hK : (eI M out) r) : Rn rom (d + 2) 183 (28, [some (vR 182), none, none, some (vI c3), some (vI s.1), some (vI s.2)], [], (G0, M)) out := by
  unfold f_183_L28 at e
  revert e hK
  exact R_loop (b := fun s => f_183_L28b M c3 s.1 s.2) (G := fun s => Rn rom (d + 2) 183 (28, [some (vR 182), none, none, some (vI c3), some (vI s.1), some (vI s.2)], [], (G0, M)) out) (K := eI M out) (fun s r e hK => t_183_L28b  e hK) NF s r
/-- PedalLayersModel.numberEnd -/
def f_183 (M : xM) (a1 : Int) (a2 : Int) (a3 : Int) : Option (Int) :=
  if 0 ≤ wr a1 then
    (f_182 M a1).bind (fun k2 =>
    if wr a2 ≤ wr k2 then
      f_183_L28 M a3 (k2, (a1 + 1))
    else
      some ((-1) - a1)
    )
  else
    some (a1)
theorem t_183 {rom : xRom} {d : Nat} {M : xM} {a1 : Int} {a2 : Int} {a3 : Int} {r : Int} {out : Option xV × xH} (e : f_183 M a1 a2 a3 = some r) (hK : eI M out r) : Rn rom (d + 2) 183 (0, [some (vR 182), some (vI a1), some (vI a2), some (vI a3), none, none], [], (G0, M)) out := by
  have hc : xkall.getD 183 [] = xk_183 := rfl
  unfold f_183 at e
  refine Rn_ms (σ' := (1, [some (vR 182), some (vI a1), some (vI a2), some (vI a3), none, none], [vI a1], (G0, M))) hc 1 rfl ?_
  refine R_ite e (fun b1 e => ?_) (fun b1 e => ?_)
  · refine Rn_ifT (tgt := 6) hc rfl rfl (by decide) b1 ?_
    refine Rn_ms (σ' := (8, [some (vR 182), some (vI a1), some (vI a2), some (vI a3), none, none], [vI a1, vR 182], (G0, M))) hc 2 rfl ?_
    refine R_bind e (fun k2 hk2 e => ?_)
    refine Rn_cv hc rfl rfl (by decide) (ii := xi_182) rfl rfl rfl (tgc_182 : Tg _ = 11) (by decide) rfl (le := [some (vR 182), some (vI a1)]) rfl (v := some (vI k2)) (M' := M) (t_182  (d := d + 0) hk2 rfl) ?_
    refine Rn_ms (σ' := (16, [some (vR 182), some (vI a1), some (vI a2), some (vI a3), some (vI k2), none], [vI a2, vI k2], (G0, M))) hc 3 rfl ?_
    refine R_ite e (fun b3 e => ?_) (fun b3 e => ?_)
    · refine Rn_icT (tgt := 23) hc rfl rfl (by decide) b3 ?_
      refine Rn_ms (σ' := (28, [some (vR 182), some (vI a1), some (vI a2), some (vI a3), some (vI k2), some (vI (a1 + 1))], [], (G0, M))) hc 4 rfl ?_
      exact Rn_weak (xle_s (xle_n (xle_n (xle_s (xle_s (xle_s xle_0)))))) (t_183_L28  e hK)
    · refine Rn_icF hc rfl rfl (by decide) b3 ?_
      refine Rn_ms (σ' := (22, [some (vR 182), some (vI a1), some (vI a2), some (vI a3), some (vI k2), none], [vI ((-1) - a1)], (G0, M))) hc 3 rfl ?_
      cases e
      exact R_end (Rn_iret hc rfl rfl (xretI rfl rfl)) hK
  · refine Rn_ifF hc rfl rfl (by decide) b1 ?_
    refine Rn_ms (σ' := (5, [some (vR 182), some (vI a1), some (vI a2), some (vI a3), none, none], [vI a1], (G0, M))) hc 1 rfl ?_
    cases e
    exact R_end (Rn_iret hc rfl rfl (xretI rfl rfl)) hK
def f_184_L4b (M : xM) (v2 : Int) (v3 : Int) : Option ((Int × Int) ⊕ (Int)) :=
  (f_182 M v3).bind (fun k1 =>
  if wr k1 < 0 then
    some (.inr (v2))
  else
    (f_182 M v3).bind (fun k3 =>
    some (.inl (((10 * v2) + k3), (v3 + 1)))
    )
  )
theorem t_184_L4b {rom : xRom} {d : Nat} {v2 : Int} {v3 : Int} {M : xM} {r : (Int × Int) ⊕ (Int)} {out : Option xV × xH} (e : f_184_L4b M v2 v3 = some r) (hK : ((Sum.elim (fun s => Rn rom (d + 2) 184 (4, [some (vR 182), none, some (vI s.1), some (vI s.2)], [], (G0, M)) out) (eI M out))) r) : Rn rom (d + 2) 184 (4, [some (vR 182), none, some (vI v2), some (vI v3)], [], (G0, M)) out := by
  have hc : xkall.getD 184 [] = xk_184 := rfl
  unfold f_184_L4b at e
  refine Rn_ms (σ' := (6, [some (vR 182), none, some (vI v2), some (vI v3)], [vI v3, vR 182], (G0, M))) hc 2 rfl ?_
  refine R_bind e (fun k1 hk1 e => ?_)
  refine Rn_cv hc rfl rfl (by decide) (ii := xi_182) rfl rfl rfl (tgc_182 : Tg _ = 11) (by decide) rfl (le := [some (vR 182), some (vI v3)]) rfl (v := some (vI k1)) (M' := M) (t_182  (d := d + 0) hk1 rfl) ?_
  show Rn rom (d + 2) 184 (9, [some (vR 182), none, some (vI v2), some (vI v3)], [vI k1], (G0, M)) out
  refine R_ite e (fun b2 e => ?_) (fun b2 e => ?_)
  · refine Rn_ifT (tgt := 29) hc rfl rfl (by decide) b2 ?_
    refine Rn_ms (σ' := (30, [some (vR 182), none, some (vI v2), some (vI v3)], [vI v2], (G0, M))) hc 1 rfl ?_
    cases e
    exact R_end (Rn_iret hc rfl rfl (xretI rfl rfl)) hK
  · refine Rn_ifF hc rfl rfl (by decide) b2 ?_
    refine Rn_ms (σ' := (18, [some (vR 182), none, some (vI v2), some (vI v3)], [vI v3, vR 182, vI (10 * v2)], (G0, M))) hc 5 rfl ?_
    refine R_bind e (fun k3 hk3 e => ?_)
    refine Rn_cv hc rfl rfl (by decide) (ii := xi_182) rfl rfl rfl (tgc_182 : Tg _ = 11) (by decide) rfl (le := [some (vR 182), some (vI v3)]) rfl (v := some (vI k3)) (M' := M) (t_182  (d := d + 0) hk3 rfl) ?_
    refine Rn_ms (σ' := (4, [some (vR 182), none, some (vI ((10 * v2) + k3)), some (vI (v3 + 1))], [], (G0, M))) hc 4 rfl ?_
    cases e
    exact Rn_weak (xle_s (xle_s (xle_s (xle_s xle_0)))) hK
def f_184_L4 (M : xM) (s : Int × Int) : Option (Int) := loop NF (fun s => f_184_L4b M s.1 s.2) s
theorem t_184_L4 {rom : xRom} {d : Nat}  {M : xM} {s : Int × Int} {r : Int} {out : Option xV × xH} (e : f_184_L4 M s = some r) (hK : (eI M out) r) : Rn rom (d + 2) 184 (4, [some (vR 182), none, some (vI s.1), some (vI s.2)], [], (G0, M)) out := by
  unfold f_184_L4 at e
  revert e hK
  exact R_loop (b := fun s => f_184_L4b M s.1 s.2) (G := fun s => Rn rom (d + 2) 184 (4, [some (vR 182), none, some (vI s.1), some (vI s.2)], [], (G0, M)) out) (K := eI M out) (fun s r e hK => t_184_L4b  e hK) NF s r
/-- PedalLayersModel.numberAt -/
def f_184 (M : xM) (a1 : Int) : Option (Int) :=
  f_184_L4 M (0, a1)
theorem t_184 {rom : xRom} {d : Nat} {M : xM} {a1 : Int} {r : Int} {out : Option xV × xH} (e : f_184 M a1 = some r) (hK : eI M out r) : Rn rom (d + 2) 184 (0, [some (vR 182), some (vI a1), none, none], [], (G0, M)) out := by
  have hc : xkall.getD 184 [] = xk_184 := rfl
  unfold f_184 at e
  refine Rn_ms (σ' := (4, [some (vR 182), some (vI a1), some (vI 0), some (vI a1)], [], (G0, M))) hc 4 rfl ?_
  exact Rn_weak (xle_s (xle_n (xle_s (xle_s xle_0)))) (t_184_L4  e hK)
/-- PedalLayersModel.behind -/
def f_185 (M : xM) (a1 : Int) (a2 : Int) : Option (Int) :=
  if 0 ≤ wr a1 then
    (f_181 M a1).bind (fun k2 =>
    if wr k2 = wr a2 then
      some (a1 + 1)
    else
      some ((-1) - a1)
    )
  else
    some (a1)
theorem t_185 {rom : xRom} {d : Nat} {M : xM} {a1 : Int} {a2 : Int} {r : Int} {out : Option xV × xH} (e : f_185 M a1 a2 = some r) (hK : eI M out r) : Rn rom (d + 1) 185 (0, [some (vR 182), some (vI a1), some (vI a2)], [], (G0, M)) out := by
  have hc : xkall.getD 185 [] = xk_185 := rfl
  unfold f_185 at e
  refine Rn_ms (σ' := (1, [some (vR 182), some (vI a1), some (vI a2)], [vI a1], (G0, M))) hc 1 rfl ?_
  refine R_ite e (fun b1 e => ?_) (fun b1 e => ?_)
  · refine Rn_ifT (tgt := 8) hc rfl rfl (by decide) b1 ?_
    refine Rn_ms (σ' := (10, [some (vR 182), some (vI a1), some (vI a2)], [vI a1, vR 182], (G0, M))) hc 2 rfl ?_
    refine R_bind e (fun k2 hk2 e => ?_)
    refine Rn_cv hc rfl rfl (by decide) (ii := xi_181) rfl rfl rfl (tgc_182 : Tg _ = 11) (by decide) rfl (le := [some (vR 182), some (vI a1)]) rfl (v := some (vI k2)) (M' := M) (t_181  (d := d + 0) hk2 rfl) ?_
    refine Rn_ms (σ' := (14, [some (vR 182), some (vI a1), some (vI a2)], [vI a2, vI k2], (G0, M))) hc 1 rfl ?_
    refine R_ite e (fun b3 e => ?_) (fun b3 e => ?_)
    · refine Rn_icF hc rfl rfl (by decide) (fun w => w b3) ?_
      refine Rn_ms (σ' := (26, [some (vR 182), some (vI a1), some (vI a2)], [vI (a1 + 1)], (G0, M))) hc 4 rfl ?_
      cases e
      exact R_end (Rn_iret hc rfl rfl (xretI rfl rfl)) hK
    · refine Rn_icT (tgt := 23) hc rfl rfl (by decide) (fun w => b3 w) ?_
      refine Rn_ms (σ' := (26, [some (vR 182), some (vI a1), some (vI a2)], [vI ((-1) - a1)], (G0, M))) hc 3 rfl ?_
      cases e
      exact R_end (Rn_iret hc rfl rfl (xretI rfl rfl)) hK
  · refine Rn_ifF hc rfl rfl (by decide) b1 ?_
    refine Rn_ms (σ' := (26, [some (vR 182), some (vI a1), some (vI a2)], [vI a1], (G0, M))) hc 2 rfl ?_
    cases e
    exact R_end (Rn_iret hc rfl rfl (xretI rfl rfl)) hK
/-- PedalLayersModel.orderEnd -/
def f_186 (M : xM) (a1 : Int) : Option (Int) :=
  (f_181 M a1).bind (fun k1 =>
  if wr k1 = 104 then
    (f_183 M (a1 + 1) 0 99).bind (fun k3 =>
    (f_185 M k3 46).bind (fun k4 =>
    (f_183 M k4 0 999).bind (fun k5 =>
    some (k5)
    )))
  else
  if wr k1 = 105 then
    some ((-1) - a1)
  else
  if wr k1 = 106 then
    some ((-1) - a1)
  else
  if wr k1 = 107 then
    some ((-1) - a1)
  else
  if wr k1 = 108 then
    some ((-1) - a1)
  else
  if wr k1 = 109 then
    some ((-1) - a1)
  else
  if wr k1 = 110 then
    some ((-1) - a1)
  else
  if wr k1 = 111 then
    some ((-1) - a1)
  else
  if wr k1 = 112 then
    some (a1 + 1)
  else
  if wr k1 = 113 then
    some ((-1) - a1)
  else
  if wr k1 = 114 then
    some ((-1) - a1)
  else
  if wr k1 = 115 then
    some (a1 + 1)
  else
  if wr k1 = 116 then
    (f_183 M (a1 + 1) 1 99).bind (fun k18 =>
    some (k18)
    )
  else
  if wr k1 = 117 then
    some ((-1) - a1)
  else
  if wr k1 = 118 then
    some (a1 + 1)
  else
  if wr k1 = 119 then
    some ((-1) - a1)
  else
  if wr k1 = 120 then
    some (a1 + 1)
  else
  if wr k1 = 121 then
    some (a1 + 1)
  else
  some ((-1) - a1)
  )
theorem t_186 {rom : xRom} {d : Nat} {M : xM} {a1 : Int} {r : Int} {out : Option xV × xH} (e : f_186 M a1 = some r) (hK : eI M out r) : Rn rom (d + 3) 186 (0, [some (vR 182), some (vI a1)], [], (G0, M)) out := by
  have hc : xkall.getD 186 [] = xk_186 := rfl
  unfold f_186 at e
  refine Rn_ms (σ' := (2, [some (vR 182), some (vI a1)], [vI a1, vR 182], (G0, M))) hc 2 rfl ?_
  refine R_bind e (fun k1 hk1 e => ?_)
  refine Rn_cv hc rfl rfl (by decide) (ii := xi_181) rfl rfl rfl (tgc_182 : Tg _ = 11) (by decide) rfl (le := [some (vR 182), some (vI a1)]) rfl (v := some (vI k1)) (M' := M) (t_181  (d := d + 2) hk1 rfl) ?_
  show Rn rom (d + 3) 186 (5, [some (vR 182), some (vI a1)], [vI k1], (G0, M)) out
  refine R_ite e (fun b2 e => ?_) (fun b2 e => ?_)
  · refine Rn_tsw (off := 91) (tgt := 96) hc rfl rfl (xsw_at b2 (by decide) (by decide) (by decide) rfl) rfl ?_
    refine Rn_ms (σ' := (105, [some (vR 182), some (vI a1)], [vI 99, vI 0, vI (a1 + 1), vR 182, vR 182, vR 182], (G0, M))) hc 8 rfl ?_
    refine R_bind e (fun k3 hk3 e => ?_)
    refine Rn_cv hc rfl rfl (by decide) (ii := xi_183) rfl rfl rfl (tgc_182 : Tg _ = 11) (by decide) rfl (le := [some (vR 182), some (vI (a1 + 1)), some (vI 0), some (vI 99), none, none]) rfl (v := some (vI k3)) (M' := M) (t_183  (d := d + 0) hk3 rfl) ?_
    refine Rn_ms (σ' := (110, [some (vR 182), some (vI a1)], [vI 46, vI k3, vR 182, vR 182], (G0, M))) hc 1 rfl ?_
    refine R_bind e (fun k4 hk4 e => ?_)
    refine Rn_cv hc rfl rfl (by decide) (ii := xi_185) rfl rfl rfl (tgc_182 : Tg _ = 11) (by decide) rfl (le := [some (vR 182), some (vI k3), some (vI 46)]) rfl (v := some (vI k4)) (M' := M) (t_185  (d := d + 1) hk4 rfl) ?_
    refine Rn_ms (σ' := (117, [some (vR 182), some (vI a1)], [vI 999, vI 0, vI k4, vR 182], (G0, M))) hc 2 rfl ?_
    refine R_bind e (fun k5 hk5 e => ?_)
    refine Rn_cv hc rfl rfl (by decide) (ii := xi_183) rfl rfl rfl (tgc_182 : Tg _ = 11) (by decide) rfl (le := [some (vR 182), some (vI k4), some (vI 0), some (vI 999), none, none]) rfl (v := some (vI k5)) (M' := M) (t_183  (d := d + 0) hk5 rfl) ?_
    show Rn rom (d + 3) 186 (120, [some (vR 182), some (vI a1)], [vI k5], (G0, M)) out
    cases e
    exact R_end (Rn_iret hc rfl rfl (xretI rfl rfl)) hK
  refine R_ite e (fun b6 e => ?_) (fun b6 e => ?_)
  · refine Rn_tsw (off := 127) (tgt := 132) hc rfl rfl (xsw_at b6 (by decide) (by decide) (by decide) rfl) rfl ?_
    refine Rn_ms (σ' := (135, [some (vR 182), some (vI a1)], [vI ((-1) - a1)], (G0, M))) hc 3 rfl ?_
    cases e
    exact R_end (Rn_iret hc rfl rfl (xretI rfl rfl)) hK
  refine R_ite e (fun b7 e => ?_) (fun b7 e => ?_)
  · refine Rn_tsw (off := 127) (tgt := 132) hc rfl rfl (xsw_at b7 (by decide) (by decide) (by decide) rfl) rfl ?_
    refine Rn_ms (σ' := (135, [some (vR 182), some (vI a1)], [vI ((-1) - a1)], (G0, M))) hc 3 rfl ?_
    cases e
    exact R_end (Rn_iret hc rfl rfl (xretI rfl rfl)) hK
  refine R_ite e (fun b8 e => ?_) (fun b8 e => ?_)
  · refine Rn_tsw (off := 127) (tgt := 132) hc rfl rfl (xsw_at b8 (by decide) (by decide) (by decide) rfl) rfl ?_
    refine Rn_ms (σ' := (135, [some (vR 182), some (vI a1)], [vI ((-1) - a1)], (G0, M))) hc 3 rfl ?_
    cases e
    exact R_end (Rn_iret hc rfl rfl (xretI rfl rfl)) hK
  refine R_ite e (fun b9 e => ?_) (fun b9 e => ?_)
  · refine Rn_tsw (off := 127) (tgt := 132) hc rfl rfl (xsw_at b9 (by decide) (by decide) (by decide) rfl) rfl ?_
    refine Rn_ms (σ' := (135, [some (vR 182), some (vI a1)], [vI ((-1) - a1)], (G0, M))) hc 3 rfl ?_
    cases e
    exact R_end (Rn_iret hc rfl rfl (xretI rfl rfl)) hK
  refine R_ite e (fun b10 e => ?_) (fun b10 e => ?_)
  · refine Rn_tsw (off := 127) (tgt := 132) hc rfl rfl (xsw_at b10 (by decide) (by decide) (by decide) rfl) rfl ?_
    refine Rn_ms (σ' := (135, [some (vR 182), some (vI a1)], [vI ((-1) - a1)], (G0, M))) hc 3 rfl ?_
    cases e
    exact R_end (Rn_iret hc rfl rfl (xretI rfl rfl)) hK
  refine R_ite e (fun b11 e => ?_) (fun b11 e => ?_)
  · refine Rn_tsw (off := 127) (tgt := 132) hc rfl rfl (xsw_at b11 (by decide) (by decide) (by decide) rfl) rfl ?_
    refine Rn_ms (σ' := (135, [some (vR 182), some (vI a1)], [vI ((-1) - a1)], (G0, M))) hc 3 rfl ?_
    cases e
    exact R_end (Rn_iret hc rfl rfl (xretI rfl rfl)) hK
  refine R_ite e (fun b12 e => ?_) (fun b12 e => ?_)
  · refine Rn_tsw (off := 127) (tgt := 132) hc rfl rfl (xsw_at b12 (by decide) (by decide) (by decide) rfl) rfl ?_
    refine Rn_ms (σ' := (135, [some (vR 182), some (vI a1)], [vI ((-1) - a1)], (G0, M))) hc 3 rfl ?_
    cases e
    exact R_end (Rn_iret hc rfl rfl (xretI rfl rfl)) hK
  refine R_ite e (fun b13 e => ?_) (fun b13 e => ?_)
  · refine Rn_tsw (off := 87) (tgt := 92) hc rfl rfl (xsw_at b13 (by decide) (by decide) (by decide) rfl) rfl ?_
    refine Rn_ms (σ' := (95, [some (vR 182), some (vI a1)], [vI (a1 + 1)], (G0, M))) hc 3 rfl ?_
    cases e
    exact R_end (Rn_iret hc rfl rfl (xretI rfl rfl)) hK
  refine R_ite e (fun b14 e => ?_) (fun b14 e => ?_)
  · refine Rn_tsw (off := 127) (tgt := 132) hc rfl rfl (xsw_at b14 (by decide) (by decide) (by decide) rfl) rfl ?_
    refine Rn_ms (σ' := (135, [some (vR 182), some (vI a1)], [vI ((-1) - a1)], (G0, M))) hc 3 rfl ?_
    cases e
    exact R_end (Rn_iret hc rfl rfl (xretI rfl rfl)) hK
  refine R_ite e (fun b15 e => ?_) (fun b15 e => ?_)
  · refine Rn_tsw (off := 127) (tgt := 132) hc rfl rfl (xsw_at b15 (by decide) (by decide) (by decide) rfl) rfl ?_
    refine Rn_ms (σ' := (135, [some (vR 182), some (vI a1)], [vI ((-1) - a1)], (G0, M))) hc 3 rfl ?_
    cases e
    exact R_end (Rn_iret hc rfl rfl (xretI rfl rfl)) hK
  refine R_ite e (fun b16 e => ?_) (fun b16 e => ?_)
  · refine Rn_tsw (off := 87) (tgt := 92) hc rfl rfl (xsw_at b16 (by decide) (by decide) (by decide) rfl) rfl ?_
    refine Rn_ms (σ' := (95, [some (vR 182), some (vI a1)], [vI (a1 + 1)], (G0, M))) hc 3 rfl ?_
    cases e
    exact R_end (Rn_iret hc rfl rfl (xretI rfl rfl)) hK
  refine R_ite e (fun b17 e => ?_) (fun b17 e => ?_)
  · refine Rn_tsw (off := 116) (tgt := 121) hc rfl rfl (xsw_at b17 (by decide) (by decide) (by decide) rfl) rfl ?_
    refine Rn_ms (σ' := (128, [some (vR 182), some (vI a1)], [vI 99, vI 1, vI (a1 + 1), vR 182], (G0, M))) hc 6 rfl ?_
    refine R_bind e (fun k18 hk18 e => ?_)
    refine Rn_cv hc rfl rfl (by decide) (ii := xi_183) rfl rfl rfl (tgc_182 : Tg _ = 11) (by decide) rfl (le := [some (vR 182), some (vI (a1 + 1)), some (vI 1), some (vI 99), none, none]) rfl (v := some (vI k18)) (M' := M) (t_183  (d := d + 0) hk18 rfl) ?_
    show Rn rom (d + 3) 186 (131, [some (vR 182), some (vI a1)], [vI k18], (G0, M)) out
    cases e
    exact R_end (Rn_iret hc rfl rfl (xretI rfl rfl)) hK
  refine R_ite e (fun b19 e => ?_) (fun b19 e => ?_)
  · refine Rn_tsw (off := 127) (tgt := 132) hc rfl rfl (xsw_at b19 (by decide) (by decide) (by decide) rfl) rfl ?_
    refine Rn_ms (σ' := (135, [some (vR 182), some (vI a1)], [vI ((-1) - a1)], (G0, M))) hc 3 rfl ?_
    cases e
    exact R_end (Rn_iret hc rfl rfl (xretI rfl rfl)) hK
  refine R_ite e (fun b20 e => ?_) (fun b20 e => ?_)
  · refine Rn_tsw (off := 87) (tgt := 92) hc rfl rfl (xsw_at b20 (by decide) (by decide) (by decide) rfl) rfl ?_
    refine Rn_ms (σ' := (95, [some (vR 182), some (vI a1)], [vI (a1 + 1)], (G0, M))) hc 3 rfl ?_
    cases e
    exact R_end (Rn_iret hc rfl rfl (xretI rfl rfl)) hK
  refine R_ite e (fun b21 e => ?_) (fun b21 e => ?_)
  · refine Rn_tsw (off := 127) (tgt := 132) hc rfl rfl (xsw_at b21 (by decide) (by decide) (by decide) rfl) rfl ?_
    refine Rn_ms (σ' := (135, [some (vR 182), some (vI a1)], [vI ((-1) - a1)], (G0, M))) hc 3 rfl ?_
    cases e
    exact R_end (Rn_iret hc rfl rfl (xretI rfl rfl)) hK
  refine R_ite e (fun b22 e => ?_) (fun b22 e => ?_)
  · refine Rn_tsw (off := 87) (tgt := 92) hc rfl rfl (xsw_at b22 (by decide) (by decide) (by decide) rfl) rfl ?_
    refine Rn_ms (σ' := (95, [some (vR 182), some (vI a1)], [vI (a1 + 1)], (G0, M))) hc 3 rfl ?_
    cases e
    exact R_end (Rn_iret hc rfl rfl (xretI rfl rfl)) hK
  refine R_ite e (fun b23 e => ?_) (fun b23 e => ?_)
  · refine Rn_tsw (off := 87) (tgt := 92) hc rfl rfl (xsw_at b23 (by decide) (by decide) (by decide) rfl) rfl ?_
    refine Rn_ms (σ' := (95, [some (vR 182), some (vI a1)], [vI (a1 + 1)], (G0, M))) hc 3 rfl ?_
    cases e
    exact R_end (Rn_iret hc rfl rfl (xretI rfl rfl)) hK
  refine Rn_tsw (off := 127) (tgt := 132) hc rfl rfl (xsw_df (by omega)) rfl ?_
  refine Rn_ms (σ' := (135, [some (vR 182), some (vI a1)], [vI ((-1) - a1)], (G0, M))) hc 3 rfl ?_
  cases e
  exact R_end (Rn_iret hc rfl rfl (xretI rfl rfl)) hK
def f_187_L30 (M : xM) (c1 : Int) (c3 : Int) (s0 : Int) : Option ((Int × Int) ⊕ (Int)) :=
  if 0 ≤ wr s0 then
    if wr s0 = wr (M 182 6) then
      some (.inr ((-4)))
    else
      if wr c1 = 0 then
        if 0 ≤ wr s0 then
          some (.inl (s0, (c3 + 1)))
        else
          some (.inr (((-1) - s0)))
      else
        (f_185 M s0 44).bind (fun k8 =>
        if 0 ≤ wr k8 then
          some (.inl (k8, (c3 + 1)))
        else
          some (.inr (((-1) - k8)))
        )
  else
    some (.inr (((-1) - s0)))
theorem t_187_L30 {rom : xRom} {d : Nat} {c1 : Int} {c3 : Int} {s0 : Int} {M : xM} {r : (Int × Int) ⊕ (Int)} {out : Option xV × xH} (e : f_187_L30 M c1 c3 s0 = some r) (hK : ((Sum.elim (fun s => Rn rom (d + 4) 187 (4, [some (vR 182), some (vI c1), some (vI s.1), some (vI s.2), none], [], (G0, M)) out) (eI M out))) r) : Rn rom (d + 4) 187 (30, [some (vR 182), some (vI c1), none, some (vI c3), none], [vI s0], (G0, M)) out := by
  have hc : xkall.getD 187 [] = xk_187 := rfl
  unfold f_187_L30 at e
  refine Rn_ms (σ' := (34, [some (vR 182), some (vI c1), none, some (vI c3), some (vI s0)], [vI s0], (G0, M))) hc 2 rfl ?_
  refine R_ite e (fun b4 e => ?_) (fun b4 e => ?_)
  · refine Rn_ifT (tgt := 42) hc rfl rfl (by decide) b4 ?_
    refine Rn_ms (σ' := (45, [some (vR 182), some (vI c1), none, some (vI c3), some (vI s0)], [vR 182, vI s0], (G0, M))) hc 2 rfl ?_
    refine Rn_getI hc rfl tgc_182 (by decide) (by decide) ?_
    show Rn rom (d + 4) 187 (48, [some (vR 182), some (vI c1), none, some (vI c3), some (vI s0)], [vI (M 182 6), vI s0], (G0, M)) out
    refine R_ite e (fun b5 e => ?_) (fun b5 e => ?_)
    · refine Rn_icF hc rfl rfl (by decide) (fun w => w b5) ?_
      refine Rn_ms (σ' := (53, [some (vR 182), some (vI c1), none, some (vI c3), some (vI s0)], [vI (-4)], (G0, M))) hc 1 rfl ?_
      cases e
      exact R_end (Rn_iret hc rfl rfl (xretI rfl rfl)) hK
    · refine Rn_icT (tgt := 54) hc rfl rfl (by decide) (fun w => b5 w) ?_
      refine Rn_ms (σ' := (55, [some (vR 182), some (vI c1), none, some (vI c3), some (vI s0)], [vI c1], (G0, M))) hc 1 rfl ?_
      refine R_ite e (fun b6 e => ?_) (fun b6 e => ?_)
      · refine Rn_ifF hc rfl rfl (by decide) (fun w => w b6) ?_
        refine Rn_ms (σ' := (73, [some (vR 182), some (vI c1), some (vI s0), some (vI c3), some (vI s0)], [vI s0], (G0, M))) hc 4 rfl ?_
        refine R_ite e (fun b7 e => ?_) (fun b7 e => ?_)
        · refine Rn_ifT (tgt := 80) hc rfl rfl (by decide) b7 ?_
          refine Rn_ms (σ' := (4, [some (vR 182), some (vI c1), some (vI s0), some (vI (c3 + 1)), some (vI s0)], [], (G0, M))) hc 2 rfl ?_
          cases e
          exact Rn_weak (xle_s (xle_s (xle_s (xle_s (xle_n xle_0))))) hK
        · refine Rn_ifF hc rfl rfl (by decide) b7 ?_
          refine Rn_ms (σ' := (79, [some (vR 182), some (vI c1), some (vI s0), some (vI c3), some (vI s0)], [vI ((-1) - s0)], (G0, M))) hc 3 rfl ?_
          cases e
          exact R_end (Rn_iret hc rfl rfl (xretI rfl rfl)) hK
      · refine Rn_ifT (tgt := 63) hc rfl rfl (by decide) (fun w => b6 w) ?_
        refine Rn_ms (σ' := (68, [some (vR 182), some (vI c1), none, some (vI c3), some (vI s0)], [vI 44, vI s0, vR 182], (G0, M))) hc 3 rfl ?_
        refine R_bind e (fun k8 hk8 e => ?_)
        refine Rn_cv hc rfl rfl (by decide) (ii := xi_185) rfl rfl rfl (tgc_182 : Tg _ = 11) (by decide) rfl (le := [some (vR 182), some (vI s0), some (vI 44)]) rfl (v := some (vI k8)) (M' := M) (t_185  (d := d + 2) hk8 rfl) ?_
        refine Rn_ms (σ' := (73, [some (vR 182), some (vI c1), some (vI k8), some (vI c3), some (vI s0)], [vI k8], (G0, M))) hc 2 rfl ?_
        refine R_ite e (fun b9 e => ?_) (fun b9 e => ?_)
        · refine Rn_ifT (tgt := 80) hc rfl rfl (by decide) b9 ?_
          refine Rn_ms (σ' := (4, [some (vR 182), some (vI c1), some (vI k8), some (vI (c3 + 1)), some (vI s0)], [], (G0, M))) hc 2 rfl ?_
          cases e
          exact Rn_weak (xle_s (xle_s (xle_s (xle_s (xle_n xle_0))))) hK
        · refine Rn_ifF hc rfl rfl (by decide) b9 ?_
          refine Rn_ms (σ' := (79, [some (vR 182), some (vI c1), some (vI k8), some (vI c3), some (vI s0)], [vI ((-1) - k8)], (G0, M))) hc 3 rfl ?_
          cases e
          exact R_end (Rn_iret hc rfl rfl (xretI rfl rfl)) hK
  · refine Rn_ifF hc rfl rfl (by decide) b4 ?_
    refine Rn_ms (σ' := (41, [some (vR 182), some (vI c1), none, some (vI c3), some (vI s0)], [vI ((-1) - s0)], (G0, M))) hc 3 rfl ?_
    cases e
    exact R_end (Rn_iret hc rfl rfl (xretI rfl rfl)) hK
def f_187_L4b (M : xM) (c1 : Int) (v2 : Int) (v3 : Int) : Option ((Int × Int) ⊕ (Int)) :=
  if 60 < wr v3 then
    some (.inr ((-4)))
  else
    if wr c1 = 0 then
      (f_186 M v2).bind (fun k3 =>
      f_187_L30 M c1 v3 k3
      )
    else
      (f_183 M v2 0 35).bind (fun k10 =>
      f_187_L30 M c1 v3 k10
      )
theorem t_187_L4b {rom : xRom} {d : Nat} {c1 : Int} {v2 : Int} {v3 : Int} {M : xM} {r : (Int × Int) ⊕ (Int)} {out : Option xV × xH} (e : f_187_L4b M c1 v2 v3 = some r) (hK : ((Sum.elim (fun s => Rn rom (d + 4) 187 (4, [some (vR 182), some (vI c1), some (vI s.1), some (vI s.2), none], [], (G0, M)) out) (eI M out))) r) : Rn rom (d + 4) 187 (4, [some (vR 182), some (vI c1), some (vI v2), some (vI v3), none], [], (G0, M)) out := by
  have hc : xkall.getD 187 [] = xk_187 := rfl
  unfold f_187_L4b at e
  refine Rn_ms (σ' := (7, [some (vR 182), some (vI c1), some (vI v2), some (vI v3), none], [vI 60, vI v3], (G0, M))) hc 2 rfl ?_
  refine R_ite e (fun b1 e => ?_) (fun b1 e => ?_)
  · refine Rn_icT (tgt := 86) hc rfl rfl (by decide) b1 ?_
    refine Rn_ms (σ' := (88, [some (vR 182), some (vI c1), some (vI v2), some (vI v3), none], [vI (-4)], (G0, M))) hc 1 rfl ?_
    cases e
    exact R_end (Rn_iret hc rfl rfl (xretI rfl rfl)) hK
  · refine Rn_icF hc rfl rfl (by decide) b1 ?_
    refine Rn_ms (σ' := (11, [some (vR 182), some (vI c1), some (vI v2), some (vI v3), none], [vI c1], (G0, M))) hc 1 rfl ?_
    refine R_ite e (fun b2 e => ?_) (fun b2 e => ?_)
    · refine Rn_ifF hc rfl rfl (by decide) (fun w => w b2) ?_
      refine Rn_ms (σ' := (16, [some (vR 182), some (vI c1), some (vI v2), some (vI v3), none], [vI v2, vR 182], (G0, M))) hc 2 rfl ?_
      refine R_bind e (fun k3 hk3 e => ?_)
      refine Rn_cv hc rfl rfl (by decide) (ii := xi_186) rfl rfl rfl (tgc_182 : Tg _ = 11) (by decide) rfl (le := [some (vR 182), some (vI v2)]) rfl (v := some (vI k3)) (M' := M) (t_186  (d := d + 0) hk3 rfl) ?_
      refine Rn_ms (σ' := (30, [some (vR 182), some (vI c1), some (vI v2), some (vI v3), none], [vI k3], (G0, M))) hc 1 rfl ?_
      exact Rn_weak (xle_s (xle_s (xle_n (xle_s (xle_s xle_0))))) (t_187_L30  e hK)
    · refine Rn_ifT (tgt := 22) hc rfl rfl (by decide) (fun w => b2 w) ?_
      refine Rn_ms (σ' := (27, [some (vR 182), some (vI c1), some (vI v2), some (vI v3), none], [vI 35, vI 0, vI v2, vR 182], (G0, M))) hc 4 rfl ?_
      refine R_bind e (fun k10 hk10 e => ?_)
      refine Rn_cv hc rfl rfl (by decide) (ii := xi_183) rfl rfl rfl (tgc_182 : Tg _ = 11) (by decide) rfl (le := [some (vR 182), some (vI v2), some (vI 0), some (vI 35), none, none]) rfl (v := some (vI k10)) (M' := M) (t_183  (d := d + 1) hk10 rfl) ?_
      show Rn rom (d + 4) 187 (30, [some (vR 182), some (vI c1), some (vI v2), some (vI v3), none], [vI k10], (G0, M)) out
      exact Rn_weak (xle_s (xle_s (xle_n (xle_s (xle_s xle_0))))) (t_187_L30  e hK)
def f_187_L4 (M : xM) (c1 : Int) (s : Int × Int) : Option (Int) := loop NF (fun s => f_187_L4b M c1 s.1 s.2) s
theorem t_187_L4 {rom : xRom} {d : Nat} {c1 : Int} {M : xM} {s : Int × Int} {r : Int} {out : Option xV × xH} (e : f_187_L4 M c1 s = some r) (hK : (eI M out) r) : Rn rom (d + 4) 187 (4, [some (vR 182), some (vI c1), some (vI s.1), some (vI s.2), none], [], (G0, M)) out := by
  unfold f_187_L4 at e
  revert e hK
  exact R_loop (b := fun s => f_187_L4b M c1 s.1 s.2) (G := fun s => Rn rom (d + 4) 187 (4, [some (vR 182), some (vI c1), some (vI s.1), some (vI s.2), none], [], (G0, M)) out) (K := eI M out) (fun s r e hK => t_187_L4b  e hK) NF s r
/-- PedalLayersModel.faultOf -/
def f_187 (M : xM) (a1 : Int) : Option (Int) :=
  f_187_L4 M a1 (0, 0)
theorem t_187 {rom : xRom} {d : Nat} {M : xM} {a1 : Int} {r : Int} {out : Option xV × xH} (e : f_187 M a1 = some r) (hK : eI M out r) : Rn rom (d + 4) 187 (0, [some (vR 182), some (vI a1), none, none, none], [], (G0, M)) out := by
  have hc : xkall.getD 187 [] = xk_187 := rfl
  unfold f_187 at e
  refine Rn_ms (σ' := (4, [some (vR 182), some (vI a1), some (vI 0), some (vI 0), none], [], (G0, M))) hc 4 rfl ?_
  exact Rn_weak (xle_s (xle_s (xle_s (xle_s (xle_s xle_0))))) (t_187_L4  e hK)
/-- PedalLayersModel.fault -/
def f_188 (M : xM) (a1 : Int) : Option (Int) :=
  if wr (f_138 a1 0 1) = 0 then
    some (-1)
  else
    (f_187 M a1).bind (fun k2 =>
    some (k2)
    )
theorem t_188 {rom : xRom} {d : Nat} {M : xM} {a1 : Int} {r : Int} {out : Option xV × xH} (e : f_188 M a1 = some r) (hK : eI M out r) : Rn rom (d + 5) 188 (0, [some (vR 182), some (vI a1)], [], (G0, M)) out := by
  have hc : xkall.getD 188 [] = xk_188 := rfl
  unfold f_188 at e
  refine Rn_ms (σ' := (3, [some (vR 182), some (vI a1)], [vI 1, vI 0, vI a1], (G0, M))) hc 3 rfl ?_
  refine Rn_cs hc rfl rfl (by decide) (ii := xi_138) rfl rfl rfl (le := [some (vI a1), some (vI 0), some (vI 1)]) rfl (v := some (vI (f_138 a1 0 1))) (M' := M) (t_138  (d := d + 4) rfl rfl) ?_
  show Rn rom (d + 5) 188 (6, [some (vR 182), some (vI a1)], [vI (f_138 a1 0 1)], (G0, M)) out
  refine R_ite e (fun b1 e => ?_) (fun b1 e => ?_)
  · refine Rn_ifT (tgt := 17) hc rfl rfl (by decide) b1 ?_
    refine Rn_ms (σ' := (18, [some (vR 182), some (vI a1)], [vI (-1)], (G0, M))) hc 1 rfl ?_
    cases e
    exact R_end (Rn_iret hc rfl rfl (xretI rfl rfl)) hK
  · refine Rn_ifF hc rfl rfl (by decide) b1 ?_
    refine Rn_ms (σ' := (11, [some (vR 182), some (vI a1)], [vI a1, vR 182], (G0, M))) hc 2 rfl ?_
    refine R_bind e (fun k2 hk2 e => ?_)
    refine Rn_cv hc rfl rfl (by decide) (ii := xi_187) rfl rfl rfl (tgc_182 : Tg _ = 11) (by decide) rfl (le := [some (vR 182), some (vI a1), none, none, none]) rfl (v := some (vI k2)) (M' := M) (t_187  (d := d + 0) hk2 rfl) ?_
    refine Rn_ms (σ' := (18, [some (vR 182), some (vI a1)], [vI k2], (G0, M))) hc 1 rfl ?_
    cases e
    exact R_end (Rn_iret hc rfl rfl (xretI rfl rfl)) hK
def f_190_L144 (M : xM) : Option (Int × xM) :=
  bnd (xset M 183 2 (1 - (M 183 2))) (fun M7 =>
  some (0, M7)
  )
theorem t_190_L144 {rom : xRom} {d : Nat} {M : xM} {r : Int × xM} {out : Option xV × xH} (e : f_190_L144 M = some r) (hK : (eIW out) r) : Rn rom (d + 6) 190 (144, [some (vR 182), none, none], [], (G0, M)) out := by
  have hc : xkall.getD 190 [] = xk_190 := rfl
  unfold f_190_L144 at e
  refine Rn_ms (σ' := (145, [some (vR 182), none, none], [vR 182], (G0, M))) hc 1 rfl ?_
  refine Rn_getR hc rfl tgc_182 (by decide) rfl prc_182_0 ?_
  refine Rn_ms (σ' := (151, [some (vR 182), none, none], [vR 182, vL 1, vI 2, vR 183], (G0, M))) hc 3 rfl ?_
  refine Rn_getR hc rfl tgc_182 (by decide) rfl prc_182_0 ?_
  refine Rn_ms (σ' := (155, [some (vR 182), none, none], [vI 2, vR 183, vL 1, vI 2, vR 183], (G0, M))) hc 1 rfl ?_
  refine Rn_lald hc rfl rfl tgc_183 zsc_183 (by decide) rfl ?_
  refine Rn_ms (σ' := (157, [some (vR 182), none, none], [vL (1 - (M 183 2)), vI 2, vR 183], (G0, M))) hc 1 rfl ?_
  refine R_bnd e (fun M7 hM7 e => ?_)
  refine Rn_last' hM7 hc rfl rfl tgc_183 zsc_183 (by decide) rfl ?_
  refine Rn_ms (σ' := (159, [some (vR 182), none, none], [vI 0], (G0, M7))) hc 1 rfl ?_
  cases e
  exact R_end (Rn_iret hc rfl rfl (xretI rfl rfl)) hK
/-- PedalLayersModel.goes -/
def f_190 (M : xM) (a1 : Int) (a2 : Int) : Option (Int × xM) :=
  (f_181 M a1).bind (fun k1 =>
  if wr k1 = 104 then
    (f_183 M (a1 + 1) 0 99).bind (fun k3 =>
    (f_184 M (k3 + 1)).bind (fun k4 =>
    (f_164 M a2 k4).bind (fun k5 =>
    some (k5.1, k5.2)
    )))
  else
  if wr k1 = 105 then
    f_190_L144 M
  else
  if wr k1 = 106 then
    f_190_L144 M
  else
  if wr k1 = 107 then
    f_190_L144 M
  else
  if wr k1 = 108 then
    f_190_L144 M
  else
  if wr k1 = 109 then
    f_190_L144 M
  else
  if wr k1 = 110 then
    f_190_L144 M
  else
  if wr k1 = 111 then
    f_190_L144 M
  else
  if wr k1 = 112 then
    (f_157 M).bind (fun k15 =>
    some (0, k15)
    )
  else
  if wr k1 = 113 then
    f_190_L144 M
  else
  if wr k1 = 114 then
    f_190_L144 M
  else
  if wr k1 = 115 then
    (f_159 M).bind (fun k19 =>
    some (0, k19)
    )
  else
  if wr k1 = 116 then
    (f_162 M a2).bind (fun k21 =>
    some (k21.1, k21.2)
    )
  else
  if wr k1 = 117 then
    f_190_L144 M
  else
  if wr k1 = 118 then
    f_190_L144 M
  else
  if wr k1 = 119 then
    f_190_L144 M
  else
  if wr k1 = 120 then
    (f_166 M).bind (fun k26 =>
    some (0, k26)
    )
  else
  if wr k1 = 121 then
    bnd (f_168 M) (fun k28 =>
    some (0, k28)
    )
  else
  f_190_L144 M
  )
theorem t_190 {rom : xRom} {d : Nat} {M : xM} {a1 : Int} {a2 : Int} {r : Int × xM} {out : Option xV × xH} (e : f_190 M a1 a2 = some r) (hK : eIW out r) : Rn rom (d + 6) 190 (0, [some (vR 182), some (vI a1), some (vI a2)], [], (G0, M)) out := by
  have hc : xkall.getD 190 [] = xk_190 := rfl
  unfold f_190 at e
  refine Rn_ms (σ' := (2, [some (vR 182), some (vI a1), some (vI a2)], [vI a1, vR 182], (G0, M))) hc 2 rfl ?_
  refine R_bind e (fun k1 hk1 e => ?_)
  refine Rn_cv hc rfl rfl (by decide) (ii := xi_181) rfl rfl rfl (tgc_182 : Tg _ = 11) (by decide) rfl (le := [some (vR 182), some (vI a1)]) rfl (v := some (vI k1)) (M' := M) (t_181  (d := d + 5) hk1 rfl) ?_
  show Rn rom (d + 6) 190 (5, [some (vR 182), some (vI a1), some (vI a2)], [vI k1], (G0, M)) out
  refine R_ite e (fun b2 e => ?_) (fun b2 e => ?_)
  · refine Rn_tsw (off := 111) (tgt := 116) hc rfl rfl (xsw_at b2 (by decide) (by decide) (by decide) rfl) rfl ?_
    refine Rn_ms (σ' := (126, [some (vR 182), some (vI a1), some (vI a2)], [vI 99, vI 0, vI (a1 + 1), vR 182, vR 182, vI a2, vR 182], (G0, M))) hc 9 rfl ?_
    refine R_bind e (fun k3 hk3 e => ?_)
    refine Rn_cv hc rfl rfl (by decide) (ii := xi_183) rfl rfl rfl (tgc_182 : Tg _ = 11) (by decide) rfl (le := [some (vR 182), some (vI (a1 + 1)), some (vI 0), some (vI 99), none, none]) rfl (v := some (vI k3)) (M' := M) (t_183  (d := d + 3) hk3 rfl) ?_
    refine Rn_ms (σ' := (131, [some (vR 182), some (vI a1), some (vI a2)], [vI (k3 + 1), vR 182, vI a2, vR 182], (G0, M))) hc 2 rfl ?_
    refine R_bind e (fun k4 hk4 e => ?_)
    refine Rn_cv hc rfl rfl (by decide) (ii := xi_184) rfl rfl rfl (tgc_182 : Tg _ = 11) (by decide) rfl (le := [some (vR 182), some (vI (k3 + 1)), none, none]) rfl (v := some (vI k4)) (M' := M) (t_184  (d := d + 3) hk4 rfl) ?_
    show Rn rom (d + 6) 190 (134, [some (vR 182), some (vI a1), some (vI a2)], [vI k4, vI a2, vR 182], (G0, M)) out
    refine R_bind e (fun k5 hk5 e => ?_)
    refine Rn_cv hc rfl rfl (by decide) (ii := xi_164) rfl rfl rfl (tgc_182 : Tg _ = 11) (by decide) rfl (le := [some (vR 182), some (vI a2), some (vI k4), none, none, none]) rfl (v := some (vI k5.1)) (M' := k5.2) (t_164  (d := d + 4) hk5 rfl) ?_
    show Rn rom (d + 6) 190 (137, [some (vR 182), some (vI a1), some (vI a2)], [vI k5.1], (G0, k5.2)) out
    cases e
    exact R_end (Rn_iret hc rfl rfl (xretI rfl rfl)) hK
  refine R_ite e (fun b6 e => ?_) (fun b6 e => ?_)
  · refine Rn_tsw (off := 139) (tgt := 144) hc rfl rfl (xsw_at b6 (by decide) (by decide) (by decide) rfl) rfl ?_
    show Rn rom (d + 6) 190 (144, [some (vR 182), some (vI a1), some (vI a2)], [], (G0, M)) out
    exact Rn_weak (xle_s (xle_n (xle_n xle_0))) (t_190_L144  e hK)
  refine R_ite e (fun b8 e => ?_) (fun b8 e => ?_)
  · refine Rn_tsw (off := 139) (tgt := 144) hc rfl rfl (xsw_at b8 (by decide) (by decide) (by decide) rfl) rfl ?_
    show Rn rom (d + 6) 190 (144, [some (vR 182), some (vI a1), some (vI a2)], [], (G0, M)) out
    exact Rn_weak (xle_s (xle_n (xle_n xle_0))) (t_190_L144  e hK)
  refine R_ite e (fun b9 e => ?_) (fun b9 e => ?_)
  · refine Rn_tsw (off := 139) (tgt := 144) hc rfl rfl (xsw_at b9 (by decide) (by decide) (by decide) rfl) rfl ?_
    show Rn rom (d + 6) 190 (144, [some (vR 182), some (vI a1), some (vI a2)], [], (G0, M)) out
    exact Rn_weak (xle_s (xle_n (xle_n xle_0))) (t_190_L144  e hK)
  refine R_ite e (fun b10 e => ?_) (fun b10 e => ?_)
  · refine Rn_tsw (off := 139) (tgt := 144) hc rfl rfl (xsw_at b10 (by decide) (by decide) (by decide) rfl) rfl ?_
    show Rn rom (d + 6) 190 (144, [some (vR 182), some (vI a1), some (vI a2)], [], (G0, M)) out
    exact Rn_weak (xle_s (xle_n (xle_n xle_0))) (t_190_L144  e hK)
  refine R_ite e (fun b11 e => ?_) (fun b11 e => ?_)
  · refine Rn_tsw (off := 139) (tgt := 144) hc rfl rfl (xsw_at b11 (by decide) (by decide) (by decide) rfl) rfl ?_
    show Rn rom (d + 6) 190 (144, [some (vR 182), some (vI a1), some (vI a2)], [], (G0, M)) out
    exact Rn_weak (xle_s (xle_n (xle_n xle_0))) (t_190_L144  e hK)
  refine R_ite e (fun b12 e => ?_) (fun b12 e => ?_)
  · refine Rn_tsw (off := 139) (tgt := 144) hc rfl rfl (xsw_at b12 (by decide) (by decide) (by decide) rfl) rfl ?_
    show Rn rom (d + 6) 190 (144, [some (vR 182), some (vI a1), some (vI a2)], [], (G0, M)) out
    exact Rn_weak (xle_s (xle_n (xle_n xle_0))) (t_190_L144  e hK)
  refine R_ite e (fun b13 e => ?_) (fun b13 e => ?_)
  · refine Rn_tsw (off := 139) (tgt := 144) hc rfl rfl (xsw_at b13 (by decide) (by decide) (by decide) rfl) rfl ?_
    show Rn rom (d + 6) 190 (144, [some (vR 182), some (vI a1), some (vI a2)], [], (G0, M)) out
    exact Rn_weak (xle_s (xle_n (xle_n xle_0))) (t_190_L144  e hK)
  refine R_ite e (fun b14 e => ?_) (fun b14 e => ?_)
  · refine Rn_tsw (off := 87) (tgt := 92) hc rfl rfl (xsw_at b14 (by decide) (by decide) (by decide) rfl) rfl ?_
    refine Rn_ms (σ' := (93, [some (vR 182), some (vI a1), some (vI a2)], [vR 182], (G0, M))) hc 1 rfl ?_
    refine R_bind e (fun k15 hk15 e => ?_)
    refine Rn_cv hc rfl rfl (by decide) (ii := xi_157) rfl rfl rfl (tgc_182 : Tg _ = 11) (by decide) rfl (le := [some (vR 182)]) rfl (v := none) (M' := k15) (t_157  (d := d + 1) hk15 rfl) ?_
    refine Rn_ms (σ' := (97, [some (vR 182), some (vI a1), some (vI a2)], [vI 0], (G0, k15))) hc 1 rfl ?_
    cases e
    exact R_end (Rn_iret hc rfl rfl (xretI rfl rfl)) hK
  refine R_ite e (fun b16 e => ?_) (fun b16 e => ?_)
  · refine Rn_tsw (off := 139) (tgt := 144) hc rfl rfl (xsw_at b16 (by decide) (by decide) (by decide) rfl) rfl ?_
    show Rn rom (d + 6) 190 (144, [some (vR 182), some (vI a1), some (vI a2)], [], (G0, M)) out
    exact Rn_weak (xle_s (xle_n (xle_n xle_0))) (t_190_L144  e hK)
  refine R_ite e (fun b17 e => ?_) (fun b17 e => ?_)
  · refine Rn_tsw (off := 139) (tgt := 144) hc rfl rfl (xsw_at b17 (by decide) (by decide) (by decide) rfl) rfl ?_
    show Rn rom (d + 6) 190 (144, [some (vR 182), some (vI a1), some (vI a2)], [], (G0, M)) out
    exact Rn_weak (xle_s (xle_n (xle_n xle_0))) (t_190_L144  e hK)
  refine R_ite e (fun b18 e => ?_) (fun b18 e => ?_)
  · refine Rn_tsw (off := 93) (tgt := 98) hc rfl rfl (xsw_at b18 (by decide) (by decide) (by decide) rfl) rfl ?_
    refine Rn_ms (σ' := (99, [some (vR 182), some (vI a1), some (vI a2)], [vR 182], (G0, M))) hc 1 rfl ?_
    refine R_bind e (fun k19 hk19 e => ?_)
    refine Rn_cv hc rfl rfl (by decide) (ii := xi_159) rfl rfl rfl (tgc_182 : Tg _ = 11) (by decide) rfl (le := [some (vR 182)]) rfl (v := none) (M' := k19) (t_159  (d := d + 3) hk19 rfl) ?_
    refine Rn_ms (σ' := (103, [some (vR 182), some (vI a1), some (vI a2)], [vI 0], (G0, k19))) hc 1 rfl ?_
    cases e
    exact R_end (Rn_iret hc rfl rfl (xretI rfl rfl)) hK
  refine R_ite e (fun b20 e => ?_) (fun b20 e => ?_)
  · refine Rn_tsw (off := 133) (tgt := 138) hc rfl rfl (xsw_at b20 (by decide) (by decide) (by decide) rfl) rfl ?_
    refine Rn_ms (σ' := (140, [some (vR 182), some (vI a1), some (vI a2)], [vI a2, vR 182], (G0, M))) hc 2 rfl ?_
    refine R_bind e (fun k21 hk21 e => ?_)
    refine Rn_cv hc rfl rfl (by decide) (ii := xi_162) rfl rfl rfl (tgc_182 : Tg _ = 11) (by decide) rfl (le := [some (vR 182), some (vI a2), none, none]) rfl (v := some (vI k21.1)) (M' := k21.2) (t_162  (d := d + 0) hk21 rfl) ?_
    show Rn rom (d + 6) 190 (143, [some (vR 182), some (vI a1), some (vI a2)], [vI k21.1], (G0, k21.2)) out
    cases e
    exact R_end (Rn_iret hc rfl rfl (xretI rfl rfl)) hK
  refine R_ite e (fun b22 e => ?_) (fun b22 e => ?_)
  · refine Rn_tsw (off := 139) (tgt := 144) hc rfl rfl (xsw_at b22 (by decide) (by decide) (by decide) rfl) rfl ?_
    show Rn rom (d + 6) 190 (144, [some (vR 182), some (vI a1), some (vI a2)], [], (G0, M)) out
    exact Rn_weak (xle_s (xle_n (xle_n xle_0))) (t_190_L144  e hK)
  refine R_ite e (fun b23 e => ?_) (fun b23 e => ?_)
  · refine Rn_tsw (off := 139) (tgt := 144) hc rfl rfl (xsw_at b23 (by decide) (by decide) (by decide) rfl) rfl ?_
    show Rn rom (d + 6) 190 (144, [some (vR 182), some (vI a1), some (vI a2)], [], (G0, M)) out
    exact Rn_weak (xle_s (xle_n (xle_n xle_0))) (t_190_L144  e hK)
  refine R_ite e (fun b24 e => ?_) (fun b24 e => ?_)
  · refine Rn_tsw (off := 139) (tgt := 144) hc rfl rfl (xsw_at b24 (by decide) (by decide) (by decide) rfl) rfl ?_
    show Rn rom (d + 6) 190 (144, [some (vR 182), some (vI a1), some (vI a2)], [], (G0, M)) out
    exact Rn_weak (xle_s (xle_n (xle_n xle_0))) (t_190_L144  e hK)
  refine R_ite e (fun b25 e => ?_) (fun b25 e => ?_)
  · refine Rn_tsw (off := 99) (tgt := 104) hc rfl rfl (xsw_at b25 (by decide) (by decide) (by decide) rfl) rfl ?_
    refine Rn_ms (σ' := (105, [some (vR 182), some (vI a1), some (vI a2)], [vR 182], (G0, M))) hc 1 rfl ?_
    refine R_bind e (fun k26 hk26 e => ?_)
    refine Rn_cv hc rfl rfl (by decide) (ii := xi_166) rfl rfl rfl (tgc_182 : Tg _ = 11) (by decide) rfl (le := [some (vR 182), none]) rfl (v := none) (M' := k26) (t_166  (d := d + 2) hk26 rfl) ?_
    refine Rn_ms (σ' := (109, [some (vR 182), some (vI a1), some (vI a2)], [vI 0], (G0, k26))) hc 1 rfl ?_
    cases e
    exact R_end (Rn_iret hc rfl rfl (xretI rfl rfl)) hK
  refine R_ite e (fun b27 e => ?_) (fun b27 e => ?_)
  · refine Rn_tsw (off := 105) (tgt := 110) hc rfl rfl (xsw_at b27 (by decide) (by decide) (by decide) rfl) rfl ?_
    refine Rn_ms (σ' := (111, [some (vR 182), some (vI a1), some (vI a2)], [vR 182], (G0, M))) hc 1 rfl ?_
    refine R_bnd e (fun k28 hk28 e => ?_)
    refine Rn_cv hc rfl rfl (by decide) (ii := xi_168) rfl rfl rfl (tgc_182 : Tg _ = 11) (by decide) rfl (le := [some (vR 182)]) rfl (v := none) (M' := k28) (t_168  (d := d + 5) hk28.symm rfl) ?_
    refine Rn_ms (σ' := (115, [some (vR 182), some (vI a1), some (vI a2)], [vI 0], (G0, k28))) hc 1 rfl ?_
    cases e
    exact R_end (Rn_iret hc rfl rfl (xretI rfl rfl)) hK
  refine Rn_tsw (off := 139) (tgt := 144) hc rfl rfl (xsw_df (by omega)) rfl ?_
  show Rn rom (d + 6) 190 (144, [some (vR 182), some (vI a1), some (vI a2)], [], (G0, M)) out
  exact Rn_weak (xle_s (xle_n (xle_n xle_0))) (t_190_L144  e hK)
def f_189_L127 (M : xM) (c1 : Int) (c2 : Int) (c3 : Int) : Option (Int × xM) :=
  if wr c3 = 0 then
    (f_190 M c1 c2).bind (fun k8 =>
    some (c3, k8.2)
    )
  else
    some (c3, M)
theorem t_189_L127 {rom : xRom} {d : Nat} {c1 : Int} {c2 : Int} {c3 : Int} {M : xM} {r : Int × xM} {out : Option xV × xH} (e : f_189_L127 M c1 c2 c3 = some r) (hK : (eIW out) r) : Rn rom (d + 7) 189 (127, [some (vR 182), some (vI c1), some (vI c2), some (vI c3), none], [], (G0, M)) out := by
  have hc : xkall.getD 189 [] = xk_189 := rfl
  unfold f_189_L127 at e
  refine Rn_ms (σ' := (128, [some (vR 182), some (vI c1), some (vI c2), some (vI c3), none], [vI c3], (G0, M))) hc 1 rfl ?_
  refine R_ite e (fun b7 e => ?_) (fun b7 e => ?_)
  · refine Rn_ifF hc rfl rfl (by decide) (fun w => w b7) ?_
    refine Rn_ms (σ' := (134, [some (vR 182), some (vI c1), some (vI c2), some (vI c3), none], [vI c2, vI c1, vR 182], (G0, M))) hc 3 rfl ?_
    refine R_bind e (fun k8 hk8 e => ?_)
    refine Rn_cv hc rfl rfl (by decide) (ii := xi_190) rfl rfl rfl (tgc_182 : Tg _ = 11) (by decide) rfl (le := [some (vR 182), some (vI c1), some (vI c2)]) rfl (v := some (vI k8.1)) (M' := k8.2) (t_190  (d := d + 0) hk8 rfl) ?_
    refine Rn_ms (σ' := (140, [some (vR 182), some (vI c1), some (vI c2), some (vI c3), some (vI k8.1)], [vI c3], (G0, k8.2))) hc 2 rfl ?_
    cases e
    exact R_end (Rn_iret hc rfl rfl (xretI rfl rfl)) hK
  · refine Rn_ifT (tgt := 139) hc rfl rfl (by decide) (fun w => b7 w) ?_
    refine Rn_ms (σ' := (140, [some (vR 182), some (vI c1), some (vI c2), some (vI c3), none], [vI c3], (G0, M))) hc 1 rfl ?_
    cases e
    exact R_end (Rn_iret hc rfl rfl (xretI rfl rfl)) hK
/-- PedalLayersModel.carries -/
def f_189 (M : xM) (a1 : Int) : Option (Int × xM) :=
  (f_184 M (a1 + 1)).bind (fun k1 =>
  (f_181 M a1).bind (fun k2 =>
  if wr k2 = 104 then
    (f_183 M (a1 + 1) 0 99).bind (fun k4 =>
    (f_184 M (k4 + 1)).bind (fun k5 =>
    (f_163 M k1 k5).bind (fun k6 =>
    f_189_L127 M a1 k1 k6
    )))
  else
  if wr k2 = 112 then
    (f_156 M).bind (fun k10 =>
    f_189_L127 M a1 k1 k10
    )
  else
  if wr k2 = 115 then
    (f_158 M).bind (fun k12 =>
    f_189_L127 M a1 k1 k12
    )
  else
  if wr k2 = 120 then
    (f_165 M).bind (fun k14 =>
    f_189_L127 M a1 k1 k14
    )
  else
  if wr k2 = 121 then
    (f_167 M).bind (fun k16 =>
    f_189_L127 M a1 k1 k16
    )
  else
  f_189_L127 M a1 k1 0
  ))
theorem t_189 {rom : xRom} {d : Nat} {M : xM} {a1 : Int} {r : Int × xM} {out : Option xV × xH} (e : f_189 M a1 = some r) (hK : eIW out r) : Rn rom (d + 7) 189 (0, [some (vR 182), some (vI a1), none, none, none], [], (G0, M)) out := by
  have hc : xkall.getD 189 [] = xk_189 := rfl
  unfold f_189 at e
  refine Rn_ms (σ' := (4, [some (vR 182), some (vI a1), none, none, none], [vI (a1 + 1), vR 182], (G0, M))) hc 4 rfl ?_
  refine R_bind e (fun k1 hk1 e => ?_)
  refine Rn_cv hc rfl rfl (by decide) (ii := xi_184) rfl rfl rfl (tgc_182 : Tg _ = 11) (by decide) rfl (le := [some (vR 182), some (vI (a1 + 1)), none, none]) rfl (v := some (vI k1)) (M' := M) (t_184  (d := d + 4) hk1 rfl) ?_
  refine Rn_ms (σ' := (15, [some (vR 182), some (vI a1), some (vI k1), some (vI 0), some (vI 0)], [vI a1, vR 182], (G0, M))) hc 7 rfl ?_
  refine R_bind e (fun k2 hk2 e => ?_)
  refine Rn_cv hc rfl rfl (by decide) (ii := xi_181) rfl rfl rfl (tgc_182 : Tg _ = 11) (by decide) rfl (le := [some (vR 182), some (vI a1)]) rfl (v := some (vI k2)) (M' := M) (t_181  (d := d + 6) hk2 rfl) ?_
  show Rn rom (d + 7) 189 (18, [some (vR 182), some (vI a1), some (vI k1), some (vI 0), some (vI 0)], [vI k2], (G0, M)) out
  refine R_ite e (fun b3 e => ?_) (fun b3 e => ?_)
  · refine Rn_lsw (off := 82) (tgt := 100) hc rfl rfl (by decide) (by rw [b3]; rfl) rfl ?_
    refine Rn_ms (σ' := (110, [some (vR 182), some (vI a1), some (vI k1), some (vI 0), some (vI 0)], [vI 99, vI 0, vI (a1 + 1), vR 182, vR 182, vI k1, vR 182], (G0, M))) hc 9 rfl ?_
    refine R_bind e (fun k4 hk4 e => ?_)
    refine Rn_cv hc rfl rfl (by decide) (ii := xi_183) rfl rfl rfl (tgc_182 : Tg _ = 11) (by decide) rfl (le := [some (vR 182), some (vI (a1 + 1)), some (vI 0), some (vI 99), none, none]) rfl (v := some (vI k4)) (M' := M) (t_183  (d := d + 4) hk4 rfl) ?_
    refine Rn_ms (σ' := (115, [some (vR 182), some (vI a1), some (vI k1), some (vI 0), some (vI 0)], [vI (k4 + 1), vR 182, vI k1, vR 182], (G0, M))) hc 2 rfl ?_
    refine R_bind e (fun k5 hk5 e => ?_)
    refine Rn_cv hc rfl rfl (by decide) (ii := xi_184) rfl rfl rfl (tgc_182 : Tg _ = 11) (by decide) rfl (le := [some (vR 182), some (vI (k4 + 1)), none, none]) rfl (v := some (vI k5)) (M' := M) (t_184  (d := d + 4) hk5 rfl) ?_
    show Rn rom (d + 7) 189 (118, [some (vR 182), some (vI a1), some (vI k1), some (vI 0), some (vI 0)], [vI k5, vI k1, vR 182], (G0, M)) out
    refine R_bind e (fun k6 hk6 e => ?_)
    refine Rn_cv hc rfl rfl (by decide) (ii := xi_163) rfl rfl rfl (tgc_182 : Tg _ = 11) (by decide) rfl (le := [some (vR 182), some (vI k1), some (vI k5), none]) rfl (v := some (vI k6)) (M' := M) (t_163  (d := d + 4) hk6 rfl) ?_
    refine Rn_ms (σ' := (127, [some (vR 182), some (vI a1), some (vI k1), some (vI k6), some (vI 0)], [], (G0, M))) hc 2 rfl ?_
    exact Rn_weak (xle_s (xle_s (xle_s (xle_s (xle_n xle_0))))) (t_189_L127  e hK)
  refine R_ite e (fun b9 e => ?_) (fun b9 e => ?_)
  · refine Rn_lsw (off := 50) (tgt := 68) hc rfl rfl (by decide) (by rw [b9]; rfl) rfl ?_
    refine Rn_ms (σ' := (69, [some (vR 182), some (vI a1), some (vI k1), some (vI 0), some (vI 0)], [vR 182], (G0, M))) hc 1 rfl ?_
    refine R_bind e (fun k10 hk10 e => ?_)
    refine Rn_cv hc rfl rfl (by decide) (ii := xi_156) rfl rfl rfl (tgc_182 : Tg _ = 11) (by decide) rfl (le := [some (vR 182), none]) rfl (v := some (vI k10)) (M' := M) (t_156  (d := d + 4) hk10 rfl) ?_
    refine Rn_ms (σ' := (127, [some (vR 182), some (vI a1), some (vI k1), some (vI k10), some (vI 0)], [], (G0, M))) hc 2 rfl ?_
    exact Rn_weak (xle_s (xle_s (xle_s (xle_s (xle_n xle_0))))) (t_189_L127  e hK)
  refine R_ite e (fun b11 e => ?_) (fun b11 e => ?_)
  · refine Rn_lsw (off := 58) (tgt := 76) hc rfl rfl (by decide) (by rw [b11]; rfl) rfl ?_
    refine Rn_ms (σ' := (77, [some (vR 182), some (vI a1), some (vI k1), some (vI 0), some (vI 0)], [vR 182], (G0, M))) hc 1 rfl ?_
    refine R_bind e (fun k12 hk12 e => ?_)
    refine Rn_cv hc rfl rfl (by decide) (ii := xi_158) rfl rfl rfl (tgc_182 : Tg _ = 11) (by decide) rfl (le := [some (vR 182)]) rfl (v := some (vI k12)) (M' := M) (t_158  (d := d + 5) hk12 rfl) ?_
    refine Rn_ms (σ' := (127, [some (vR 182), some (vI a1), some (vI k1), some (vI k12), some (vI 0)], [], (G0, M))) hc 2 rfl ?_
    exact Rn_weak (xle_s (xle_s (xle_s (xle_s (xle_n xle_0))))) (t_189_L127  e hK)
  refine R_ite e (fun b13 e => ?_) (fun b13 e => ?_)
  · refine Rn_lsw (off := 66) (tgt := 84) hc rfl rfl (by decide) (by rw [b13]; rfl) rfl ?_
    refine Rn_ms (σ' := (85, [some (vR 182), some (vI a1), some (vI k1), some (vI 0), some (vI 0)], [vR 182], (G0, M))) hc 1 rfl ?_
    refine R_bind e (fun k14 hk14 e => ?_)
    refine Rn_cv hc rfl rfl (by decide) (ii := xi_165) rfl rfl rfl (tgc_182 : Tg _ = 11) (by decide) rfl (le := [some (vR 182)]) rfl (v := some (vI k14)) (M' := M) (t_165  (d := d + 4) hk14 rfl) ?_
    refine Rn_ms (σ' := (127, [some (vR 182), some (vI a1), some (vI k1), some (vI k14), some (vI 0)], [], (G0, M))) hc 2 rfl ?_
    exact Rn_weak (xle_s (xle_s (xle_s (xle_s (xle_n xle_0))))) (t_189_L127  e hK)
  refine R_ite e (fun b15 e => ?_) (fun b15 e => ?_)
  · refine Rn_lsw (off := 74) (tgt := 92) hc rfl rfl (by decide) (by rw [b15]; rfl) rfl ?_
    refine Rn_ms (σ' := (93, [some (vR 182), some (vI a1), some (vI k1), some (vI 0), some (vI 0)], [vR 182], (G0, M))) hc 1 rfl ?_
    refine R_bind e (fun k16 hk16 e => ?_)
    refine Rn_cv hc rfl rfl (by decide) (ii := xi_167) rfl rfl rfl (tgc_182 : Tg _ = 11) (by decide) rfl (le := [some (vR 182)]) rfl (v := some (vI k16)) (M' := M) (t_167  (d := d + 4) hk16 rfl) ?_
    refine Rn_ms (σ' := (127, [some (vR 182), some (vI a1), some (vI k1), some (vI k16), some (vI 0)], [], (G0, M))) hc 2 rfl ?_
    exact Rn_weak (xle_s (xle_s (xle_s (xle_s (xle_n xle_0))))) (t_189_L127  e hK)
  refine Rn_lsw (off := 107) (tgt := 125) hc rfl rfl (by decide) (by show Op.lookupswitch.offset [(104, 82), (112, 50), (115, 58), (120, 66), (121, 74)] 107 (wr k2) = _; simp only [Op.lookupswitch.offset]; repeat rw [if_neg (by omega)]) rfl ?_
  refine Rn_ms (σ' := (127, [some (vR 182), some (vI a1), some (vI k1), some (vI 0), some (vI 0)], [], (G0, M))) hc 2 rfl ?_
  exact Rn_weak (xle_s (xle_s (xle_s (xle_s (xle_n xle_0))))) (t_189_L127  e hK)
def f_191_L26b (v1 : Int) (v2 : Int) (M : xM) : Option ((Int × Int × xM) ⊕ (Int × xM)) :=
  if wr (M 182 6) ≤ wr v2 then
    bnd (xset M 182 6 0) (fun M6 =>
    some (.inr ((v1, M6)))
    )
  else
    if wr (M 182 8) = 0 then
      (f_189 M v2).bind (fun k8 =>
      if 0 ≤ wr k8.1 then
        (f_186 k8.2 v2).bind (fun k10 =>
        some (.inl ((v1 + 1), k10, k8.2))
        )
      else
        bnd (xset k8.2 182 8 1) (fun M11 =>
        bnd (xset M11 187 0 k8.1) (fun M12 =>
        bnd (xset M12 187 1 v1) (fun M13 =>
        bnd (xset M13 187 2 v2) (fun M14 =>
        some (.inl (v1, v2, M14))
        ))))
      )
    else
      bnd (xset M 182 6 0) (fun M15 =>
      some (.inr ((v1, M15)))
      )
theorem t_191_L26b {rom : xRom} {d : Nat} {v1 : Int} {v2 : Int} {M : xM} {r : (Int × Int × xM) ⊕ (Int × xM)} {out : Option xV × xH} (e : f_191_L26b v1 v2 M = some r) (hK : ((Sum.elim (fun s => Rn rom (d + 8) 191 (26, [some (vR 182), some (vI s.1), some (vI s.2.1), none], [], (G0, s.2.2)) out) (eIW out))) r) : Rn rom (d + 8) 191 (26, [some (vR 182), some (vI v1), some (vI v2), none], [], (G0, M)) out := by
  have hc : xkall.getD 191 [] = xk_191 := rfl
  unfold f_191_L26b at e
  refine Rn_ms (σ' := (28, [some (vR 182), some (vI v1), some (vI v2), none], [vR 182, vI v2], (G0, M))) hc 2 rfl ?_
  refine Rn_getI hc rfl tgc_182 (by decide) (by decide) ?_
  show Rn rom (d + 8) 191 (31, [some (vR 182), some (vI v1), some (vI v2), none], [vI (M 182 6), vI v2], (G0, M)) out
  refine R_ite e (fun b5 e => ?_) (fun b5 e => ?_)
  · refine Rn_icT (tgt := 92) hc rfl rfl (by decide) b5 ?_
    refine Rn_ms (σ' := (94, [some (vR 182), some (vI v1), some (vI v2), none], [vI 0, vR 182], (G0, M))) hc 2 rfl ?_
    refine R_bnd e (fun M6 hM6 e => ?_)
    refine Rn_putI' hM6 hc rfl tgc_182 (by decide) (Or.inl rfl) ?_
    refine Rn_ms (σ' := (98, [some (vR 182), some (vI v1), some (vI v2), none], [vI v1], (G0, M6))) hc 1 rfl ?_
    cases e
    exact R_end (Rn_iret hc rfl rfl (xretI rfl rfl)) hK
  · refine Rn_icF hc rfl rfl (by decide) b5 ?_
    refine Rn_ms (σ' := (35, [some (vR 182), some (vI v1), some (vI v2), none], [vR 182], (G0, M))) hc 1 rfl ?_
    refine Rn_getI hc rfl tgc_182 (by decide) (by decide) ?_
    show Rn rom (d + 8) 191 (38, [some (vR 182), some (vI v1), some (vI v2), none], [vI (M 182 8)], (G0, M)) out
    refine R_ite e (fun b7 e => ?_) (fun b7 e => ?_)
    · refine Rn_ifF hc rfl rfl (by decide) (fun w => w b7) ?_
      refine Rn_ms (σ' := (43, [some (vR 182), some (vI v1), some (vI v2), none], [vI v2, vR 182], (G0, M))) hc 2 rfl ?_
      refine R_bind e (fun k8 hk8 e => ?_)
      refine Rn_cv hc rfl rfl (by decide) (ii := xi_189) rfl rfl rfl (tgc_182 : Tg _ = 11) (by decide) rfl (le := [some (vR 182), some (vI v2), none, none, none]) rfl (v := some (vI k8.1)) (M' := k8.2) (t_189  (d := d + 0) hk8 rfl) ?_
      refine Rn_ms (σ' := (48, [some (vR 182), some (vI v1), some (vI v2), some (vI k8.1)], [vI k8.1], (G0, k8.2))) hc 2 rfl ?_
      refine R_ite e (fun b9 e => ?_) (fun b9 e => ?_)
      · refine Rn_ifT (tgt := 80) hc rfl rfl (by decide) b9 ?_
        refine Rn_ms (σ' := (85, [some (vR 182), some (vI (v1 + 1)), some (vI v2), some (vI k8.1)], [vI v2, vR 182], (G0, k8.2))) hc 3 rfl ?_
        refine R_bind e (fun k10 hk10 e => ?_)
        refine Rn_cv hc rfl rfl (by decide) (ii := xi_186) rfl rfl rfl (tgc_182 : Tg _ = 11) (by decide) rfl (le := [some (vR 182), some (vI v2)]) rfl (v := some (vI k10)) (M' := k8.2) (t_186  (d := d + 4) hk10 rfl) ?_
        refine Rn_ms (σ' := (26, [some (vR 182), some (vI (v1 + 1)), some (vI k10), some (vI k8.1)], [], (G0, k8.2))) hc 2 rfl ?_
        cases e
        exact Rn_weak (xle_s (xle_s (xle_s (xle_n xle_0)))) hK
      · refine Rn_ifF hc rfl rfl (by decide) b9 ?_
        refine Rn_ms (σ' := (53, [some (vR 182), some (vI v1), some (vI v2), some (vI k8.1)], [vI 1, vR 182], (G0, k8.2))) hc 2 rfl ?_
        refine R_bnd e (fun M11 hM11 e => ?_)
        refine Rn_putI' hM11 hc rfl tgc_182 (by decide) (Or.inr ⟨rfl, by decide⟩) ?_
        refine Rn_ms (σ' := (57, [some (vR 182), some (vI v1), some (vI v2), some (vI k8.1)], [vR 182], (G0, M11))) hc 1 rfl ?_
        refine Rn_getR hc rfl tgc_182 (by decide) rfl prc_182_7 ?_
        refine Rn_ms (σ' := (62, [some (vR 182), some (vI v1), some (vI v2), some (vI k8.1)], [vI k8.1, vI 0, vR 187], (G0, M11))) hc 2 rfl ?_
        refine R_bnd e (fun M12 hM12 e => ?_)
        refine Rn_iast' hM12 hc rfl rfl tgc_187 zsc_187 (by decide) rfl ?_
        refine Rn_ms (σ' := (64, [some (vR 182), some (vI v1), some (vI v2), some (vI k8.1)], [vR 182], (G0, M12))) hc 1 rfl ?_
        refine Rn_getR hc rfl tgc_182 (by decide) rfl prc_182_7 ?_
        refine Rn_ms (σ' := (69, [some (vR 182), some (vI v1), some (vI v2), some (vI k8.1)], [vI v1, vI 1, vR 187], (G0, M12))) hc 2 rfl ?_
        refine R_bnd e (fun M13 hM13 e => ?_)
        refine Rn_iast' hM13 hc rfl rfl tgc_187 zsc_187 (by decide) rfl ?_
        refine Rn_ms (σ' := (71, [some (vR 182), some (vI v1), some (vI v2), some (vI k8.1)], [vR 182], (G0, M13))) hc 1 rfl ?_
        refine Rn_getR hc rfl tgc_182 (by decide) rfl prc_182_7 ?_
        refine Rn_ms (σ' := (76, [some (vR 182), some (vI v1), some (vI v2), some (vI k8.1)], [vI v2, vI 2, vR 187], (G0, M13))) hc 2 rfl ?_
        refine R_bnd e (fun M14 hM14 e => ?_)
        refine Rn_iast' hM14 hc rfl rfl tgc_187 zsc_187 (by decide) rfl ?_
        refine Rn_ms (σ' := (26, [some (vR 182), some (vI v1), some (vI v2), some (vI k8.1)], [], (G0, M14))) hc 2 rfl ?_
        cases e
        exact Rn_weak (xle_s (xle_s (xle_s (xle_n xle_0)))) hK
    · refine Rn_ifT (tgt := 92) hc rfl rfl (by decide) (fun w => b7 w) ?_
      refine Rn_ms (σ' := (94, [some (vR 182), some (vI v1), some (vI v2), none], [vI 0, vR 182], (G0, M))) hc 2 rfl ?_
      refine R_bnd e (fun M15 hM15 e => ?_)
      refine Rn_putI' hM15 hc rfl tgc_182 (by decide) (Or.inl rfl) ?_
      refine Rn_ms (σ' := (98, [some (vR 182), some (vI v1), some (vI v2), none], [vI v1], (G0, M15))) hc 1 rfl ?_
      cases e
      exact R_end (Rn_iret hc rfl rfl (xretI rfl rfl)) hK
def f_191_L26  (s : Int × Int × xM) : Option (Int × xM) := loop NF (fun s => f_191_L26b s.1 s.2.1 s.2.2) s
theorem t_191_L26 {rom : xRom} {d : Nat}  {s : Int × Int × xM} {r : Int × xM} {out : Option xV × xH} (e : f_191_L26  s = some r) (hK : (eIW out) r) : Rn rom (d + 8) 191 (26, [some (vR 182), some (vI s.1), some (vI s.2.1), none], [], (G0, s.2.2)) out := by
  unfold f_191_L26 at e
  revert e hK
  exact R_loop (b := fun s => f_191_L26b s.1 s.2.1 s.2.2) (G := fun s => Rn rom (d + 8) 191 (26, [some (vR 182), some (vI s.1), some (vI s.2.1), none], [], (G0, s.2.2)) out) (K := eIW out) (fun s r e hK => t_191_L26b  e hK) NF s r
/-- PedalLayersModel.play -/
def f_191 (M : xM) : Option (Int × xM) :=
  (f_187 M 0).bind (fun k1 =>
  if wr k1 = (-4) then
    (f_140 M).bind (fun k3 =>
    bnd (xset k3 182 8 0) (fun M4 =>
    f_191_L26 (0, 0, M4)
    ))
  else
    some ((-2), M)
  )
theorem t_191 {rom : xRom} {d : Nat} {M : xM}  {r : Int × xM} {out : Option xV × xH} (e : f_191 M = some r) (hK : eIW out r) : Rn rom (d + 8) 191 (0, [some (vR 182), none, none, none], [], (G0, M)) out := by
  have hc : xkall.getD 191 [] = xk_191 := rfl
  unfold f_191 at e
  refine Rn_ms (σ' := (2, [some (vR 182), none, none, none], [vI 0, vR 182], (G0, M))) hc 2 rfl ?_
  refine R_bind e (fun k1 hk1 e => ?_)
  refine Rn_cv hc rfl rfl (by decide) (ii := xi_187) rfl rfl rfl (tgc_182 : Tg _ = 11) (by decide) rfl (le := [some (vR 182), some (vI 0), none, none, none]) rfl (v := some (vI k1)) (M' := M) (t_187  (d := d + 3) hk1 rfl) ?_
  refine Rn_ms (σ' := (7, [some (vR 182), none, none, none], [vI (-4), vI k1], (G0, M))) hc 1 rfl ?_
  refine R_ite e (fun b2 e => ?_) (fun b2 e => ?_)
  · refine Rn_icT (tgt := 13) hc rfl rfl (by decide) b2 ?_
    refine Rn_ms (σ' := (14, [some (vR 182), none, none, none], [vR 182], (G0, M))) hc 1 rfl ?_
    refine R_bind e (fun k3 hk3 e => ?_)
    refine Rn_cv hc rfl rfl (by decide) (ii := xi_140) rfl rfl rfl (tgc_182 : Tg _ = 11) (by decide) rfl (le := [some (vR 182), none]) rfl (v := none) (M' := k3) (t_140  (d := d + 7) hk3 rfl) ?_
    refine Rn_ms (σ' := (23, [some (vR 182), some (vI 0), some (vI 0), none], [vI 0, vR 182], (G0, k3))) hc 6 rfl ?_
    refine R_bnd e (fun M4 hM4 e => ?_)
    refine Rn_putI' hM4 hc rfl tgc_182 (by decide) (Or.inr ⟨rfl, by decide⟩) ?_
    show Rn rom (d + 8) 191 (26, [some (vR 182), some (vI 0), some (vI 0), none], [], (G0, M4)) out
    exact Rn_weak (xle_s (xle_s (xle_s (xle_s xle_0)))) (t_191_L26  e hK)
  · refine Rn_icF hc rfl rfl (by decide) b2 ?_
    refine Rn_ms (σ' := (12, [some (vR 182), none, none, none], [vI (-2)], (G0, M))) hc 1 rfl ?_
    cases e
    exact R_end (Rn_iret hc rfl rfl (xretI rfl rfl)) hK
/-- PedalLayersModel.why -/
def f_192 (M : xM) (a1 : Int) : Option (Int) :=
  if wr (f_138 a1 0 2) = 0 then
    some (-1)
  else
    if wr (M 182 8) = 0 then
      some (-4)
    else
      gd (0 ≤ wr a1 ∧ wr a1 < 3) (
      some (M 187 (wr a1).toNat)
      )
theorem t_192 {rom : xRom} {d : Nat} {M : xM} {a1 : Int} {r : Int} {out : Option xV × xH} (e : f_192 M a1 = some r) (hK : eI M out r) : Rn rom (d + 1) 192 (0, [some (vR 182), some (vI a1)], [], (G0, M)) out := by
  have hc : xkall.getD 192 [] = xk_192 := rfl
  unfold f_192 at e
  refine Rn_ms (σ' := (3, [some (vR 182), some (vI a1)], [vI 2, vI 0, vI a1], (G0, M))) hc 3 rfl ?_
  refine Rn_cs hc rfl rfl (by decide) (ii := xi_138) rfl rfl rfl (le := [some (vI a1), some (vI 0), some (vI 2)]) rfl (v := some (vI (f_138 a1 0 2))) (M' := M) (t_138  (d := d + 0) rfl rfl) ?_
  show Rn rom (d + 1) 192 (6, [some (vR 182), some (vI a1)], [vI (f_138 a1 0 2)], (G0, M)) out
  refine R_ite e (fun b1 e => ?_) (fun b1 e => ?_)
  · refine Rn_ifF hc rfl rfl (by decide) (fun w => w b1) ?_
    refine Rn_ms (σ' := (31, [some (vR 182), some (vI a1)], [vI (-1)], (G0, M))) hc 2 rfl ?_
    cases e
    exact R_end (Rn_iret hc rfl rfl (xretI rfl rfl)) hK
  · refine Rn_ifT (tgt := 13) hc rfl rfl (by decide) (fun w => b1 w) ?_
    refine Rn_ms (σ' := (14, [some (vR 182), some (vI a1)], [vR 182], (G0, M))) hc 1 rfl ?_
    refine Rn_getI hc rfl tgc_182 (by decide) (by decide) ?_
    show Rn rom (d + 1) 192 (17, [some (vR 182), some (vI a1)], [vI (M 182 8)], (G0, M)) out
    refine R_ite e (fun b2 e => ?_) (fun b2 e => ?_)
    · refine Rn_ifT (tgt := 29) hc rfl rfl (by decide) b2 ?_
      refine Rn_ms (σ' := (31, [some (vR 182), some (vI a1)], [vI (-4)], (G0, M))) hc 1 rfl ?_
      cases e
      exact R_end (Rn_iret hc rfl rfl (xretI rfl rfl)) hK
    · refine Rn_ifF hc rfl rfl (by decide) b2 ?_
      refine Rn_ms (σ' := (21, [some (vR 182), some (vI a1)], [vR 182], (G0, M))) hc 1 rfl ?_
      refine Rn_getR hc rfl tgc_182 (by decide) rfl prc_182_7 ?_
      refine Rn_ms (σ' := (25, [some (vR 182), some (vI a1)], [vI a1, vR 187], (G0, M))) hc 1 rfl ?_
      refine R_gd e (fun g3 e => ?_)
      refine Rn_iald hc rfl rfl tgc_187 zsc_187 g3 rfl ?_
      refine Rn_ms (σ' := (31, [some (vR 182), some (vI a1)], [vI (M 187 (wr a1).toNat)], (G0, M))) hc 1 rfl ?_
      cases e
      exact R_end (Rn_iret hc rfl rfl (xretI rfl rfl)) hK
def f_193_L52 (M : xM) (c1 : Int) (c2 : Int) (c3 : Int) (c4 : Int) (c5 : Int) (c6 : Int) (s0 : Int) : Option ((Int × Int) ⊕ (Int)) :=
  if wr c3 = 3 then
    if wr c6 ≤ wr c4 then
      some (.inl (c4, (c5 + 1)))
    else
      some (.inl (c6, (c5 + 1)))
  else
    some (.inl ((c4 + s0), (c5 + 1)))
theorem t_193_L52 {rom : xRom} {d : Nat} {c1 : Int} {c2 : Int} {c3 : Int} {c4 : Int} {c5 : Int} {c6 : Int} {s0 : Int} {M : xM} {r : (Int × Int) ⊕ (Int)} {out : Option xV × xH} (e : f_193_L52 M c1 c2 c3 c4 c5 c6 s0 = some r) (hK : ((Sum.elim (fun s => Rn rom (d + 1) 193 (6, [some (vR 182), some (vI c1), some (vI c2), some (vI c3), some (vI s.1), some (vI s.2), none, none], [], (G0, M)) out) (eI M out))) r) : Rn rom (d + 1) 193 (52, [some (vR 182), some (vI c1), some (vI c2), some (vI c3), some (vI c4), some (vI c5), some (vI c6), none], [vI s0], (G0, M)) out := by
  have hc : xkall.getD 193 [] = xk_193 := rfl
  unfold f_193_L52 at e
  refine Rn_ms (σ' := (56, [some (vR 182), some (vI c1), some (vI c2), some (vI c3), some (vI c4), some (vI c5), some (vI c6), some (vI s0)], [vI 3, vI c3], (G0, M))) hc 3 rfl ?_
  refine R_ite e (fun b5 e => ?_) (fun b5 e => ?_)
  · refine Rn_icF hc rfl rfl (by decide) (fun w => w b5) ?_
    refine Rn_ms (σ' := (63, [some (vR 182), some (vI c1), some (vI c2), some (vI c3), some (vI c4), some (vI c5), some (vI c6), some (vI s0)], [vI c4, vI c6], (G0, M))) hc 2 rfl ?_
    refine R_ite e (fun b6 e => ?_) (fun b6 e => ?_)
    · refine Rn_icT (tgt := 71) hc rfl rfl (by decide) b6 ?_
      refine Rn_ms (σ' := (6, [some (vR 182), some (vI c1), some (vI c2), some (vI c3), some (vI c4), some (vI (c5 + 1)), some (vI c6), some (vI s0)], [], (G0, M))) hc 5 rfl ?_
      cases e
      exact Rn_weak (xle_s (xle_s (xle_s (xle_s (xle_s (xle_s (xle_n (xle_n xle_0)))))))) hK
    · refine Rn_icF hc rfl rfl (by decide) b6 ?_
      refine Rn_ms (σ' := (6, [some (vR 182), some (vI c1), some (vI c2), some (vI c3), some (vI c6), some (vI (c5 + 1)), some (vI c6), some (vI s0)], [], (G0, M))) hc 5 rfl ?_
      cases e
      exact Rn_weak (xle_s (xle_s (xle_s (xle_s (xle_s (xle_s (xle_n (xle_n xle_0)))))))) hK
  · refine Rn_icT (tgt := 76) hc rfl rfl (by decide) (fun w => b5 w) ?_
    refine Rn_ms (σ' := (6, [some (vR 182), some (vI c1), some (vI c2), some (vI c3), some (vI (c4 + s0)), some (vI (c5 + 1)), some (vI c6), some (vI s0)], [], (G0, M))) hc 6 rfl ?_
    cases e
    exact Rn_weak (xle_s (xle_s (xle_s (xle_s (xle_s (xle_s (xle_n (xle_n xle_0)))))))) hK
def f_193_L6b (M : xM) (c1 : Int) (c2 : Int) (c3 : Int) (v4 : Int) (v5 : Int) : Option ((Int × Int) ⊕ (Int)) :=
  if wr (c2 * 36) ≤ wr v5 then
    some (.inr (v4))
  else
    (f_141 M c1 ((wr v5).tdiv 36) ((wr v5).tmod 36)).bind (fun k2 =>
    if wr c3 = 1 then
      if wr k2 ≤ 0 then
        f_193_L52 M c1 c2 c3 v4 v5 k2 0
      else
        f_193_L52 M c1 c2 c3 v4 v5 k2 1
    else
      f_193_L52 M c1 c2 c3 v4 v5 k2 k2
    )
theorem t_193_L6b {rom : xRom} {d : Nat} {c1 : Int} {c2 : Int} {c3 : Int} {v4 : Int} {v5 : Int} {M : xM} {r : (Int × Int) ⊕ (Int)} {out : Option xV × xH} (e : f_193_L6b M c1 c2 c3 v4 v5 = some r) (hK : ((Sum.elim (fun s => Rn rom (d + 1) 193 (6, [some (vR 182), some (vI c1), some (vI c2), some (vI c3), some (vI s.1), some (vI s.2), none, none], [], (G0, M)) out) (eI M out))) r) : Rn rom (d + 1) 193 (6, [some (vR 182), some (vI c1), some (vI c2), some (vI c3), some (vI v4), some (vI v5), none, none], [], (G0, M)) out := by
  have hc : xkall.getD 193 [] = xk_193 := rfl
  unfold f_193_L6b at e
  refine Rn_ms (σ' := (12, [some (vR 182), some (vI c1), some (vI c2), some (vI c3), some (vI v4), some (vI v5), none, none], [vI (c2 * 36), vI v5], (G0, M))) hc 4 rfl ?_
  refine R_ite e (fun b1 e => ?_) (fun b1 e => ?_)
  · refine Rn_icT (tgt := 89) hc rfl rfl (by decide) b1 ?_
    refine Rn_ms (σ' := (91, [some (vR 182), some (vI c1), some (vI c2), some (vI c3), some (vI v4), some (vI v5), none, none], [vI v4], (G0, M))) hc 1 rfl ?_
    cases e
    exact R_end (Rn_iret hc rfl rfl (xretI rfl rfl)) hK
  · refine Rn_icF hc rfl rfl (by decide) b1 ?_
    refine Rn_ms (σ' := (21, [some (vR 182), some (vI c1), some (vI c2), some (vI c3), some (vI v4), some (vI v5), none, none], [vI 36, vI v5, vI c1, vR 182], (G0, M))) hc 4 rfl ?_
    refine Rn_div hc rfl ⟨rfl, rfl⟩ (z' := 36) (by decide) (by decide) ?_
    refine Rn_ms (σ' := (26, [some (vR 182), some (vI c1), some (vI c2), some (vI c3), some (vI v4), some (vI v5), none, none], [vI 36, vI v5, vI ((wr v5).tdiv 36), vI c1, vR 182], (G0, M))) hc 2 rfl ?_
    refine Rn_rem hc rfl ⟨rfl, rfl⟩ (z' := 36) (by decide) (by decide) ?_
    show Rn rom (d + 1) 193 (27, [some (vR 182), some (vI c1), some (vI c2), some (vI c3), some (vI v4), some (vI v5), none, none], [vI ((wr v5).tmod 36), vI ((wr v5).tdiv 36), vI c1, vR 182], (G0, M)) out
    refine R_bind e (fun k2 hk2 e => ?_)
    refine Rn_cv hc rfl rfl (by decide) (ii := xi_141) rfl rfl rfl (tgc_182 : Tg _ = 11) (by decide) rfl (le := [some (vR 182), some (vI c1), some (vI ((wr v5).tdiv 36)), some (vI ((wr v5).tmod 36))]) rfl (v := some (vI k2)) (M' := M) (t_141  (d := d + 0) hk2 rfl) ?_
    refine Rn_ms (σ' := (34, [some (vR 182), some (vI c1), some (vI c2), some (vI c3), some (vI v4), some (vI v5), some (vI k2), none], [vI 1, vI c3], (G0, M))) hc 3 rfl ?_
    refine R_ite e (fun b3 e => ?_) (fun b3 e => ?_)
    · refine Rn_icF hc rfl rfl (by decide) (fun w => w b3) ?_
      refine Rn_ms (σ' := (39, [some (vR 182), some (vI c1), some (vI c2), some (vI c3), some (vI v4), some (vI v5), some (vI k2), none], [vI k2], (G0, M))) hc 1 rfl ?_
      refine R_ite e (fun b4 e => ?_) (fun b4 e => ?_)
      · refine Rn_ifT (tgt := 46) hc rfl rfl (by decide) b4 ?_
        refine Rn_ms (σ' := (52, [some (vR 182), some (vI c1), some (vI c2), some (vI c3), some (vI v4), some (vI v5), some (vI k2), none], [vI 0], (G0, M))) hc 2 rfl ?_
        exact Rn_weak (xle_s (xle_s (xle_s (xle_s (xle_s (xle_s (xle_s (xle_s xle_0)))))))) (t_193_L52  e hK)
      · refine Rn_ifF hc rfl rfl (by decide) b4 ?_
        refine Rn_ms (σ' := (52, [some (vR 182), some (vI c1), some (vI c2), some (vI c3), some (vI v4), some (vI v5), some (vI k2), none], [vI 1], (G0, M))) hc 2 rfl ?_
        exact Rn_weak (xle_s (xle_s (xle_s (xle_s (xle_s (xle_s (xle_s (xle_s xle_0)))))))) (t_193_L52  e hK)
    · refine Rn_icT (tgt := 50) hc rfl rfl (by decide) (fun w => b3 w) ?_
      refine Rn_ms (σ' := (52, [some (vR 182), some (vI c1), some (vI c2), some (vI c3), some (vI v4), some (vI v5), some (vI k2), none], [vI k2], (G0, M))) hc 1 rfl ?_
      exact Rn_weak (xle_s (xle_s (xle_s (xle_s (xle_s (xle_s (xle_s (xle_s xle_0)))))))) (t_193_L52  e hK)
def f_193_L6 (M : xM) (c1 : Int) (c2 : Int) (c3 : Int) (s : Int × Int) : Option (Int) := loop NF (fun s => f_193_L6b M c1 c2 c3 s.1 s.2) s
theorem t_193_L6 {rom : xRom} {d : Nat} {c1 : Int} {c2 : Int} {c3 : Int} {M : xM} {s : Int × Int} {r : Int} {out : Option xV × xH} (e : f_193_L6 M c1 c2 c3 s = some r) (hK : (eI M out) r) : Rn rom (d + 1) 193 (6, [some (vR 182), some (vI c1), some (vI c2), some (vI c3), some (vI s.1), some (vI s.2), none, none], [], (G0, M)) out := by
  unfold f_193_L6 at e
  revert e hK
  exact R_loop (b := fun s => f_193_L6b M c1 c2 c3 s.1 s.2) (G := fun s => Rn rom (d + 1) 193 (6, [some (vR 182), some (vI c1), some (vI c2), some (vI c3), some (vI s.1), some (vI s.2), none, none], [], (G0, M)) out) (K := eI M out) (fun s r e hK => t_193_L6b  e hK) NF s r
/-- PedalLayersModel.forces -/
def f_193 (M : xM) (a1 : Int) (a2 : Int) (a3 : Int) : Option (Int) :=
  f_193_L6 M a1 a2 a3 (0, 0)
theorem t_193 {rom : xRom} {d : Nat} {M : xM} {a1 : Int} {a2 : Int} {a3 : Int} {r : Int} {out : Option xV × xH} (e : f_193 M a1 a2 a3 = some r) (hK : eI M out r) : Rn rom (d + 1) 193 (0, [some (vR 182), some (vI a1), some (vI a2), some (vI a3), none, none, none, none], [], (G0, M)) out := by
  have hc : xkall.getD 193 [] = xk_193 := rfl
  unfold f_193 at e
  refine Rn_ms (σ' := (6, [some (vR 182), some (vI a1), some (vI a2), some (vI a3), some (vI 0), some (vI 0), none, none], [], (G0, M))) hc 4 rfl ?_
  exact Rn_weak (xle_s (xle_s (xle_s (xle_s (xle_s (xle_s (xle_s (xle_s xle_0)))))))) (t_193_L6  e hK)
def f_194_L57 (M : xM) (c1 : Int) (c2 : Int) : Option (Int) :=
  (f_139 M (14 + c1)).bind (fun k6 =>
  (f_193 M c1 k6 c2).bind (fun k7 =>
  some (k7)
  ))
theorem t_194_L57 {rom : xRom} {d : Nat} {c1 : Int} {c2 : Int} {M : xM} {r : Int} {out : Option xV × xH} (e : f_194_L57 M c1 c2 = some r) (hK : (eI M out) r) : Rn rom (d + 2) 194 (57, [some (vR 182), some (vI c1), some (vI c2)], [], (G0, M)) out := by
  have hc : xkall.getD 194 [] = xk_194 := rfl
  unfold f_194_L57 at e
  refine Rn_ms (σ' := (64, [some (vR 182), some (vI c1), some (vI c2)], [vI (14 + c1), vR 182, vI c1, vR 182], (G0, M))) hc 6 rfl ?_
  refine R_bind e (fun k6 hk6 e => ?_)
  refine Rn_cv hc rfl rfl (by decide) (ii := xi_139) rfl rfl rfl (tgc_182 : Tg _ = 11) (by decide) rfl (le := [some (vR 182), some (vI (14 + c1))]) rfl (v := some (vI k6)) (M' := M) (t_139  (d := d + 1) hk6 rfl) ?_
  refine Rn_ms (σ' := (68, [some (vR 182), some (vI c1), some (vI c2)], [vI c2, vI k6, vI c1, vR 182], (G0, M))) hc 1 rfl ?_
  refine R_bind e (fun k7 hk7 e => ?_)
  refine Rn_cv hc rfl rfl (by decide) (ii := xi_193) rfl rfl rfl (tgc_182 : Tg _ = 11) (by decide) rfl (le := [some (vR 182), some (vI c1), some (vI k6), some (vI c2), none, none, none, none]) rfl (v := some (vI k7)) (M' := M) (t_193  (d := d + 0) hk7 rfl) ?_
  show Rn rom (d + 2) 194 (71, [some (vR 182), some (vI c1), some (vI c2)], [vI k7], (G0, M)) out
  cases e
  exact R_end (Rn_iret hc rfl rfl (xretI rfl rfl)) hK
/-- PedalLayersModel.layer -/
def f_194 (M : xM) (a1 : Int) (a2 : Int) : Option (Int) :=
  (f_145 M a1).bind (fun k1 =>
  if wr k1 = 0 then
    some (-1)
  else
    if wr a2 = 0 then
      (f_139 M (14 + a1)).bind (fun k4 =>
      some (k4)
      )
    else
    if wr a2 = 1 then
      f_194_L57 M a1 a2
    else
    if wr a2 = 2 then
      f_194_L57 M a1 a2
    else
    if wr a2 = 3 then
      f_194_L57 M a1 a2
    else
    if wr a2 = 4 then
      (f_139 M (20 + a1)).bind (fun k11 =>
      some (k11)
      )
    else
    if wr a2 = 5 then
      (f_139 M (26 + a1)).bind (fun k13 =>
      some (k13)
      )
    else
    some (-1)
  )
theorem t_194 {rom : xRom} {d : Nat} {M : xM} {a1 : Int} {a2 : Int} {r : Int} {out : Option xV × xH} (e : f_194 M a1 a2 = some r) (hK : eI M out r) : Rn rom (d + 2) 194 (0, [some (vR 182), some (vI a1), some (vI a2)], [], (G0, M)) out := by
  have hc : xkall.getD 194 [] = xk_194 := rfl
  unfold f_194 at e
  refine Rn_ms (σ' := (2, [some (vR 182), some (vI a1), some (vI a2)], [vI a1, vR 182], (G0, M))) hc 2 rfl ?_
  refine R_bind e (fun k1 hk1 e => ?_)
  refine Rn_cv hc rfl rfl (by decide) (ii := xi_145) rfl rfl rfl (tgc_182 : Tg _ = 11) (by decide) rfl (le := [some (vR 182), some (vI a1)]) rfl (v := some (vI k1)) (M' := M) (t_145  (d := d + 0) hk1 rfl) ?_
  show Rn rom (d + 2) 194 (5, [some (vR 182), some (vI a1), some (vI a2)], [vI k1], (G0, M)) out
  refine R_ite e (fun b2 e => ?_) (fun b2 e => ?_)
  · refine Rn_ifF hc rfl rfl (by decide) (fun w => w b2) ?_
    refine Rn_ms (σ' := (9, [some (vR 182), some (vI a1), some (vI a2)], [vI (-1)], (G0, M))) hc 1 rfl ?_
    cases e
    exact R_end (Rn_iret hc rfl rfl (xretI rfl rfl)) hK
  · refine Rn_ifT (tgt := 10) hc rfl rfl (by decide) (fun w => b2 w) ?_
    refine Rn_ms (σ' := (11, [some (vR 182), some (vI a1), some (vI a2)], [vI a2], (G0, M))) hc 1 rfl ?_
    refine R_ite e (fun b3 e => ?_) (fun b3 e => ?_)
    · refine Rn_tsw (off := 37) (tgt := 48) hc rfl rfl (xsw_at b3 (by decide) (by decide) (by decide) rfl) rfl ?_
      refine Rn_ms (σ' := (53, [some (vR 182), some (vI a1), some (vI a2)], [vI (14 + a1), vR 182], (G0, M))) hc 4 rfl ?_
      refine R_bind e (fun k4 hk4 e => ?_)
      refine Rn_cv hc rfl rfl (by decide) (ii := xi_139) rfl rfl rfl (tgc_182 : Tg _ = 11) (by decide) rfl (le := [some (vR 182), some (vI (14 + a1))]) rfl (v := some (vI k4)) (M' := M) (t_139  (d := d + 1) hk4 rfl) ?_
      show Rn rom (d + 2) 194 (56, [some (vR 182), some (vI a1), some (vI a2)], [vI k4], (G0, M)) out
      cases e
      exact R_end (Rn_iret hc rfl rfl (xretI rfl rfl)) hK
    refine R_ite e (fun b5 e => ?_) (fun b5 e => ?_)
    · refine Rn_tsw (off := 46) (tgt := 57) hc rfl rfl (xsw_at b5 (by decide) (by decide) (by decide) rfl) rfl ?_
      show Rn rom (d + 2) 194 (57, [some (vR 182), some (vI a1), some (vI a2)], [], (G0, M)) out
      exact Rn_weak (xle_s (xle_s (xle_s xle_0))) (t_194_L57  e hK)
    refine R_ite e (fun b8 e => ?_) (fun b8 e => ?_)
    · refine Rn_tsw (off := 46) (tgt := 57) hc rfl rfl (xsw_at b8 (by decide) (by decide) (by decide) rfl) rfl ?_
      show Rn rom (d + 2) 194 (57, [some (vR 182), some (vI a1), some (vI a2)], [], (G0, M)) out
      exact Rn_weak (xle_s (xle_s (xle_s xle_0))) (t_194_L57  e hK)
    refine R_ite e (fun b9 e => ?_) (fun b9 e => ?_)
    · refine Rn_tsw (off := 46) (tgt := 57) hc rfl rfl (xsw_at b9 (by decide) (by decide) (by decide) rfl) rfl ?_
      show Rn rom (d + 2) 194 (57, [some (vR 182), some (vI a1), some (vI a2)], [], (G0, M)) out
      exact Rn_weak (xle_s (xle_s (xle_s xle_0))) (t_194_L57  e hK)
    refine R_ite e (fun b10 e => ?_) (fun b10 e => ?_)
    · refine Rn_tsw (off := 61) (tgt := 72) hc rfl rfl (xsw_at b10 (by decide) (by decide) (by decide) rfl) rfl ?_
      refine Rn_ms (σ' := (77, [some (vR 182), some (vI a1), some (vI a2)], [vI (20 + a1), vR 182], (G0, M))) hc 4 rfl ?_
      refine R_bind e (fun k11 hk11 e => ?_)
      refine Rn_cv hc rfl rfl (by decide) (ii := xi_139) rfl rfl rfl (tgc_182 : Tg _ = 11) (by decide) rfl (le := [some (vR 182), some (vI (20 + a1))]) rfl (v := some (vI k11)) (M' := M) (t_139  (d := d + 1) hk11 rfl) ?_
      show Rn rom (d + 2) 194 (80, [some (vR 182), some (vI a1), some (vI a2)], [vI k11], (G0, M)) out
      cases e
      exact R_end (Rn_iret hc rfl rfl (xretI rfl rfl)) hK
    refine R_ite e (fun b12 e => ?_) (fun b12 e => ?_)
    · refine Rn_tsw (off := 70) (tgt := 81) hc rfl rfl (xsw_at b12 (by decide) (by decide) (by decide) rfl) rfl ?_
      refine Rn_ms (σ' := (86, [some (vR 182), some (vI a1), some (vI a2)], [vI (26 + a1), vR 182], (G0, M))) hc 4 rfl ?_
      refine R_bind e (fun k13 hk13 e => ?_)
      refine Rn_cv hc rfl rfl (by decide) (ii := xi_139) rfl rfl rfl (tgc_182 : Tg _ = 11) (by decide) rfl (le := [some (vR 182), some (vI (26 + a1))]) rfl (v := some (vI k13)) (M' := M) (t_139  (d := d + 1) hk13 rfl) ?_
      show Rn rom (d + 2) 194 (89, [some (vR 182), some (vI a1), some (vI a2)], [vI k13], (G0, M)) out
      cases e
      exact R_end (Rn_iret hc rfl rfl (xretI rfl rfl)) hK
    refine Rn_tsw (off := 79) (tgt := 90) hc rfl rfl (xsw_df (by omega)) rfl ?_
    refine Rn_ms (σ' := (91, [some (vR 182), some (vI a1), some (vI a2)], [vI (-1)], (G0, M))) hc 1 rfl ?_
    cases e
    exact R_end (Rn_iret hc rfl rfl (xretI rfl rfl)) hK
