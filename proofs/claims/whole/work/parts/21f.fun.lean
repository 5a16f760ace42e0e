/-! functions for methods, by program (wip/whole/gen/dec.py) -/
/-- PedalLayers.loudness -/
def f_120 (M : xM) : Option (UInt64 × xM) :=
  (f_62 M 2 (M 2 5)).bind (fun k1 =>
  if 0 < wr k1 then
    (f_8 M 2 (M 2 5)).bind (fun k3 =>
    gn (FP.ddiv (xi2d k3.1) (xi2d k1)) (
    some ((FP.ddiv (xi2d k3.1) (xi2d k1)), k3.2)
    ))
  else
    some (FP.dconst0, M)
  )
theorem t_120 {rom : xRom} {d : Nat} {M : xM}  {r : UInt64 × xM} {out : Option xV × xH} (e : f_120 M = some r) (hK : eDW out r) : Rn rom (d + 5) 120 (0, [some (vR 1), none], [], (G0, M)) out := by
  have hc : xkall.getD 120 [] = xk_120 := rfl
  unfold f_120 at e
  refine Rn_ms (σ' := (1, [some (vR 1), none], [vR 1], (G0, M))) hc 1 rfl ?_
  refine Rn_getR hc rfl tgc_1 (by decide) rfl prc_1_0 ?_
  refine Rn_ms (σ' := (5, [some (vR 1), none], [vR 1, vR 2], (G0, M))) hc 1 rfl ?_
  refine Rn_getR hc rfl tgc_1 (by decide) rfl prc_1_0 ?_
  show Rn rom (d + 5) 120 (8, [some (vR 1), none], [vR 2, vR 2], (G0, M)) out
  refine Rn_getI hc rfl tgc_2 (by decide) (by decide) ?_
  show Rn rom (d + 5) 120 (11, [some (vR 1), none], [vI (M 2 5), vR 2], (G0, M)) out
  refine R_bind e (fun k1 hk1 e => ?_)
  refine Rn_cv hc rfl rfl (by decide) (ii := xi_62) rfl rfl rfl (tgc_2 : Tg _ = 7) (by decide) rfl (le := [some (vR 2), some (vI (M 2 5)), none, none, none]) rfl (v := some (vI k1)) (M' := M) (t_62 tgc_2 (d := d + 3) hk1 rfl) ?_
  refine Rn_ms (σ' := (16, [some (vR 1), some (vI k1)], [vI k1], (G0, M))) hc 2 rfl ?_
  refine R_ite e (fun b2 e => ?_) (fun b2 e => ?_)
  · refine Rn_ifT (tgt := 21) hc rfl rfl (by decide) b2 ?_
    refine Rn_ms (σ' := (22, [some (vR 1), some (vI k1)], [vR 1], (G0, M))) hc 1 rfl ?_
    refine Rn_getR hc rfl tgc_1 (by decide) rfl prc_1_7 ?_
    refine Rn_ms (σ' := (26, [some (vR 1), some (vI k1)], [vR 1, vR 177], (G0, M))) hc 1 rfl ?_
    refine Rn_getR hc rfl tgc_1 (by decide) rfl prc_1_0 ?_
    refine Rn_ms (σ' := (30, [some (vR 1), some (vI k1)], [vR 1, vR 2, vR 177], (G0, M))) hc 1 rfl ?_
    refine Rn_getR hc rfl tgc_1 (by decide) rfl prc_1_0 ?_
    show Rn rom (d + 5) 120 (33, [some (vR 1), some (vI k1)], [vR 2, vR 2, vR 177], (G0, M)) out
    refine Rn_getI hc rfl tgc_2 (by decide) (by decide) ?_
    show Rn rom (d + 5) 120 (36, [some (vR 1), some (vI k1)], [vI (M 2 5), vR 2, vR 177], (G0, M)) out
    refine R_bind e (fun k3 hk3 e => ?_)
    refine Rn_cv hc rfl rfl (by decide) (ii := xi_8) rfl rfl rfl (tgc_177 : Tg _ = 0) (by decide) rfl (le := [some (vR 177), some (vR 2), some (vI (M 2 5)), none, none, none]) rfl (v := some (vI k3.1)) (M' := k3.2) (t_8 tgc_2 (d := d + 0) hk3 rfl) ?_
    refine Rn_ms (σ' := (42, [some (vR 1), some (vI k1)], [vD (xi2d k1), vD (xi2d k3.1)], (G0, k3.2))) hc 3 rfl ?_
    refine R_gn e (fun g4 e => ?_)
    refine Rn_ddiv hc rfl ⟨rfl, rfl⟩ g4 ?_
    show Rn rom (d + 5) 120 (43, [some (vR 1), some (vI k1)], [vD (FP.ddiv (xi2d k3.1) (xi2d k1))], (G0, k3.2)) out
    cases e
    exact R_end (Rn_dret hc rfl rfl rfl rfl) hK
  · refine Rn_ifF hc rfl rfl (by decide) b2 ?_
    refine Rn_ms (σ' := (20, [some (vR 1), some (vI k1)], [vD FP.dconst0], (G0, M))) hc 1 rfl ?_
    cases e
    exact R_end (Rn_dret hc rfl rfl rfl rfl) hK
/-- PedalLayers.untilMultiple -/
def f_135 (a0 : Int) (a1 : Int) : Int :=
  (f_134 (a1 - (f_134 a0 a1)) a1)
theorem t_135 {rom : xRom} {d : Nat} {M : xM} {a0 : Int} {a1 : Int} {r : Int} {out : Option xV × xH} (e : f_135 a0 a1 = r) (hK : eI M out r) : Rn rom (d + 1) 135 (0, [some (vI a0), some (vI a1)], [], (G0, M)) out := by
  have hc : xkall.getD 135 [] = xk_135 := rfl
  unfold f_135 at e
  refine Rn_ms (σ' := (3, [some (vI a0), some (vI a1)], [vI a1, vI a0, vI a1], (G0, M))) hc 3 rfl ?_
  refine Rn_cs hc rfl rfl (by decide) (ii := xi_134) rfl rfl rfl (le := [some (vI a0), some (vI a1)]) rfl (v := some (vI (f_134 a0 a1))) (M' := M) (t_134  (d := d + 0) rfl rfl) ?_
  refine Rn_ms (σ' := (8, [some (vI a0), some (vI a1)], [vI a1, vI (a1 - (f_134 a0 a1))], (G0, M))) hc 2 rfl ?_
  refine Rn_cs hc rfl rfl (by decide) (ii := xi_134) rfl rfl rfl (le := [some (vI (a1 - (f_134 a0 a1))), some (vI a1)]) rfl (v := some (vI (f_134 (a1 - (f_134 a0 a1)) a1))) (M' := M) (t_134  (d := d + 0) rfl rfl) ?_
  show Rn rom (d + 1) 135 (11, [some (vI a0), some (vI a1)], [vI (f_134 (a1 - (f_134 a0 a1)) a1)], (G0, M)) out
  cases e
  exact R_end (Rn_iret hc rfl rfl (xretI rfl rfl)) hK
/-- PedalLayers.barIn -/
def f_121 (M : xM) : Int :=
  if wr (f_61 M 2) = 0 then
    (-2)
  else
    (f_135 (M 2 9) (2 * (f_59 M 2 0)))
theorem t_121 {rom : xRom} {d : Nat} {M : xM}  {r : Int} {out : Option xV × xH} (e : f_121 M = r) (hK : eI M out r) : Rn rom (d + 2) 121 (0, [some (vR 1)], [], (G0, M)) out := by
  have hc : xkall.getD 121 [] = xk_121 := rfl
  unfold f_121 at e
  refine Rn_ms (σ' := (1, [some (vR 1)], [vR 1], (G0, M))) hc 1 rfl ?_
  refine Rn_getR hc rfl tgc_1 (by decide) rfl prc_1_0 ?_
  show Rn rom (d + 2) 121 (4, [some (vR 1)], [vR 2], (G0, M)) out
  refine Rn_cv hc rfl rfl (by decide) (ii := xi_61) rfl rfl rfl (tgc_2 : Tg _ = 7) (by decide) rfl (le := [some (vR 2)]) rfl (v := some (vI (f_61 M 2))) (M' := M) (t_61 tgc_2 (d := d + 1) rfl rfl) ?_
  show Rn rom (d + 2) 121 (7, [some (vR 1)], [vI (f_61 M 2)], (G0, M)) out
  refine R_ite e (fun b1 e => ?_) (fun b1 e => ?_)
  · refine Rn_ifF hc rfl rfl (by decide) (fun w => w b1) ?_
    refine Rn_ms (σ' := (12, [some (vR 1)], [vI (-2)], (G0, M))) hc 1 rfl ?_
    cases e
    exact R_end (Rn_iret hc rfl rfl (xretI rfl rfl)) hK
  · refine Rn_ifT (tgt := 13) hc rfl rfl (by decide) (fun w => b1 w) ?_
    refine Rn_ms (σ' := (14, [some (vR 1)], [vR 1], (G0, M))) hc 1 rfl ?_
    refine Rn_getR hc rfl tgc_1 (by decide) rfl prc_1_0 ?_
    show Rn rom (d + 2) 121 (17, [some (vR 1)], [vR 2], (G0, M)) out
    refine Rn_getI hc rfl tgc_2 (by decide) (by decide) ?_
    refine Rn_ms (σ' := (22, [some (vR 1)], [vR 1, vI 2, vI (M 2 9)], (G0, M))) hc 2 rfl ?_
    refine Rn_getR hc rfl tgc_1 (by decide) rfl prc_1_0 ?_
    refine Rn_ms (σ' := (26, [some (vR 1)], [vI 0, vR 2, vI 2, vI (M 2 9)], (G0, M))) hc 1 rfl ?_
    refine Rn_cv hc rfl rfl (by decide) (ii := xi_59) rfl rfl rfl (tgc_2 : Tg _ = 7) (by decide) rfl (le := [some (vR 2), some (vI 0)]) rfl (v := some (vI (f_59 M 2 0))) (M' := M) (t_59 tgc_2 (d := d + 1) rfl rfl) ?_
    refine Rn_ms (σ' := (30, [some (vR 1)], [vI (2 * (f_59 M 2 0)), vI (M 2 9)], (G0, M))) hc 1 rfl ?_
    refine Rn_cs hc rfl rfl (by decide) (ii := xi_135) rfl rfl rfl (le := [some (vI (M 2 9)), some (vI (2 * (f_59 M 2 0)))]) rfl (v := some (vI (f_135 (M 2 9) (2 * (f_59 M 2 0))))) (M' := M) (t_135  (d := d + 0) rfl rfl) ?_
    show Rn rom (d + 2) 121 (33, [some (vR 1)], [vI (f_135 (M 2 9) (2 * (f_59 M 2 0)))], (G0, M)) out
    cases e
    exact R_end (Rn_iret hc rfl rfl (xretI rfl rfl)) hK
/-- PedalLayers.drift -/
def f_122 (M : xM) (a1 : Int) : Option (Int) :=
  if wr a1 < 0 then
    some (-1)
  else
    if wr a1 ≤ 99 then
      (f_62 M 2 (M 2 5)).bind (fun k3 =>
      if wr k3 = 0 then
        some (-2)
      else
        if wr k3 ≤ wr (f_135 (a1 * k3) (f_59 M 2 0)) then
          some (-4)
        else
          some (f_135 (a1 * k3) (f_59 M 2 0))
      )
    else
      some (-1)
theorem t_122 {rom : xRom} {d : Nat} {M : xM} {a1 : Int} {r : Int} {out : Option xV × xH} (e : f_122 M a1 = some r) (hK : eI M out r) : Rn rom (d + 2) 122 (0, [some (vR 1), some (vI a1), none, none], [], (G0, M)) out := by
  have hc : xkall.getD 122 [] = xk_122 := rfl
  unfold f_122 at e
  refine Rn_ms (σ' := (1, [some (vR 1), some (vI a1), none, none], [vI a1], (G0, M))) hc 1 rfl ?_
  refine R_ite e (fun b1 e => ?_) (fun b1 e => ?_)
  · refine Rn_ifT (tgt := 10) hc rfl rfl (by decide) b1 ?_
    refine Rn_ms (σ' := (11, [some (vR 1), some (vI a1), none, none], [vI (-1)], (G0, M))) hc 1 rfl ?_
    cases e
    exact R_end (Rn_iret hc rfl rfl (xretI rfl rfl)) hK
  · refine Rn_ifF hc rfl rfl (by decide) b1 ?_
    refine Rn_ms (σ' := (7, [some (vR 1), some (vI a1), none, none], [vI 99, vI a1], (G0, M))) hc 2 rfl ?_
    refine R_ite e (fun b2 e => ?_) (fun b2 e => ?_)
    · refine Rn_icT (tgt := 12) hc rfl rfl (by decide) b2 ?_
      refine Rn_ms (σ' := (13, [some (vR 1), some (vI a1), none, none], [vR 1], (G0, M))) hc 1 rfl ?_
      refine Rn_getR hc rfl tgc_1 (by decide) rfl prc_1_0 ?_
      refine Rn_ms (σ' := (17, [some (vR 1), some (vI a1), none, none], [vR 1, vR 2], (G0, M))) hc 1 rfl ?_
      refine Rn_getR hc rfl tgc_1 (by decide) rfl prc_1_0 ?_
      show Rn rom (d + 2) 122 (20, [some (vR 1), some (vI a1), none, none], [vR 2, vR 2], (G0, M)) out
      refine Rn_getI hc rfl tgc_2 (by decide) (by decide) ?_
      show Rn rom (d + 2) 122 (23, [some (vR 1), some (vI a1), none, none], [vI (M 2 5), vR 2], (G0, M)) out
      refine R_bind e (fun k3 hk3 e => ?_)
      refine Rn_cv hc rfl rfl (by decide) (ii := xi_62) rfl rfl rfl (tgc_2 : Tg _ = 7) (by decide) rfl (le := [some (vR 2), some (vI (M 2 5)), none, none, none]) rfl (v := some (vI k3)) (M' := M) (t_62 tgc_2 (d := d + 0) hk3 rfl) ?_
      refine Rn_ms (σ' := (28, [some (vR 1), some (vI a1), some (vI k3), none], [vI k3], (G0, M))) hc 2 rfl ?_
      refine R_ite e (fun b4 e => ?_) (fun b4 e => ?_)
      · refine Rn_ifF hc rfl rfl (by decide) (fun w => w b4) ?_
        refine Rn_ms (σ' := (33, [some (vR 1), some (vI a1), some (vI k3), none], [vI (-2)], (G0, M))) hc 1 rfl ?_
        cases e
        exact R_end (Rn_iret hc rfl rfl (xretI rfl rfl)) hK
      · refine Rn_ifT (tgt := 34) hc rfl rfl (by decide) (fun w => b4 w) ?_
        refine Rn_ms (σ' := (38, [some (vR 1), some (vI a1), some (vI k3), none], [vR 1, vI (a1 * k3)], (G0, M))) hc 4 rfl ?_
        refine Rn_getR hc rfl tgc_1 (by decide) rfl prc_1_0 ?_
        refine Rn_ms (σ' := (42, [some (vR 1), some (vI a1), some (vI k3), none], [vI 0, vR 2, vI (a1 * k3)], (G0, M))) hc 1 rfl ?_
        refine Rn_cv hc rfl rfl (by decide) (ii := xi_59) rfl rfl rfl (tgc_2 : Tg _ = 7) (by decide) rfl (le := [some (vR 2), some (vI 0)]) rfl (v := some (vI (f_59 M 2 0))) (M' := M) (t_59 tgc_2 (d := d + 1) rfl rfl) ?_
        show Rn rom (d + 2) 122 (45, [some (vR 1), some (vI a1), some (vI k3), none], [vI (f_59 M 2 0), vI (a1 * k3)], (G0, M)) out
        refine Rn_cs hc rfl rfl (by decide) (ii := xi_135) rfl rfl rfl (le := [some (vI (a1 * k3)), some (vI (f_59 M 2 0))]) rfl (v := some (vI (f_135 (a1 * k3) (f_59 M 2 0)))) (M' := M) (t_135  (d := d + 0) rfl rfl) ?_
        refine Rn_ms (σ' := (51, [some (vR 1), some (vI a1), some (vI k3), some (vI (f_135 (a1 * k3) (f_59 M 2 0)))], [vI k3, vI (f_135 (a1 * k3) (f_59 M 2 0))], (G0, M))) hc 3 rfl ?_
        refine R_ite e (fun b5 e => ?_) (fun b5 e => ?_)
        · refine Rn_icT (tgt := 58) hc rfl rfl (by decide) b5 ?_
          refine Rn_ms (σ' := (60, [some (vR 1), some (vI a1), some (vI k3), some (vI (f_135 (a1 * k3) (f_59 M 2 0)))], [vI (-4)], (G0, M))) hc 1 rfl ?_
          cases e
          exact R_end (Rn_iret hc rfl rfl (xretI rfl rfl)) hK
        · refine Rn_icF hc rfl rfl (by decide) b5 ?_
          refine Rn_ms (σ' := (60, [some (vR 1), some (vI a1), some (vI k3), some (vI (f_135 (a1 * k3) (f_59 M 2 0)))], [vI (f_135 (a1 * k3) (f_59 M 2 0))], (G0, M))) hc 2 rfl ?_
          cases e
          exact R_end (Rn_iret hc rfl rfl (xretI rfl rfl)) hK
    · refine Rn_icF hc rfl rfl (by decide) b2 ?_
      refine Rn_ms (σ' := (11, [some (vR 1), some (vI a1), none, none], [vI (-1)], (G0, M))) hc 1 rfl ?_
      cases e
      exact R_end (Rn_iret hc rfl rfl (xretI rfl rfl)) hK
def f_123_L33b (M : xM) (c1 : Int) (c2 : Int) (v3 : Int) : Option ((Int) ⊕ (Int)) :=
  if wr c2 ≤ wr v3 then
    some (.inr (v3))
  else
    if wr (f_134 (v3 * c1) c2) = 0 then
      some (.inr (v3))
    else
      some (.inl (v3 + 1))
theorem t_123_L33b {rom : xRom} {d : Nat} {c1 : Int} {c2 : Int} {v3 : Int} {M : xM} {r : (Int) ⊕ (Int)} {out : Option xV × xH} (e : f_123_L33b M c1 c2 v3 = some r) (hK : ((Sum.elim (fun s => Rn rom (d + 2) 123 (33, [none, some (vI c1), some (vI c2), some (vI s)], [], (G0, M)) out) (eI M out))) r) : Rn rom (d + 2) 123 (33, [none, some (vI c1), some (vI c2), some (vI v3)], [], (G0, M)) out := by
  have hc : xkall.getD 123 [] = xk_123 := rfl
  unfold f_123_L33b at e
  refine Rn_ms (σ' := (35, [none, some (vI c1), some (vI c2), some (vI v3)], [vI c2, vI v3], (G0, M))) hc 2 rfl ?_
  refine R_ite e (fun b3 e => ?_) (fun b3 e => ?_)
  · refine Rn_icT (tgt := 54) hc rfl rfl (by decide) b3 ?_
    refine Rn_ms (σ' := (55, [none, some (vI c1), some (vI c2), some (vI v3)], [vI v3], (G0, M))) hc 1 rfl ?_
    cases e
    exact R_end (Rn_iret hc rfl rfl (xretI rfl rfl)) hK
  · refine Rn_icF hc rfl rfl (by decide) b3 ?_
    refine Rn_ms (σ' := (42, [none, some (vI c1), some (vI c2), some (vI v3)], [vI c2, vI (v3 * c1)], (G0, M))) hc 4 rfl ?_
    refine Rn_cs hc rfl rfl (by decide) (ii := xi_134) rfl rfl rfl (le := [some (vI (v3 * c1)), some (vI c2)]) rfl (v := some (vI (f_134 (v3 * c1) c2))) (M' := M) (t_134  (d := d + 1) rfl rfl) ?_
    show Rn rom (d + 2) 123 (45, [none, some (vI c1), some (vI c2), some (vI v3)], [vI (f_134 (v3 * c1) c2)], (G0, M)) out
    refine R_ite e (fun b4 e => ?_) (fun b4 e => ?_)
    · refine Rn_ifT (tgt := 54) hc rfl rfl (by decide) b4 ?_
      refine Rn_ms (σ' := (55, [none, some (vI c1), some (vI c2), some (vI v3)], [vI v3], (G0, M))) hc 1 rfl ?_
      cases e
      exact R_end (Rn_iret hc rfl rfl (xretI rfl rfl)) hK
    · refine Rn_ifF hc rfl rfl (by decide) b4 ?_
      refine Rn_ms (σ' := (33, [none, some (vI c1), some (vI c2), some (vI (v3 + 1))], [], (G0, M))) hc 2 rfl ?_
      cases e
      exact Rn_weak (xle_s (xle_s (xle_s (xle_s xle_0)))) hK
def f_123_L33 (M : xM) (c1 : Int) (c2 : Int) (s : Int) : Option (Int) := loop NF (fun s => f_123_L33b M c1 c2 s) s
theorem t_123_L33 {rom : xRom} {d : Nat} {c1 : Int} {c2 : Int} {M : xM} {s : Int} {r : Int} {out : Option xV × xH} (e : f_123_L33 M c1 c2 s = some r) (hK : (eI M out) r) : Rn rom (d + 2) 123 (33, [none, some (vI c1), some (vI c2), some (vI s)], [], (G0, M)) out := by
  unfold f_123_L33 at e
  revert e hK
  exact R_loop (b := fun s => f_123_L33b M c1 c2 s) (G := fun s => Rn rom (d + 2) 123 (33, [none, some (vI c1), some (vI c2), some (vI s)], [], (G0, M)) out) (K := eI M out) (fun s r e hK => t_123_L33b  e hK) NF s r
/-- PedalLayers.meets -/
def f_123 (M : xM) : Option (Int) :=
  (f_62 M 2 (M 2 5)).bind (fun k1 =>
  if wr k1 = 0 then
    some (-2)
  else
    f_123_L33 M k1 (f_59 M 2 0) (1)
  )
theorem t_123 {rom : xRom} {d : Nat} {M : xM}  {r : Int} {out : Option xV × xH} (e : f_123 M = some r) (hK : eI M out r) : Rn rom (d + 2) 123 (0, [some (vR 1), none, none, none], [], (G0, M)) out := by
  have hc : xkall.getD 123 [] = xk_123 := rfl
  unfold f_123 at e
  refine Rn_ms (σ' := (1, [some (vR 1), none, none, none], [vR 1], (G0, M))) hc 1 rfl ?_
  refine Rn_getR hc rfl tgc_1 (by decide) rfl prc_1_0 ?_
  refine Rn_ms (σ' := (5, [some (vR 1), none, none, none], [vR 1, vR 2], (G0, M))) hc 1 rfl ?_
  refine Rn_getR hc rfl tgc_1 (by decide) rfl prc_1_0 ?_
  show Rn rom (d + 2) 123 (8, [some (vR 1), none, none, none], [vR 2, vR 2], (G0, M)) out
  refine Rn_getI hc rfl tgc_2 (by decide) (by decide) ?_
  show Rn rom (d + 2) 123 (11, [some (vR 1), none, none, none], [vI (M 2 5), vR 2], (G0, M)) out
  refine R_bind e (fun k1 hk1 e => ?_)
  refine Rn_cv hc rfl rfl (by decide) (ii := xi_62) rfl rfl rfl (tgc_2 : Tg _ = 7) (by decide) rfl (le := [some (vR 2), some (vI (M 2 5)), none, none, none]) rfl (v := some (vI k1)) (M' := M) (t_62 tgc_2 (d := d + 0) hk1 rfl) ?_
  refine Rn_ms (σ' := (16, [some (vR 1), some (vI k1), none, none], [vI k1], (G0, M))) hc 2 rfl ?_
  refine R_ite e (fun b2 e => ?_) (fun b2 e => ?_)
  · refine Rn_ifF hc rfl rfl (by decide) (fun w => w b2) ?_
    refine Rn_ms (σ' := (21, [some (vR 1), some (vI k1), none, none], [vI (-2)], (G0, M))) hc 1 rfl ?_
    cases e
    exact R_end (Rn_iret hc rfl rfl (xretI rfl rfl)) hK
  · refine Rn_ifT (tgt := 22) hc rfl rfl (by decide) (fun w => b2 w) ?_
    refine Rn_ms (σ' := (23, [some (vR 1), some (vI k1), none, none], [vR 1], (G0, M))) hc 1 rfl ?_
    refine Rn_getR hc rfl tgc_1 (by decide) rfl prc_1_0 ?_
    refine Rn_ms (σ' := (27, [some (vR 1), some (vI k1), none, none], [vI 0, vR 2], (G0, M))) hc 1 rfl ?_
    refine Rn_cv hc rfl rfl (by decide) (ii := xi_59) rfl rfl rfl (tgc_2 : Tg _ = 7) (by decide) rfl (le := [some (vR 2), some (vI 0)]) rfl (v := some (vI (f_59 M 2 0))) (M' := M) (t_59 tgc_2 (d := d + 1) rfl rfl) ?_
    refine Rn_ms (σ' := (33, [some (vR 1), some (vI k1), some (vI (f_59 M 2 0)), some (vI 1)], [], (G0, M))) hc 3 rfl ?_
    exact Rn_weak (xle_n (xle_s (xle_s (xle_s xle_0)))) (t_123_L33  e hK)
/-- PedalLayers.rounded -/
def f_124 (M : xM) (a1 : Int) : Option (Int) :=
  if wr a1 < 1 then
    some (-1)
  else
    if wr a1 ≤ 24 then
      (f_68 M 2 a1).bind (fun k3 =>
      some (k3)
      )
    else
      some (-1)
theorem t_124 {rom : xRom} {d : Nat} {M : xM} {a1 : Int} {r : Int} {out : Option xV × xH} (e : f_124 M a1 = some r) (hK : eI M out r) : Rn rom (d + 2) 124 (0, [some (vR 1), some (vI a1)], [], (G0, M)) out := by
  have hc : xkall.getD 124 [] = xk_124 := rfl
  unfold f_124 at e
  refine Rn_ms (σ' := (2, [some (vR 1), some (vI a1)], [vI 1, vI a1], (G0, M))) hc 2 rfl ?_
  refine R_ite e (fun b1 e => ?_) (fun b1 e => ?_)
  · refine Rn_icT (tgt := 11) hc rfl rfl (by decide) b1 ?_
    refine Rn_ms (σ' := (12, [some (vR 1), some (vI a1)], [vI (-1)], (G0, M))) hc 1 rfl ?_
    cases e
    exact R_end (Rn_iret hc rfl rfl (xretI rfl rfl)) hK
  · refine Rn_icF hc rfl rfl (by decide) b1 ?_
    refine Rn_ms (σ' := (8, [some (vR 1), some (vI a1)], [vI 24, vI a1], (G0, M))) hc 2 rfl ?_
    refine R_ite e (fun b2 e => ?_) (fun b2 e => ?_)
    · refine Rn_icT (tgt := 13) hc rfl rfl (by decide) b2 ?_
      refine Rn_ms (σ' := (14, [some (vR 1), some (vI a1)], [vR 1], (G0, M))) hc 1 rfl ?_
      refine Rn_getR hc rfl tgc_1 (by decide) rfl prc_1_0 ?_
      refine Rn_ms (σ' := (18, [some (vR 1), some (vI a1)], [vI a1, vR 2], (G0, M))) hc 1 rfl ?_
      refine R_bind e (fun k3 hk3 e => ?_)
      refine Rn_cv hc rfl rfl (by decide) (ii := xi_68) rfl rfl rfl (tgc_2 : Tg _ = 7) (by decide) rfl (le := [some (vR 2), some (vI a1), none, none, none, none, none]) rfl (v := some (vI k3)) (M' := M) (t_68 tgc_2 (d := d + 0) hk3 rfl) ?_
      show Rn rom (d + 2) 124 (21, [some (vR 1), some (vI a1)], [vI k3], (G0, M)) out
      cases e
      exact R_end (Rn_iret hc rfl rfl (xretI rfl rfl)) hK
    · refine Rn_icF hc rfl rfl (by decide) b2 ?_
      refine Rn_ms (σ' := (12, [some (vR 1), some (vI a1)], [vI (-1)], (G0, M))) hc 1 rfl ?_
      cases e
      exact R_end (Rn_iret hc rfl rfl (xretI rfl rfl)) hK
def f_125_L23b (M : xM) (v1 : Int) (v2 : Int) : Option ((Int × Int) ⊕ (Int)) :=
  if 99 < wr v2 then
    some (.inr ((-4)))
  else
    if wr v1 = 0 then
      some (.inr (v2))
    else
      some (.inl ((f_136 v1 (f_59 M 2 2)), (v2 + 1)))
theorem t_125_L23b {rom : xRom} {d : Nat} {v1 : Int} {v2 : Int} {M : xM} {r : (Int × Int) ⊕ (Int)} {out : Option xV × xH} (e : f_125_L23b M v1 v2 = some r) (hK : ((Sum.elim (fun s => Rn rom (d + 4) 125 (23, [some (vR 1), some (vI s.1), some (vI s.2)], [], (G0, M)) out) (eI M out))) r) : Rn rom (d + 4) 125 (23, [some (vR 1), some (vI v1), some (vI v2)], [], (G0, M)) out := by
  have hc : xkall.getD 125 [] = xk_125 := rfl
  unfold f_125_L23b at e
  refine Rn_ms (σ' := (26, [some (vR 1), some (vI v1), some (vI v2)], [vI 99, vI v2], (G0, M))) hc 2 rfl ?_
  refine R_ite e (fun b3 e => ?_) (fun b3 e => ?_)
  · refine Rn_icT (tgt := 54) hc rfl rfl (by decide) b3 ?_
    refine Rn_ms (σ' := (56, [some (vR 1), some (vI v1), some (vI v2)], [vI (-4)], (G0, M))) hc 1 rfl ?_
    cases e
    exact R_end (Rn_iret hc rfl rfl (xretI rfl rfl)) hK
  · refine Rn_icF hc rfl rfl (by decide) b3 ?_
    refine Rn_ms (σ' := (30, [some (vR 1), some (vI v1), some (vI v2)], [vI v1], (G0, M))) hc 1 rfl ?_
    refine R_ite e (fun b4 e => ?_) (fun b4 e => ?_)
    · refine Rn_ifF hc rfl rfl (by decide) (fun w => w b4) ?_
      refine Rn_ms (σ' := (34, [some (vR 1), some (vI v1), some (vI v2)], [vI v2], (G0, M))) hc 1 rfl ?_
      cases e
      exact R_end (Rn_iret hc rfl rfl (xretI rfl rfl)) hK
    · refine Rn_ifT (tgt := 35) hc rfl rfl (by decide) (fun w => b4 w) ?_
      refine Rn_ms (σ' := (37, [some (vR 1), some (vI v1), some (vI v2)], [vR 1, vI v1], (G0, M))) hc 2 rfl ?_
      refine Rn_getR hc rfl tgc_1 (by decide) rfl prc_1_0 ?_
      refine Rn_ms (σ' := (41, [some (vR 1), some (vI v1), some (vI v2)], [vI 2, vR 2, vI v1], (G0, M))) hc 1 rfl ?_
      refine Rn_cv hc rfl rfl (by decide) (ii := xi_59) rfl rfl rfl (tgc_2 : Tg _ = 7) (by decide) rfl (le := [some (vR 2), some (vI 2)]) rfl (v := some (vI (f_59 M 2 2))) (M' := M) (t_59 tgc_2 (d := d + 3) rfl rfl) ?_
      show Rn rom (d + 4) 125 (44, [some (vR 1), some (vI v1), some (vI v2)], [vI (f_59 M 2 2), vI v1], (G0, M)) out
      refine Rn_cs hc rfl rfl (by decide) (ii := xi_136) rfl rfl rfl (le := [some (vI v1), some (vI (f_59 M 2 2))]) rfl (v := some (vI (f_136 v1 (f_59 M 2 2)))) (M' := M) (t_136  (d := d + 3) rfl rfl) ?_
      refine Rn_ms (σ' := (23, [some (vR 1), some (vI (f_136 v1 (f_59 M 2 2))), some (vI (v2 + 1))], [], (G0, M))) hc 3 rfl ?_
      cases e
      exact Rn_weak (xle_s (xle_s (xle_s xle_0))) hK
def f_125_L23 (M : xM) (s : Int × Int) : Option (Int) := loop NF (fun s => f_125_L23b M s.1 s.2) s
theorem t_125_L23 {rom : xRom} {d : Nat}  {M : xM} {s : Int × Int} {r : Int} {out : Option xV × xH} (e : f_125_L23 M s = some r) (hK : (eI M out) r) : Rn rom (d + 4) 125 (23, [some (vR 1), some (vI s.1), some (vI s.2)], [], (G0, M)) out := by
  unfold f_125_L23 at e
  revert e hK
  exact R_loop (b := fun s => f_125_L23b M s.1 s.2) (G := fun s => Rn rom (d + 4) 125 (23, [some (vR 1), some (vI s.1), some (vI s.2)], [], (G0, M)) out) (K := eI M out) (fun s r e hK => t_125_L23b  e hK) NF s r
/-- PedalLayers.silentIn -/
def f_125 (M : xM) : Option (Int) :=
  if wr (M 2 5) = 0 then
    some (-2)
  else
    (f_67 M 2).bind (fun k2 =>
    f_125_L23 M (k2, 0)
    )
theorem t_125 {rom : xRom} {d : Nat} {M : xM}  {r : Int} {out : Option xV × xH} (e : f_125 M = some r) (hK : eI M out r) : Rn rom (d + 4) 125 (0, [some (vR 1), none, none], [], (G0, M)) out := by
  have hc : xkall.getD 125 [] = xk_125 := rfl
  unfold f_125 at e
  refine Rn_ms (σ' := (1, [some (vR 1), none, none], [vR 1], (G0, M))) hc 1 rfl ?_
  refine Rn_getR hc rfl tgc_1 (by decide) rfl prc_1_0 ?_
  show Rn rom (d + 4) 125 (4, [some (vR 1), none, none], [vR 2], (G0, M)) out
  refine Rn_getI hc rfl tgc_2 (by decide) (by decide) ?_
  show Rn rom (d + 4) 125 (7, [some (vR 1), none, none], [vI (M 2 5)], (G0, M)) out
  refine R_ite e (fun b1 e => ?_) (fun b1 e => ?_)
  · refine Rn_ifF hc rfl rfl (by decide) (fun w => w b1) ?_
    refine Rn_ms (σ' := (12, [some (vR 1), none, none], [vI (-2)], (G0, M))) hc 1 rfl ?_
    cases e
    exact R_end (Rn_iret hc rfl rfl (xretI rfl rfl)) hK
  · refine Rn_ifT (tgt := 13) hc rfl rfl (by decide) (fun w => b1 w) ?_
    refine Rn_ms (σ' := (14, [some (vR 1), none, none], [vR 1], (G0, M))) hc 1 rfl ?_
    refine Rn_getR hc rfl tgc_1 (by decide) rfl prc_1_0 ?_
    show Rn rom (d + 4) 125 (17, [some (vR 1), none, none], [vR 2], (G0, M)) out
    refine R_bind e (fun k2 hk2 e => ?_)
    refine Rn_cv hc rfl rfl (by decide) (ii := xi_67) rfl rfl rfl (tgc_2 : Tg _ = 7) (by decide) rfl (le := [some (vR 2), none, none, none]) rfl (v := some (vI k2)) (M' := M) (t_67 tgc_2 (d := d + 0) hk2 rfl) ?_
    refine Rn_ms (σ' := (23, [some (vR 1), some (vI k2), some (vI 0)], [], (G0, M))) hc 3 rfl ?_
    exact Rn_weak (xle_s (xle_s (xle_s xle_0))) (t_125_L23  e hK)
/-- PedalLayers.ifPeeled -/
def f_126 (M : xM) (a1 : Int) (a2 : Int) : Option (Int × xM) :=
  if wr a1 < 1 then
    some ((-1), M)
  else
    if wr a1 ≤ wr (M 2 5) then
      if wr a2 = 0 then
        (f_62 M 2 a1).bind (fun k4 =>
        some (k4, M)
        )
      else
      if wr a2 = 1 then
        (f_8 M 2 a1).bind (fun k6 =>
        some (k6.1, k6.2)
        )
      else
      if wr a2 = 2 then
        (f_9 M 2 a1).bind (fun k8 =>
        some (k8.1, k8.2)
        )
      else
      some ((-1), M)
    else
      some ((-1), M)
theorem t_126 {rom : xRom} {d : Nat} {M : xM} {a1 : Int} {a2 : Int} {r : Int × xM} {out : Option xV × xH} (e : f_126 M a1 a2 = some r) (hK : eIW out r) : Rn rom (d + 5) 126 (0, [some (vR 1), some (vI a1), some (vI a2)], [], (G0, M)) out := by
  have hc : xkall.getD 126 [] = xk_126 := rfl
  unfold f_126 at e
  refine Rn_ms (σ' := (2, [some (vR 1), some (vI a1), some (vI a2)], [vI 1, vI a1], (G0, M))) hc 2 rfl ?_
  refine R_ite e (fun b1 e => ?_) (fun b1 e => ?_)
  · refine Rn_icT (tgt := 16) hc rfl rfl (by decide) b1 ?_
    refine Rn_ms (σ' := (17, [some (vR 1), some (vI a1), some (vI a2)], [vI (-1)], (G0, M))) hc 1 rfl ?_
    cases e
    exact R_end (Rn_iret hc rfl rfl (xretI rfl rfl)) hK
  · refine Rn_icF hc rfl rfl (by decide) b1 ?_
    refine Rn_ms (σ' := (7, [some (vR 1), some (vI a1), some (vI a2)], [vR 1, vI a1], (G0, M))) hc 2 rfl ?_
    refine Rn_getR hc rfl tgc_1 (by decide) rfl prc_1_0 ?_
    show Rn rom (d + 5) 126 (10, [some (vR 1), some (vI a1), some (vI a2)], [vR 2, vI a1], (G0, M)) out
    refine Rn_getI hc rfl tgc_2 (by decide) (by decide) ?_
    show Rn rom (d + 5) 126 (13, [some (vR 1), some (vI a1), some (vI a2)], [vI (M 2 5), vI a1], (G0, M)) out
    refine R_ite e (fun b2 e => ?_) (fun b2 e => ?_)
    · refine Rn_icT (tgt := 18) hc rfl rfl (by decide) b2 ?_
      refine Rn_ms (σ' := (19, [some (vR 1), some (vI a1), some (vI a2)], [vI a2], (G0, M))) hc 1 rfl ?_
      refine R_ite e (fun b3 e => ?_) (fun b3 e => ?_)
      · refine Rn_tsw (off := 25) (tgt := 44) hc rfl rfl (xsw_at b3 (by decide) (by decide) (by decide) rfl) rfl ?_
        refine Rn_ms (σ' := (45, [some (vR 1), some (vI a1), some (vI a2)], [vR 1], (G0, M))) hc 1 rfl ?_
        refine Rn_getR hc rfl tgc_1 (by decide) rfl prc_1_0 ?_
        refine Rn_ms (σ' := (49, [some (vR 1), some (vI a1), some (vI a2)], [vI a1, vR 2], (G0, M))) hc 1 rfl ?_
        refine R_bind e (fun k4 hk4 e => ?_)
        refine Rn_cv hc rfl rfl (by decide) (ii := xi_62) rfl rfl rfl (tgc_2 : Tg _ = 7) (by decide) rfl (le := [some (vR 2), some (vI a1), none, none, none]) rfl (v := some (vI k4)) (M' := M) (t_62 tgc_2 (d := d + 3) hk4 rfl) ?_
        show Rn rom (d + 5) 126 (52, [some (vR 1), some (vI a1), some (vI a2)], [vI k4], (G0, M)) out
        cases e
        exact R_end (Rn_iret hc rfl rfl (xretI rfl rfl)) hK
      refine R_ite e (fun b5 e => ?_) (fun b5 e => ?_)
      · refine Rn_tsw (off := 34) (tgt := 53) hc rfl rfl (xsw_at b5 (by decide) (by decide) (by decide) rfl) rfl ?_
        refine Rn_ms (σ' := (54, [some (vR 1), some (vI a1), some (vI a2)], [vR 1], (G0, M))) hc 1 rfl ?_
        refine Rn_getR hc rfl tgc_1 (by decide) rfl prc_1_7 ?_
        refine Rn_ms (σ' := (58, [some (vR 1), some (vI a1), some (vI a2)], [vR 1, vR 177], (G0, M))) hc 1 rfl ?_
        refine Rn_getR hc rfl tgc_1 (by decide) rfl prc_1_0 ?_
        refine Rn_ms (σ' := (62, [some (vR 1), some (vI a1), some (vI a2)], [vI a1, vR 2, vR 177], (G0, M))) hc 1 rfl ?_
        refine R_bind e (fun k6 hk6 e => ?_)
        refine Rn_cv hc rfl rfl (by decide) (ii := xi_8) rfl rfl rfl (tgc_177 : Tg _ = 0) (by decide) rfl (le := [some (vR 177), some (vR 2), some (vI a1), none, none, none]) rfl (v := some (vI k6.1)) (M' := k6.2) (t_8 tgc_2 (d := d + 0) hk6 rfl) ?_
        show Rn rom (d + 5) 126 (65, [some (vR 1), some (vI a1), some (vI a2)], [vI k6.1], (G0, k6.2)) out
        cases e
        exact R_end (Rn_iret hc rfl rfl (xretI rfl rfl)) hK
      refine R_ite e (fun b7 e => ?_) (fun b7 e => ?_)
      · refine Rn_tsw (off := 47) (tgt := 66) hc rfl rfl (xsw_at b7 (by decide) (by decide) (by decide) rfl) rfl ?_
        refine Rn_ms (σ' := (67, [some (vR 1), some (vI a1), some (vI a2)], [vR 1], (G0, M))) hc 1 rfl ?_
        refine Rn_getR hc rfl tgc_1 (by decide) rfl prc_1_7 ?_
        refine Rn_ms (σ' := (71, [some (vR 1), some (vI a1), some (vI a2)], [vR 1, vR 177], (G0, M))) hc 1 rfl ?_
        refine Rn_getR hc rfl tgc_1 (by decide) rfl prc_1_0 ?_
        refine Rn_ms (σ' := (75, [some (vR 1), some (vI a1), some (vI a2)], [vI a1, vR 2, vR 177], (G0, M))) hc 1 rfl ?_
        refine R_bind e (fun k8 hk8 e => ?_)
        refine Rn_cv hc rfl rfl (by decide) (ii := xi_9) rfl rfl rfl (tgc_177 : Tg _ = 0) (by decide) rfl (le := [some (vR 177), some (vR 2), some (vI a1), none, none, none]) rfl (v := some (vI k8.1)) (M' := k8.2) (t_9 tgc_2 (d := d + 0) hk8 rfl) ?_
        show Rn rom (d + 5) 126 (78, [some (vR 1), some (vI a1), some (vI a2)], [vI k8.1], (G0, k8.2)) out
        cases e
        exact R_end (Rn_iret hc rfl rfl (xretI rfl rfl)) hK
      refine Rn_tsw (off := 60) (tgt := 79) hc rfl rfl (xsw_df (by omega)) rfl ?_
      refine Rn_ms (σ' := (80, [some (vR 1), some (vI a1), some (vI a2)], [vI (-1)], (G0, M))) hc 1 rfl ?_
      cases e
      exact R_end (Rn_iret hc rfl rfl (xretI rfl rfl)) hK
    · refine Rn_icF hc rfl rfl (by decide) b2 ?_
      refine Rn_ms (σ' := (17, [some (vR 1), some (vI a1), some (vI a2)], [vI (-1)], (G0, M))) hc 1 rfl ?_
      cases e
      exact R_end (Rn_iret hc rfl rfl (xretI rfl rfl)) hK
/-- PedalLayers.undo -/
def f_127 (M : xM) : Option (Int × xM) :=
  bnd (f_25 M) (fun k1 =>
  if k1.1 = 0 then
    some ((-2), k1.2)
  else
    gd (Tg k1.1 = 7) (
    (f_55 k1.2 2 k1.1).bind (fun k4 =>
    some ((f_21 k4), k4)
    ))
  )
theorem t_127 {rom : xRom} {d : Nat} {M : xM}  {r : Int × xM} {out : Option xV × xH} (e : f_127 M = some r) (hK : eIW out r) : Rn rom (d + 5) 127 (0, [some (vR 1), none], [], (G0, M)) out := by
  have hc : xkall.getD 127 [] = xk_127 := rfl
  unfold f_127 at e
  refine Rn_ms (σ' := (1, [some (vR 1), none], [vR 1], (G0, M))) hc 1 rfl ?_
  refine Rn_getR hc rfl tgc_1 (by decide) rfl prc_1_2 ?_
  show Rn rom (d + 5) 127 (4, [some (vR 1), none], [vR 50], (G0, M)) out
  refine R_bnd e (fun k1 hk1 e => ?_)
  refine Rn_cv hc rfl rfl (by decide) (ii := xi_25) rfl rfl rfl (tgc_50 : Tg _ = 2) (by decide) rfl (le := [some (vR 50)]) rfl (v := some (vR k1.1)) (M' := k1.2) (t_25  (d := d + 2) hk1.symm rfl) ?_
  refine Rn_ms (σ' := (9, [some (vR 1), some (vR k1.1)], [vR k1.1], (G0, k1.2))) hc 2 rfl ?_
  refine R_ite e (fun b2 e => ?_) (fun b2 e => ?_)
  · refine Rn_nnF hc rfl rfl (by decide) b2 ?_
    refine Rn_ms (σ' := (14, [some (vR 1), some (vR k1.1)], [vI (-2)], (G0, k1.2))) hc 1 rfl ?_
    cases e
    exact R_end (Rn_iret hc rfl rfl (xretI rfl rfl)) hK
  · refine Rn_nnT (tgt := 15) hc rfl rfl (by decide) b2 ?_
    refine Rn_ms (σ' := (16, [some (vR 1), some (vR k1.1)], [vR 1], (G0, k1.2))) hc 1 rfl ?_
    refine Rn_getR hc rfl tgc_1 (by decide) rfl prc_1_0 ?_
    refine Rn_ms (σ' := (20, [some (vR 1), some (vR k1.1)], [vR k1.1, vR 2], (G0, k1.2))) hc 1 rfl ?_
    refine R_gd e (fun g3 e => ?_)
    refine R_bind e (fun k4 hk4 e => ?_)
    refine Rn_cv hc rfl rfl (by decide) (ii := xi_55) rfl rfl rfl (tgc_2 : Tg _ = 7) (by decide) rfl (le := [some (vR 2), some (vR k1.1), none]) rfl (v := none) (M' := k4) (t_55 tgc_2 g3 (d := d + 0) hk4 rfl) ?_
    refine Rn_ms (σ' := (24, [some (vR 1), some (vR k1.1)], [vR 1], (G0, k4))) hc 1 rfl ?_
    refine Rn_getR hc rfl tgc_1 (by decide) rfl prc_1_2 ?_
    show Rn rom (d + 5) 127 (27, [some (vR 1), some (vR k1.1)], [vR 50], (G0, k4)) out
    refine Rn_cv hc rfl rfl (by decide) (ii := xi_21) rfl rfl rfl (tgc_50 : Tg _ = 2) (by decide) rfl (le := [some (vR 50)]) rfl (v := some (vI (f_21 k4))) (M' := k4) (t_21  (d := d + 4) rfl rfl) ?_
    show Rn rom (d + 5) 127 (30, [some (vR 1), some (vR k1.1)], [vI (f_21 k4)], (G0, k4)) out
    cases e
    exact R_end (Rn_iret hc rfl rfl (xretI rfl rfl)) hK
/-- PedalLayers.save -/
def f_128 (M : xM) : Option (Int × xM) :=
  (f_55 M 26 2).bind (fun k1 =>
  bnd (xset k1 1 8 1) (fun M2 =>
  some ((M2 2 4), M2)
  ))
theorem t_128 {rom : xRom} {d : Nat} {M : xM}  {r : Int × xM} {out : Option xV × xH} (e : f_128 M = some r) (hK : eIW out r) : Rn rom (d + 5) 128 (0, [some (vR 1)], [], (G0, M)) out := by
  have hc : xkall.getD 128 [] = xk_128 := rfl
  unfold f_128 at e
  refine Rn_ms (σ' := (1, [some (vR 1)], [vR 1], (G0, M))) hc 1 rfl ?_
  refine Rn_getR hc rfl tgc_1 (by decide) rfl prc_1_1 ?_
  refine Rn_ms (σ' := (5, [some (vR 1)], [vR 1, vR 26], (G0, M))) hc 1 rfl ?_
  refine Rn_getR hc rfl tgc_1 (by decide) rfl prc_1_0 ?_
  show Rn rom (d + 5) 128 (8, [some (vR 1)], [vR 2, vR 26], (G0, M)) out
  refine R_bind e (fun k1 hk1 e => ?_)
  refine Rn_cv hc rfl rfl (by decide) (ii := xi_55) rfl rfl rfl (tgc_26 : Tg _ = 7) (by decide) rfl (le := [some (vR 26), some (vR 2), none]) rfl (v := none) (M' := k1) (t_55 tgc_26 tgc_2 (d := d + 0) hk1 rfl) ?_
  refine Rn_ms (σ' := (13, [some (vR 1)], [vI 1, vR 1], (G0, k1))) hc 2 rfl ?_
  refine R_bnd e (fun M2 hM2 e => ?_)
  refine Rn_putI' hM2 hc rfl tgc_1 (by decide) (Or.inr ⟨rfl, by decide⟩) ?_
  refine Rn_ms (σ' := (17, [some (vR 1)], [vR 1], (G0, M2))) hc 1 rfl ?_
  refine Rn_getR hc rfl tgc_1 (by decide) rfl prc_1_0 ?_
  show Rn rom (d + 5) 128 (20, [some (vR 1)], [vR 2], (G0, M2)) out
  refine Rn_getI hc rfl tgc_2 (by decide) (by decide) ?_
  show Rn rom (d + 5) 128 (23, [some (vR 1)], [vI (M2 2 4)], (G0, M2)) out
  cases e
  exact R_end (Rn_iret hc rfl rfl (xretI rfl rfl)) hK
/-- PedalLayers.restore -/
def f_129 (M : xM) : Option (Int × xM) :=
  if wr (M 1 8) = 0 then
    some ((-2), M)
  else
    (f_23 M 2).bind (fun k2 =>
    (f_55 k2 2 26).bind (fun k3 =>
    bnd (f_130 k3 (k3 2 4)) (fun k4 =>
    some (k4.1, k4.2)
    )))
theorem t_129 {rom : xRom} {d : Nat} {M : xM}  {r : Int × xM} {out : Option xV × xH} (e : f_129 M = some r) (hK : eIW out r) : Rn rom (d + 6) 129 (0, [some (vR 1)], [], (G0, M)) out := by
  have hc : xkall.getD 129 [] = xk_129 := rfl
  unfold f_129 at e
  refine Rn_ms (σ' := (1, [some (vR 1)], [vR 1], (G0, M))) hc 1 rfl ?_
  refine Rn_getI hc rfl tgc_1 (by decide) (by decide) ?_
  show Rn rom (d + 6) 129 (4, [some (vR 1)], [vI (M 1 8)], (G0, M)) out
  refine R_ite e (fun b1 e => ?_) (fun b1 e => ?_)
  · refine Rn_ifF hc rfl rfl (by decide) (fun w => w b1) ?_
    refine Rn_ms (σ' := (9, [some (vR 1)], [vI (-2)], (G0, M))) hc 1 rfl ?_
    cases e
    exact R_end (Rn_iret hc rfl rfl (xretI rfl rfl)) hK
  · refine Rn_ifT (tgt := 10) hc rfl rfl (by decide) (fun w => b1 w) ?_
    refine Rn_ms (σ' := (11, [some (vR 1)], [vR 1], (G0, M))) hc 1 rfl ?_
    refine Rn_getR hc rfl tgc_1 (by decide) rfl prc_1_2 ?_
    refine Rn_ms (σ' := (15, [some (vR 1)], [vR 1, vR 50], (G0, M))) hc 1 rfl ?_
    refine Rn_getR hc rfl tgc_1 (by decide) rfl prc_1_0 ?_
    show Rn rom (d + 6) 129 (18, [some (vR 1)], [vR 2, vR 50], (G0, M)) out
    refine R_bind e (fun k2 hk2 e => ?_)
    refine Rn_cv hc rfl rfl (by decide) (ii := xi_23) rfl rfl rfl (tgc_50 : Tg _ = 2) (by decide) rfl (le := [some (vR 50), some (vR 2), none]) rfl (v := none) (M' := k2) (t_23 tgc_2 (d := d + 0) hk2 rfl) ?_
    refine Rn_ms (σ' := (22, [some (vR 1)], [vR 1], (G0, k2))) hc 1 rfl ?_
    refine Rn_getR hc rfl tgc_1 (by decide) rfl prc_1_0 ?_
    refine Rn_ms (σ' := (26, [some (vR 1)], [vR 1, vR 2], (G0, k2))) hc 1 rfl ?_
    refine Rn_getR hc rfl tgc_1 (by decide) rfl prc_1_1 ?_
    show Rn rom (d + 6) 129 (29, [some (vR 1)], [vR 26, vR 2], (G0, k2)) out
    refine R_bind e (fun k3 hk3 e => ?_)
    refine Rn_cv hc rfl rfl (by decide) (ii := xi_55) rfl rfl rfl (tgc_2 : Tg _ = 7) (by decide) rfl (le := [some (vR 2), some (vR 26), none]) rfl (v := none) (M' := k3) (t_55 tgc_2 tgc_26 (d := d + 1) hk3 rfl) ?_
    refine Rn_ms (σ' := (34, [some (vR 1)], [vR 1, vR 1], (G0, k3))) hc 2 rfl ?_
    refine Rn_getR hc rfl tgc_1 (by decide) rfl prc_1_0 ?_
    show Rn rom (d + 6) 129 (37, [some (vR 1)], [vR 2, vR 1], (G0, k3)) out
    refine Rn_getI hc rfl tgc_2 (by decide) (by decide) ?_
    show Rn rom (d + 6) 129 (40, [some (vR 1)], [vI (k3 2 4), vR 1], (G0, k3)) out
    refine R_bnd e (fun k4 hk4 e => ?_)
    refine Rn_cv hc rfl rfl (by decide) (ii := xi_130) rfl rfl rfl (tgc_1 : Tg _ = 10) (by decide) rfl (le := [some (vR 1), some (vI (k3 2 4))]) rfl (v := some (vI k4.1)) (M' := k4.2) (t_130  (d := d + 3) hk4.symm rfl) ?_
    show Rn rom (d + 6) 129 (43, [some (vR 1)], [vI k4.1], (G0, k4.2)) out
    cases e
    exact R_end (Rn_iret hc rfl rfl (xretI rfl rfl)) hK
/-- PedalLayersModel.in -/
def f_138 (a0 : Int) (a1 : Int) (a2 : Int) : Int :=
  if wr a0 < wr a1 then
    0
  else
    if wr a2 < wr a0 then
      0
    else
      1
theorem t_138 {rom : xRom} {d : Nat} {M : xM} {a0 : Int} {a1 : Int} {a2 : Int} {r : Int} {out : Option xV × xH} (e : f_138 a0 a1 a2 = r) (hK : eI M out r) : Rn rom (d + 0) 138 (0, [some (vI a0), some (vI a1), some (vI a2)], [], (G0, M)) out := by
  have hc : xkall.getD 138 [] = xk_138 := rfl
  unfold f_138 at e
  refine Rn_ms (σ' := (2, [some (vI a0), some (vI a1), some (vI a2)], [vI a1, vI a0], (G0, M))) hc 2 rfl ?_
  refine R_ite e (fun b1 e => ?_) (fun b1 e => ?_)
  · refine Rn_icT (tgt := 14) hc rfl rfl (by decide) b1 ?_
    refine Rn_ms (σ' := (15, [some (vI a0), some (vI a1), some (vI a2)], [vI 0], (G0, M))) hc 1 rfl ?_
    cases e
    exact R_end (Rn_iret hc rfl rfl (xretB rfl rfl (by decide))) hK
  · refine Rn_icF hc rfl rfl (by decide) b1 ?_
    refine Rn_ms (σ' := (7, [some (vI a0), some (vI a1), some (vI a2)], [vI a2, vI a0], (G0, M))) hc 2 rfl ?_
    refine R_ite e (fun b2 e => ?_) (fun b2 e => ?_)
    · refine Rn_icT (tgt := 14) hc rfl rfl (by decide) b2 ?_
      refine Rn_ms (σ' := (15, [some (vI a0), some (vI a1), some (vI a2)], [vI 0], (G0, M))) hc 1 rfl ?_
      cases e
      exact R_end (Rn_iret hc rfl rfl (xretB rfl rfl (by decide))) hK
    · refine Rn_icF hc rfl rfl (by decide) b2 ?_
      refine Rn_ms (σ' := (15, [some (vI a0), some (vI a1), some (vI a2)], [vI 1], (G0, M))) hc 2 rfl ?_
      cases e
      exact R_end (Rn_iret hc rfl rfl (xretB rfl rfl (by decide))) hK
/-- PedalLayersModel.of -/
def f_139 (M : xM) (a1 : Int) : Option (Int) :=
  gd (0 ≤ wr a1 ∧ wr a1 < 1376) (
  some (M 183 (wr a1).toNat)
  )
theorem t_139 {rom : xRom} {d : Nat} {M : xM} {a1 : Int} {r : Int} {out : Option xV × xH} (e : f_139 M a1 = some r) (hK : eI M out r) : Rn rom (d + 0) 139 (0, [some (vR 182), some (vI a1)], [], (G0, M)) out := by
  have hc : xkall.getD 139 [] = xk_139 := rfl
  unfold f_139 at e
  refine Rn_ms (σ' := (1, [some (vR 182), some (vI a1)], [vR 182], (G0, M))) hc 1 rfl ?_
  refine Rn_getR hc rfl tgc_182 (by decide) rfl prc_182_0 ?_
  refine Rn_ms (σ' := (5, [some (vR 182), some (vI a1)], [vI a1, vR 183], (G0, M))) hc 1 rfl ?_
  refine R_gd e (fun g1 e => ?_)
  refine Rn_lald hc rfl rfl tgc_183 zsc_183 g1 rfl ?_
  refine Rn_ms (σ' := (7, [some (vR 182), some (vI a1)], [vI (M 183 (wr a1).toNat)], (G0, M))) hc 1 rfl ?_
  cases e
  exact R_end (Rn_iret hc rfl rfl (xretI rfl rfl)) hK
def f_140_L51b (v1 : Int) (M : xM) : Option ((Int × xM) ⊕ (xM)) :=
  if 1376 ≤ wr v1 then
    bnd (xset M 182 2 ((M 182 2) + 1)) (fun M5 =>
    some (.inr (M5))
    )
  else
    gd (0 ≤ wr v1 ∧ wr v1 < 1376) (
    gd (0 ≤ wr ((1376 * (M 182 2)) + v1) ∧ wr ((1376 * (M 182 2)) + v1) < 5504) (
    bnd (xset M 184 (wr ((1376 * (M 182 2)) + v1)).toNat (M 183 (wr v1).toNat)) (fun M8 =>
    some (.inl ((v1 + 1), M8))
    )))
theorem t_140_L51b {rom : xRom} {d : Nat} {v1 : Int} {M : xM} {r : (Int × xM) ⊕ (xM)} {out : Option xV × xH} (e : f_140_L51b v1 M = some r) (hK : ((Sum.elim (fun s => Rn rom (d + 0) 140 (51, [some (vR 182), some (vI s.1)], [], (G0, s.2)) out) (eVW out))) r) : Rn rom (d + 0) 140 (51, [some (vR 182), some (vI v1)], [], (G0, M)) out := by
  have hc : xkall.getD 140 [] = xk_140 := rfl
  unfold f_140_L51b at e
  refine Rn_ms (σ' := (55, [some (vR 182), some (vI v1)], [vI 1376, vI v1], (G0, M))) hc 2 rfl ?_
  refine R_ite e (fun b4 e => ?_) (fun b4 e => ?_)
  · refine Rn_icT (tgt := 85) hc rfl rfl (by decide) b4 ?_
    refine Rn_ms (σ' := (87, [some (vR 182), some (vI v1)], [vR 182, vR 182], (G0, M))) hc 2 rfl ?_
    refine Rn_getI hc rfl tgc_182 (by decide) (by decide) ?_
    refine Rn_ms (σ' := (92, [some (vR 182), some (vI v1)], [vI ((M 182 2) + 1), vR 182], (G0, M))) hc 2 rfl ?_
    refine R_bnd e (fun M5 hM5 e => ?_)
    refine Rn_putI' hM5 hc rfl tgc_182 (by decide) (Or.inl rfl) ?_
    show Rn rom (d + 0) 140 (95, [some (vR 182), some (vI v1)], [], (G0, M5)) out
    cases e
    exact R_end (Rn_vret hc rfl rfl rfl rfl) hK
  · refine Rn_icF hc rfl rfl (by decide) b4 ?_
    refine Rn_ms (σ' := (59, [some (vR 182), some (vI v1)], [vR 182], (G0, M))) hc 1 rfl ?_
    refine Rn_getR hc rfl tgc_182 (by decide) rfl prc_182_1 ?_
    refine Rn_ms (σ' := (66, [some (vR 182), some (vI v1)], [vR 182, vI 1376, vR 184], (G0, M))) hc 2 rfl ?_
    refine Rn_getI hc rfl tgc_182 (by decide) (by decide) ?_
    refine Rn_ms (σ' := (73, [some (vR 182), some (vI v1)], [vR 182, vI ((1376 * (M 182 2)) + v1), vR 184], (G0, M))) hc 4 rfl ?_
    refine Rn_getR hc rfl tgc_182 (by decide) rfl prc_182_0 ?_
    refine Rn_ms (σ' := (77, [some (vR 182), some (vI v1)], [vI v1, vR 183, vI ((1376 * (M 182 2)) + v1), vR 184], (G0, M))) hc 1 rfl ?_
    refine R_gd e (fun g6 e => ?_)
    refine Rn_lald hc rfl rfl tgc_183 zsc_183 g6 rfl ?_
    show Rn rom (d + 0) 140 (78, [some (vR 182), some (vI v1)], [vL (M 183 (wr v1).toNat), vI ((1376 * (M 182 2)) + v1), vR 184], (G0, M)) out
    refine R_gd e (fun g7 e => ?_)
    refine R_bnd e (fun M8 hM8 e => ?_)
    refine Rn_last' hM8 hc rfl rfl tgc_184 zsc_184 g7 rfl ?_
    refine Rn_ms (σ' := (51, [some (vR 182), some (vI (v1 + 1))], [], (G0, M8))) hc 2 rfl ?_
    cases e
    exact Rn_weak (xle_s (xle_s xle_0)) hK
def f_140_L51  (s : Int × xM) : Option (xM) := loop NF (fun s => f_140_L51b s.1 s.2) s
theorem t_140_L51 {rom : xRom} {d : Nat}  {s : Int × xM} {r : xM} {out : Option xV × xH} (e : f_140_L51  s = some r) (hK : (eVW out) r) : Rn rom (d + 0) 140 (51, [some (vR 182), some (vI s.1)], [], (G0, s.2)) out := by
  unfold f_140_L51 at e
  revert e hK
  exact R_loop (b := fun s => f_140_L51b s.1 s.2) (G := fun s => Rn rom (d + 0) 140 (51, [some (vR 182), some (vI s.1)], [], (G0, s.2)) out) (K := eVW out) (fun s r e hK => t_140_L51b  e hK) NF s r
def f_140_L10b (v1 : Int) (M : xM) : Option ((Int × xM) ⊕ (xM)) :=
  if 4128 ≤ wr v1 then
    bnd (xset M 182 2 ((M 182 2) - 1)) (fun M3 =>
    (f_140_L51 (0, M3)).bind (fun o => some (.inr (o)))
    )
  else
    gd (0 ≤ wr (1376 + v1) ∧ wr (1376 + v1) < 5504) (
    gd (0 ≤ wr v1 ∧ wr v1 < 5504) (
    bnd (xset M 184 (wr v1).toNat (M 184 (wr (1376 + v1)).toNat)) (fun M11 =>
    some (.inl ((v1 + 1), M11))
    )))
theorem t_140_L10b {rom : xRom} {d : Nat} {v1 : Int} {M : xM} {r : (Int × xM) ⊕ (xM)} {out : Option xV × xH} (e : f_140_L10b v1 M = some r) (hK : ((Sum.elim (fun s => Rn rom (d + 0) 140 (10, [some (vR 182), some (vI s.1)], [], (G0, s.2)) out) (eVW out))) r) : Rn rom (d + 0) 140 (10, [some (vR 182), some (vI v1)], [], (G0, M)) out := by
  have hc : xkall.getD 140 [] = xk_140 := rfl
  unfold f_140_L10b at e
  refine Rn_ms (σ' := (14, [some (vR 182), some (vI v1)], [vI 4128, vI v1], (G0, M))) hc 2 rfl ?_
  refine R_ite e (fun b2 e => ?_) (fun b2 e => ?_)
  · refine Rn_icT (tgt := 39) hc rfl rfl (by decide) b2 ?_
    refine Rn_ms (σ' := (41, [some (vR 182), some (vI v1)], [vR 182, vR 182], (G0, M))) hc 2 rfl ?_
    refine Rn_getI hc rfl tgc_182 (by decide) (by decide) ?_
    refine Rn_ms (σ' := (46, [some (vR 182), some (vI v1)], [vI ((M 182 2) - 1), vR 182], (G0, M))) hc 2 rfl ?_
    refine R_bnd e (fun M3 hM3 e => ?_)
    refine Rn_putI' hM3 hc rfl tgc_182 (by decide) (Or.inl rfl) ?_
    refine Rn_ms (σ' := (51, [some (vR 182), some (vI 0)], [], (G0, M3))) hc 2 rfl ?_
    refine R_bind e (fun o ho e => ?_)
    cases e
    exact Rn_weak (xle_s (xle_s xle_0)) (t_140_L51  ho hK)
  · refine Rn_icF hc rfl rfl (by decide) b2 ?_
    refine Rn_ms (σ' := (18, [some (vR 182), some (vI v1)], [vR 182], (G0, M))) hc 1 rfl ?_
    refine Rn_getR hc rfl tgc_182 (by decide) rfl prc_182_1 ?_
    refine Rn_ms (σ' := (23, [some (vR 182), some (vI v1)], [vR 182, vI v1, vR 184], (G0, M))) hc 2 rfl ?_
    refine Rn_getR hc rfl tgc_182 (by decide) rfl prc_182_1 ?_
    refine Rn_ms (σ' := (31, [some (vR 182), some (vI v1)], [vI (1376 + v1), vR 184, vI v1, vR 184], (G0, M))) hc 3 rfl ?_
    refine R_gd e (fun g9 e => ?_)
    refine Rn_lald hc rfl rfl tgc_184 zsc_184 g9 rfl ?_
    show Rn rom (d + 0) 140 (32, [some (vR 182), some (vI v1)], [vL (M 184 (wr (1376 + v1)).toNat), vI v1, vR 184], (G0, M)) out
    refine R_gd e (fun g10 e => ?_)
    refine R_bnd e (fun M11 hM11 e => ?_)
    refine Rn_last' hM11 hc rfl rfl tgc_184 zsc_184 g10 rfl ?_
    refine Rn_ms (σ' := (10, [some (vR 182), some (vI (v1 + 1))], [], (G0, M11))) hc 2 rfl ?_
    cases e
    exact Rn_weak (xle_s (xle_s xle_0)) hK
def f_140_L10  (s : Int × xM) : Option (xM) := loop NF (fun s => f_140_L10b s.1 s.2) s
theorem t_140_L10 {rom : xRom} {d : Nat}  {s : Int × xM} {r : xM} {out : Option xV × xH} (e : f_140_L10  s = some r) (hK : (eVW out) r) : Rn rom (d + 0) 140 (10, [some (vR 182), some (vI s.1)], [], (G0, s.2)) out := by
  unfold f_140_L10 at e
  revert e hK
  exact R_loop (b := fun s => f_140_L10b s.1 s.2) (G := fun s => Rn rom (d + 0) 140 (10, [some (vR 182), some (vI s.1)], [], (G0, s.2)) out) (K := eVW out) (fun s r e hK => t_140_L10b  e hK) NF s r
/-- PedalLayersModel.remembers -/
def f_140 (M : xM) : Option (xM) :=
  if wr (M 182 2) = 4 then
    f_140_L10 (0, M)
  else
    f_140_L51 (0, M)
theorem t_140 {rom : xRom} {d : Nat} {M : xM}  {r : xM} {out : Option xV × xH} (e : f_140 M = some r) (hK : eVW out r) : Rn rom (d + 0) 140 (0, [some (vR 182), none], [], (G0, M)) out := by
  have hc : xkall.getD 140 [] = xk_140 := rfl
  unfold f_140 at e
  refine Rn_ms (σ' := (1, [some (vR 182), none], [vR 182], (G0, M))) hc 1 rfl ?_
  refine Rn_getI hc rfl tgc_182 (by decide) (by decide) ?_
  refine Rn_ms (σ' := (5, [some (vR 182), none], [vI 4, vI (M 182 2)], (G0, M))) hc 1 rfl ?_
  refine R_ite e (fun b1 e => ?_) (fun b1 e => ?_)
  · refine Rn_icF hc rfl rfl (by decide) (fun w => w b1) ?_
    refine Rn_ms (σ' := (10, [some (vR 182), some (vI 0)], [], (G0, M))) hc 2 rfl ?_
    exact Rn_weak (xle_s (xle_s xle_0)) (t_140_L10  e hK)
  · refine Rn_icT (tgt := 49) hc rfl rfl (by decide) (fun w => b1 w) ?_
    refine Rn_ms (σ' := (51, [some (vR 182), some (vI 0)], [], (G0, M))) hc 2 rfl ?_
    exact Rn_weak (xle_s (xle_s xle_0)) (t_140_L51  e hK)
/-- PedalLayersModel.force -/
def f_141 (M : xM) (a1 : Int) (a2 : Int) (a3 : Int) : Option (Int) :=
  gd (0 ≤ wr (((32 + (192 * a1)) + (4 * a2)) + ((wr a3).tdiv 9)) ∧ wr (((32 + (192 * a1)) + (4 * a2)) + ((wr a3).tdiv 9)) < 1376) (
  some (xland (xlshr (M 183 (wr (((32 + (192 * a1)) + (4 * a2)) + ((wr a3).tdiv 9))).toNat) (7 * ((wr a3).tmod 9))) 127)
  )
theorem t_141 {rom : xRom} {d : Nat} {M : xM} {a1 : Int} {a2 : Int} {a3 : Int} {r : Int} {out : Option xV × xH} (e : f_141 M a1 a2 a3 = some r) (hK : eI M out r) : Rn rom (d + 0) 141 (0, [some (vR 182), some (vI a1), some (vI a2), some (vI a3)], [], (G0, M)) out := by
  have hc : xkall.getD 141 [] = xk_141 := rfl
  unfold f_141 at e
  refine Rn_ms (σ' := (1, [some (vR 182), some (vI a1), some (vI a2), some (vI a3)], [vR 182], (G0, M))) hc 1 rfl ?_
  refine Rn_getR hc rfl tgc_182 (by decide) rfl prc_182_0 ?_
  refine Rn_ms (σ' := (19, [some (vR 182), some (vI a1), some (vI a2), some (vI a3)], [vI 9, vI a3, vI ((32 + (192 * a1)) + (4 * a2)), vR 183], (G0, M))) hc 11 rfl ?_
  refine Rn_div hc rfl ⟨rfl, rfl⟩ (z' := 9) (by decide) (by decide) ?_
  refine Rn_ms (σ' := (21, [some (vR 182), some (vI a1), some (vI a2), some (vI a3)], [vI (((32 + (192 * a1)) + (4 * a2)) + ((wr a3).tdiv 9)), vR 183], (G0, M))) hc 1 rfl ?_
  refine R_gd e (fun g1 e => ?_)
  refine Rn_lald hc rfl rfl tgc_183 zsc_183 g1 rfl ?_
  refine Rn_ms (σ' := (27, [some (vR 182), some (vI a1), some (vI a2), some (vI a3)], [vI 9, vI a3, vI 7, vL (M 183 (wr (((32 + (192 * a1)) + (4 * a2)) + ((wr a3).tdiv 9))).toNat)], (G0, M))) hc 3 rfl ?_
  refine Rn_rem hc rfl ⟨rfl, rfl⟩ (z' := 9) (by decide) (by decide) ?_
  refine Rn_ms (σ' := (35, [some (vR 182), some (vI a1), some (vI a2), some (vI a3)], [vI (xland (xlshr (M 183 (wr (((32 + (192 * a1)) + (4 * a2)) + ((wr a3).tdiv 9))).toNat) (7 * ((wr a3).tmod 9))) 127)], (G0, M))) hc 5 rfl ?_
  cases e
  exact R_end (Rn_iret hc rfl rfl (xretI rfl rfl)) hK
/-- PedalLayersModel.sets -/
def f_142 (M : xM) (a1 : Int) (a2 : Int) (a3 : Int) (a4 : Int) : Option (xM) :=
  gd (0 ≤ wr (((32 + (192 * a1)) + (4 * a2)) + ((wr a3).tdiv 9)) ∧ wr (((32 + (192 * a1)) + (4 * a2)) + ((wr a3).tdiv 9)) < 1376) (
  gd (0 ≤ wr (((32 + (192 * a1)) + (4 * a2)) + ((wr a3).tdiv 9)) ∧ wr (((32 + (192 * a1)) + (4 * a2)) + ((wr a3).tdiv 9)) < 1376) (
  bnd (xset M 183 (wr (((32 + (192 * a1)) + (4 * a2)) + ((wr a3).tdiv 9))).toNat (xlor (xland (M 183 (wr (((32 + (192 * a1)) + (4 * a2)) + ((wr a3).tdiv 9))).toNat) (xlxor (xlshl 127 (7 * ((wr a3).tmod 9))) (-1))) (xlshl (wr a4) (7 * ((wr a3).tmod 9))))) (fun M3 =>
  some (M3)
  )))
theorem t_142 {rom : xRom} {d : Nat} {M : xM} {a1 : Int} {a2 : Int} {a3 : Int} {a4 : Int} {r : xM} {out : Option xV × xH} (e : f_142 M a1 a2 a3 a4 = some r) (hK : eVW out r) : Rn rom (d + 0) 142 (0, [some (vR 182), some (vI a1), some (vI a2), some (vI a3), some (vI a4), none, none], [], (G0, M)) out := by
  have hc : xkall.getD 142 [] = xk_142 := rfl
  unfold f_142 at e
  refine Rn_ms (σ' := (15, [some (vR 182), some (vI a1), some (vI a2), some (vI a3), some (vI a4), none, none], [vI 9, vI a3, vI ((32 + (192 * a1)) + (4 * a2))], (G0, M))) hc 11 rfl ?_
  refine Rn_div hc rfl ⟨rfl, rfl⟩ (z' := 9) (by decide) (by decide) ?_
  refine Rn_ms (σ' := (24, [some (vR 182), some (vI a1), some (vI a2), some (vI a3), some (vI a4), some (vI (((32 + (192 * a1)) + (4 * a2)) + ((wr a3).tdiv 9))), none], [vI 9, vI a3, vI 7], (G0, M))) hc 5 rfl ?_
  refine Rn_rem hc rfl ⟨rfl, rfl⟩ (z' := 9) (by decide) (by decide) ?_
  refine Rn_ms (σ' := (29, [some (vR 182), some (vI a1), some (vI a2), some (vI a3), some (vI a4), some (vI (((32 + (192 * a1)) + (4 * a2)) + ((wr a3).tdiv 9))), some (vI (7 * ((wr a3).tmod 9)))], [vR 182], (G0, M))) hc 3 rfl ?_
  refine Rn_getR hc rfl tgc_182 (by decide) rfl prc_182_0 ?_
  refine Rn_ms (σ' := (35, [some (vR 182), some (vI a1), some (vI a2), some (vI a3), some (vI a4), some (vI (((32 + (192 * a1)) + (4 * a2)) + ((wr a3).tdiv 9))), some (vI (7 * ((wr a3).tmod 9)))], [vR 182, vI (((32 + (192 * a1)) + (4 * a2)) + ((wr a3).tdiv 9)), vR 183], (G0, M))) hc 2 rfl ?_
  refine Rn_getR hc rfl tgc_182 (by decide) rfl prc_182_0 ?_
  refine Rn_ms (σ' := (40, [some (vR 182), some (vI a1), some (vI a2), some (vI a3), some (vI a4), some (vI (((32 + (192 * a1)) + (4 * a2)) + ((wr a3).tdiv 9))), some (vI (7 * ((wr a3).tmod 9)))], [vI (((32 + (192 * a1)) + (4 * a2)) + ((wr a3).tdiv 9)), vR 183, vI (((32 + (192 * a1)) + (4 * a2)) + ((wr a3).tdiv 9)), vR 183], (G0, M))) hc 1 rfl ?_
  refine R_gd e (fun g1 e => ?_)
  refine Rn_lald hc rfl rfl tgc_183 zsc_183 g1 rfl ?_
  refine Rn_ms (σ' := (59, [some (vR 182), some (vI a1), some (vI a2), some (vI a3), some (vI a4), some (vI (((32 + (192 * a1)) + (4 * a2)) + ((wr a3).tdiv 9))), some (vI (7 * ((wr a3).tmod 9)))], [vL (xlor (xland (M 183 (wr (((32 + (192 * a1)) + (4 * a2)) + ((wr a3).tdiv 9))).toNat) (xlxor (xlshl 127 (7 * ((wr a3).tmod 9))) (-1))) (xlshl (wr a4) (7 * ((wr a3).tmod 9)))), vI (((32 + (192 * a1)) + (4 * a2)) + ((wr a3).tdiv 9)), vR 183], (G0, M))) hc 11 rfl ?_
  refine R_gd e (fun g2 e => ?_)
  refine R_bnd e (fun M3 hM3 e => ?_)
  refine Rn_last' hM3 hc rfl rfl tgc_183 zsc_183 g2 rfl ?_
  show Rn rom (d + 0) 142 (60, [some (vR 182), some (vI a1), some (vI a2), some (vI a3), some (vI a4), some (vI (((32 + (192 * a1)) + (4 * a2)) + ((wr a3).tdiv 9))), some (vI (7 * ((wr a3).tmod 9)))], [], (G0, M3)) out
  cases e
  exact R_end (Rn_vret hc rfl rfl rfl rfl) hK
def f_143_L2b (c1 : Int) (v2 : Int) (M : xM) : Option ((Int × xM) ⊕ (xM)) :=
  if 192 ≤ wr v2 then
    some (.inr (M))
  else
    gd (0 ≤ wr ((32 + (192 * c1)) + v2) ∧ wr ((32 + (192 * c1)) + v2) < 1376) (
    bnd (xset M 183 (wr ((32 + (192 * c1)) + v2)).toNat 0) (fun M3 =>
    some (.inl ((v2 + 1), M3))
    ))
theorem t_143_L2b {rom : xRom} {d : Nat} {c1 : Int} {v2 : Int} {M : xM} {r : (Int × xM) ⊕ (xM)} {out : Option xV × xH} (e : f_143_L2b c1 v2 M = some r) (hK : ((Sum.elim (fun s => Rn rom (d + 0) 143 (2, [some (vR 182), some (vI c1), some (vI s.1)], [], (G0, s.2)) out) (eVW out))) r) : Rn rom (d + 0) 143 (2, [some (vR 182), some (vI c1), some (vI v2)], [], (G0, M)) out := by
  have hc : xkall.getD 143 [] = xk_143 := rfl
  unfold f_143_L2b at e
  refine Rn_ms (σ' := (6, [some (vR 182), some (vI c1), some (vI v2)], [vI 192, vI v2], (G0, M))) hc 2 rfl ?_
  refine R_ite e (fun b1 e => ?_) (fun b1 e => ?_)
  · refine Rn_icT (tgt := 31) hc rfl rfl (by decide) b1 ?_
    show Rn rom (d + 0) 143 (31, [some (vR 182), some (vI c1), some (vI v2)], [], (G0, M)) out
    cases e
    exact R_end (Rn_vret hc rfl rfl rfl rfl) hK
  · refine Rn_icF hc rfl rfl (by decide) b1 ?_
    refine Rn_ms (σ' := (10, [some (vR 182), some (vI c1), some (vI v2)], [vR 182], (G0, M))) hc 1 rfl ?_
    refine Rn_getR hc rfl tgc_182 (by decide) rfl prc_182_0 ?_
    refine Rn_ms (σ' := (24, [some (vR 182), some (vI c1), some (vI v2)], [vL 0, vI ((32 + (192 * c1)) + v2), vR 183], (G0, M))) hc 8 rfl ?_
    refine R_gd e (fun g2 e => ?_)
    refine R_bnd e (fun M3 hM3 e => ?_)
    refine Rn_last' hM3 hc rfl rfl tgc_183 zsc_183 g2 rfl ?_
    refine Rn_ms (σ' := (2, [some (vR 182), some (vI c1), some (vI (v2 + 1))], [], (G0, M3))) hc 2 rfl ?_
    cases e
    exact Rn_weak (xle_s (xle_s (xle_s xle_0))) hK
def f_143_L2 (c1 : Int) (s : Int × xM) : Option (xM) := loop NF (fun s => f_143_L2b c1 s.1 s.2) s
theorem t_143_L2 {rom : xRom} {d : Nat} {c1 : Int} {s : Int × xM} {r : xM} {out : Option xV × xH} (e : f_143_L2 c1 s = some r) (hK : (eVW out) r) : Rn rom (d + 0) 143 (2, [some (vR 182), some (vI c1), some (vI s.1)], [], (G0, s.2)) out := by
  unfold f_143_L2 at e
  revert e hK
  exact R_loop (b := fun s => f_143_L2b c1 s.1 s.2) (G := fun s => Rn rom (d + 0) 143 (2, [some (vR 182), some (vI c1), some (vI s.1)], [], (G0, s.2)) out) (K := eVW out) (fun s r e hK => t_143_L2b  e hK) NF s r
/-- PedalLayersModel.clears -/
def f_143 (M : xM) (a1 : Int) : Option (xM) :=
  f_143_L2 a1 (0, M)
theorem t_143 {rom : xRom} {d : Nat} {M : xM} {a1 : Int} {r : xM} {out : Option xV × xH} (e : f_143 M a1 = some r) (hK : eVW out r) : Rn rom (d + 0) 143 (0, [some (vR 182), some (vI a1), none], [], (G0, M)) out := by
  have hc : xkall.getD 143 [] = xk_143 := rfl
  unfold f_143 at e
  refine Rn_ms (σ' := (2, [some (vR 182), some (vI a1), some (vI 0)], [], (G0, M))) hc 2 rfl ?_
  exact Rn_weak (xle_s (xle_s (xle_s xle_0))) (t_143_L2  e hK)
/-- PedalLayersModel.both -/
def f_144 (a0 : Int) (a1 : Int) : Int :=
  if 99 ≤ wr (a0 + a1) then
    99
  else
    (a0 + a1)
theorem t_144 {rom : xRom} {d : Nat} {M : xM} {a0 : Int} {a1 : Int} {r : Int} {out : Option xV × xH} (e : f_144 a0 a1 = r) (hK : eI M out r) : Rn rom (d + 0) 144 (0, [some (vI a0), some (vI a1)], [], (G0, M)) out := by
  have hc : xkall.getD 144 [] = xk_144 := rfl
  unfold f_144 at e
  refine Rn_ms (σ' := (5, [some (vI a0), some (vI a1)], [vI 99, vI (a0 + a1)], (G0, M))) hc 4 rfl ?_
  refine R_ite e (fun b1 e => ?_) (fun b1 e => ?_)
  · refine Rn_icT (tgt := 14) hc rfl rfl (by decide) b1 ?_
    refine Rn_ms (σ' := (16, [some (vI a0), some (vI a1)], [vI 99], (G0, M))) hc 1 rfl ?_
    cases e
    exact R_end (Rn_iret hc rfl rfl (xretI rfl rfl)) hK
  · refine Rn_icF hc rfl rfl (by decide) b1 ?_
    refine Rn_ms (σ' := (16, [some (vI a0), some (vI a1)], [vI (a0 + a1)], (G0, M))) hc 4 rfl ?_
    cases e
    exact R_end (Rn_iret hc rfl rfl (xretI rfl rfl)) hK
/-- PedalLayersModel.isLayer -/
def f_145 (M : xM) (a1 : Int) : Option (Int) :=
  (f_139 M 7).bind (fun k1 =>
  gd (wr (f_138 a1 0 (k1 - 1)) = 0 ∨ wr (f_138 a1 0 (k1 - 1)) = 1) (
  some (f_138 a1 0 (k1 - 1))
  ))
theorem t_145 {rom : xRom} {d : Nat} {M : xM} {a1 : Int} {r : Int} {out : Option xV × xH} (e : f_145 M a1 = some r) (hK : eI M out r) : Rn rom (d + 1) 145 (0, [some (vR 182), some (vI a1)], [], (G0, M)) out := by
  have hc : xkall.getD 145 [] = xk_145 := rfl
  unfold f_145 at e
  refine Rn_ms (σ' := (5, [some (vR 182), some (vI a1)], [vI 7, vR 182, vI 0, vI a1], (G0, M))) hc 4 rfl ?_
  refine R_bind e (fun k1 hk1 e => ?_)
  refine Rn_cv hc rfl rfl (by decide) (ii := xi_139) rfl rfl rfl (tgc_182 : Tg _ = 11) (by decide) rfl (le := [some (vR 182), some (vI 7)]) rfl (v := some (vI k1)) (M' := M) (t_139  (d := d + 0) hk1 rfl) ?_
  refine Rn_ms (σ' := (10, [some (vR 182), some (vI a1)], [vI (k1 - 1), vI 0, vI a1], (G0, M))) hc 2 rfl ?_
  refine Rn_cs hc rfl rfl (by decide) (ii := xi_138) rfl rfl rfl (le := [some (vI a1), some (vI 0), some (vI (k1 - 1))]) rfl (v := some (vI (f_138 a1 0 (k1 - 1)))) (M' := M) (t_138  (d := d + 0) rfl rfl) ?_
  show Rn rom (d + 1) 145 (13, [some (vR 182), some (vI a1)], [vI (f_138 a1 0 (k1 - 1))], (G0, M)) out
  refine R_gd e (fun g2 e => ?_)
  cases e
  exact R_end (Rn_iret hc rfl rfl (xretB rfl rfl g2)) hK
def f_146_L4b (M : xM) (c1 : Int) (v2 : Int) (v3 : Int) : Option ((Int × Int) ⊕ (Int)) :=
  if wr c1 ≤ wr v3 then
    some (.inr (v2))
  else
    (f_139 M (14 + v3)).bind (fun k2 =>
    if wr k2 ≤ wr v2 then
      some (.inl (v2, (v3 + 1)))
    else
      (f_139 M (14 + v3)).bind (fun k4 =>
      some (.inl (k4, (v3 + 1)))
      )
    )
theorem t_146_L4b {rom : xRom} {d : Nat} {c1 : Int} {v2 : Int} {v3 : Int} {M : xM} {r : (Int × Int) ⊕ (Int)} {out : Option xV × xH} (e : f_146_L4b M c1 v2 v3 = some r) (hK : ((Sum.elim (fun s => Rn rom (d + 1) 146 (4, [some (vR 182), some (vI c1), some (vI s.1), some (vI s.2)], [], (G0, M)) out) (eI M out))) r) : Rn rom (d + 1) 146 (4, [some (vR 182), some (vI c1), some (vI v2), some (vI v3)], [], (G0, M)) out := by
  have hc : xkall.getD 146 [] = xk_146 := rfl
  unfold f_146_L4b at e
  refine Rn_ms (σ' := (6, [some (vR 182), some (vI c1), some (vI v2), some (vI v3)], [vI c1, vI v3], (G0, M))) hc 2 rfl ?_
  refine R_ite e (fun b1 e => ?_) (fun b1 e => ?_)
  · refine Rn_icT (tgt := 40) hc rfl rfl (by decide) b1 ?_
    refine Rn_ms (σ' := (41, [some (vR 182), some (vI c1), some (vI v2), some (vI v3)], [vI v2], (G0, M))) hc 1 rfl ?_
    cases e
    exact R_end (Rn_iret hc rfl rfl (xretI rfl rfl)) hK
  · refine Rn_icF hc rfl rfl (by decide) b1 ?_
    refine Rn_ms (σ' := (14, [some (vR 182), some (vI c1), some (vI v2), some (vI v3)], [vI (14 + v3), vR 182], (G0, M))) hc 4 rfl ?_
    refine R_bind e (fun k2 hk2 e => ?_)
    refine Rn_cv hc rfl rfl (by decide) (ii := xi_139) rfl rfl rfl (tgc_182 : Tg _ = 11) (by decide) rfl (le := [some (vR 182), some (vI (14 + v3))]) rfl (v := some (vI k2)) (M' := M) (t_139  (d := d + 0) hk2 rfl) ?_
    refine Rn_ms (σ' := (18, [some (vR 182), some (vI c1), some (vI v2), some (vI v3)], [vI v2, vI k2], (G0, M))) hc 1 rfl ?_
    refine R_ite e (fun b3 e => ?_) (fun b3 e => ?_)
    · refine Rn_icT (tgt := 32) hc rfl rfl (by decide) b3 ?_
      refine Rn_ms (σ' := (4, [some (vR 182), some (vI c1), some (vI v2), some (vI (v3 + 1))], [], (G0, M))) hc 4 rfl ?_
      cases e
      exact Rn_weak (xle_s (xle_s (xle_s (xle_s xle_0)))) hK
    · refine Rn_icF hc rfl rfl (by decide) b3 ?_
      refine Rn_ms (σ' := (26, [some (vR 182), some (vI c1), some (vI v2), some (vI v3)], [vI (14 + v3), vR 182], (G0, M))) hc 4 rfl ?_
      refine R_bind e (fun k4 hk4 e => ?_)
      refine Rn_cv hc rfl rfl (by decide) (ii := xi_139) rfl rfl rfl (tgc_182 : Tg _ = 11) (by decide) rfl (le := [some (vR 182), some (vI (14 + v3))]) rfl (v := some (vI k4)) (M' := M) (t_139  (d := d + 0) hk4 rfl) ?_
      refine Rn_ms (σ' := (4, [some (vR 182), some (vI c1), some (vI k4), some (vI (v3 + 1))], [], (G0, M))) hc 4 rfl ?_
      cases e
      exact Rn_weak (xle_s (xle_s (xle_s (xle_s xle_0)))) hK
def f_146_L4 (M : xM) (c1 : Int) (s : Int × Int) : Option (Int) := loop NF (fun s => f_146_L4b M c1 s.1 s.2) s
theorem t_146_L4 {rom : xRom} {d : Nat} {c1 : Int} {M : xM} {s : Int × Int} {r : Int} {out : Option xV × xH} (e : f_146_L4 M c1 s = some r) (hK : (eI M out) r) : Rn rom (d + 1) 146 (4, [some (vR 182), some (vI c1), some (vI s.1), some (vI s.2)], [], (G0, M)) out := by
  unfold f_146_L4 at e
  revert e hK
  exact R_loop (b := fun s => f_146_L4b M c1 s.1 s.2) (G := fun s => Rn rom (d + 1) 146 (4, [some (vR 182), some (vI c1), some (vI s.1), some (vI s.2)], [], (G0, M)) out) (K := eI M out) (fun s r e hK => t_146_L4b  e hK) NF s r
/-- PedalLayersModel.lengthOf -/
def f_146 (M : xM) (a1 : Int) : Option (Int) :=
  f_146_L4 M a1 (0, 0)
theorem t_146 {rom : xRom} {d : Nat} {M : xM} {a1 : Int} {r : Int} {out : Option xV × xH} (e : f_146 M a1 = some r) (hK : eI M out r) : Rn rom (d + 1) 146 (0, [some (vR 182), some (vI a1), none, none], [], (G0, M)) out := by
  have hc : xkall.getD 146 [] = xk_146 := rfl
  unfold f_146 at e
  refine Rn_ms (σ' := (4, [some (vR 182), some (vI a1), some (vI 0), some (vI 0)], [], (G0, M))) hc 4 rfl ?_
  exact Rn_weak (xle_s (xle_s (xle_s (xle_s xle_0)))) (t_146_L4  e hK)
/-- PedalLayersModel.loop -/
def f_147 (M : xM) : Option (Int) :=
  (f_139 M 7).bind (fun k1 =>
  (f_146 M k1).bind (fun k2 =>
  some (k2)
  ))
theorem t_147 {rom : xRom} {d : Nat} {M : xM}  {r : Int} {out : Option xV × xH} (e : f_147 M = some r) (hK : eI M out r) : Rn rom (d + 2) 147 (0, [some (vR 182)], [], (G0, M)) out := by
  have hc : xkall.getD 147 [] = xk_147 := rfl
  unfold f_147 at e
  refine Rn_ms (σ' := (4, [some (vR 182)], [vI 7, vR 182, vR 182], (G0, M))) hc 3 rfl ?_
  refine R_bind e (fun k1 hk1 e => ?_)
  refine Rn_cv hc rfl rfl (by decide) (ii := xi_139) rfl rfl rfl (tgc_182 : Tg _ = 11) (by decide) rfl (le := [some (vR 182), some (vI 7)]) rfl (v := some (vI k1)) (M' := M) (t_139  (d := d + 1) hk1 rfl) ?_
  show Rn rom (d + 2) 147 (7, [some (vR 182)], [vI k1, vR 182], (G0, M)) out
  refine R_bind e (fun k2 hk2 e => ?_)
  refine Rn_cv hc rfl rfl (by decide) (ii := xi_146) rfl rfl rfl (tgc_182 : Tg _ = 11) (by decide) rfl (le := [some (vR 182), some (vI k1), none, none]) rfl (v := some (vI k2)) (M' := M) (t_146  (d := d + 0) hk2 rfl) ?_
  show Rn rom (d + 2) 147 (10, [some (vR 182)], [vI k2], (G0, M)) out
  cases e
  exact R_end (Rn_iret hc rfl rfl (xretI rfl rfl)) hK
/-- PedalLayersModel.runsTake -/
def f_148 (M : xM) : Option (Int) :=
  (f_139 M 0).bind (fun k1 =>
  if wr k1 = 1 then
    some (1)
  else
    (f_139 M 0).bind (fun k3 =>
    if wr k3 = 3 then
      some (1)
    else
      some (0)
    )
  )
theorem t_148 {rom : xRom} {d : Nat} {M : xM}  {r : Int} {out : Option xV × xH} (e : f_148 M = some r) (hK : eI M out r) : Rn rom (d + 1) 148 (0, [some (vR 182)], [], (G0, M)) out := by
  have hc : xkall.getD 148 [] = xk_148 := rfl
  unfold f_148 at e
  refine Rn_ms (σ' := (2, [some (vR 182)], [vI 0, vR 182], (G0, M))) hc 2 rfl ?_
  refine R_bind e (fun k1 hk1 e => ?_)
  refine Rn_cv hc rfl rfl (by decide) (ii := xi_139) rfl rfl rfl (tgc_182 : Tg _ = 11) (by decide) rfl (le := [some (vR 182), some (vI 0)]) rfl (v := some (vI k1)) (M' := M) (t_139  (d := d + 0) hk1 rfl) ?_
  refine Rn_ms (σ' := (6, [some (vR 182)], [vI 1, vI k1], (G0, M))) hc 1 rfl ?_
  refine R_ite e (fun b2 e => ?_) (fun b2 e => ?_)
  · refine Rn_icT (tgt := 18) hc rfl rfl (by decide) b2 ?_
    refine Rn_ms (σ' := (23, [some (vR 182)], [vI 1], (G0, M))) hc 2 rfl ?_
    cases e
    exact R_end (Rn_iret hc rfl rfl (xretB rfl rfl (by decide))) hK
  · refine Rn_icF hc rfl rfl (by decide) b2 ?_
    refine Rn_ms (σ' := (11, [some (vR 182)], [vI 0, vR 182], (G0, M))) hc 2 rfl ?_
    refine R_bind e (fun k3 hk3 e => ?_)
    refine Rn_cv hc rfl rfl (by decide) (ii := xi_139) rfl rfl rfl (tgc_182 : Tg _ = 11) (by decide) rfl (le := [some (vR 182), some (vI 0)]) rfl (v := some (vI k3)) (M' := M) (t_139  (d := d + 0) hk3 rfl) ?_
    refine Rn_ms (σ' := (15, [some (vR 182)], [vI 3, vI k3], (G0, M))) hc 1 rfl ?_
    refine R_ite e (fun b4 e => ?_) (fun b4 e => ?_)
    · refine Rn_icF hc rfl rfl (by decide) (fun w => w b4) ?_
      refine Rn_ms (σ' := (23, [some (vR 182)], [vI 1], (G0, M))) hc 2 rfl ?_
      cases e
      exact R_end (Rn_iret hc rfl rfl (xretB rfl rfl (by decide))) hK
    · refine Rn_icT (tgt := 22) hc rfl rfl (by decide) (fun w => b4 w) ?_
      refine Rn_ms (σ' := (23, [some (vR 182)], [vI 0], (G0, M))) hc 1 rfl ?_
      cases e
      exact R_end (Rn_iret hc rfl rfl (xretB rfl rfl (by decide))) hK
/-- PedalLayersModel.starts -/
def f_149 (M : xM) : xM :=
  bnd (xset M 183 0 2) (fun M1 =>
  bnd (xset M1 183 1 0) (fun M2 =>
  bnd (xset M2 183 9 0) (fun M3 =>
  bnd (xset M3 183 10 0) (fun M4 =>
  M4
  ))))
theorem t_149 {rom : xRom} {d : Nat} {M : xM}  {r : xM} {out : Option xV × xH} (e : f_149 M = r) (hK : eVW out r) : Rn rom (d + 0) 149 (0, [some (vR 182)], [], (G0, M)) out := by
  have hc : xkall.getD 149 [] = xk_149 := rfl
  unfold f_149 at e
  refine Rn_ms (σ' := (1, [some (vR 182)], [vR 182], (G0, M))) hc 1 rfl ?_
  refine Rn_getR hc rfl tgc_182 (by decide) rfl prc_182_0 ?_
  refine Rn_ms (σ' := (8, [some (vR 182)], [vL 2, vI 0, vR 183], (G0, M))) hc 2 rfl ?_
  refine R_bnd e (fun M1 hM1 e => ?_)
  refine Rn_last' hM1 hc rfl rfl tgc_183 zsc_183 (by decide) rfl ?_
  refine Rn_ms (σ' := (10, [some (vR 182)], [vR 182], (G0, M1))) hc 1 rfl ?_
  refine Rn_getR hc rfl tgc_182 (by decide) rfl prc_182_0 ?_
  refine Rn_ms (σ' := (15, [some (vR 182)], [vL 0, vI 1, vR 183], (G0, M1))) hc 2 rfl ?_
  refine R_bnd e (fun M2 hM2 e => ?_)
  refine Rn_last' hM2 hc rfl rfl tgc_183 zsc_183 (by decide) rfl ?_
  refine Rn_ms (σ' := (17, [some (vR 182)], [vR 182], (G0, M2))) hc 1 rfl ?_
  refine Rn_getR hc rfl tgc_182 (by decide) rfl prc_182_0 ?_
  refine Rn_ms (σ' := (23, [some (vR 182)], [vL 0, vI 9, vR 183], (G0, M2))) hc 2 rfl ?_
  refine R_bnd e (fun M3 hM3 e => ?_)
  refine Rn_last' hM3 hc rfl rfl tgc_183 zsc_183 (by decide) rfl ?_
  refine Rn_ms (σ' := (25, [some (vR 182)], [vR 182], (G0, M3))) hc 1 rfl ?_
  refine Rn_getR hc rfl tgc_182 (by decide) rfl prc_182_0 ?_
  refine Rn_ms (σ' := (31, [some (vR 182)], [vL 0, vI 10, vR 183], (G0, M3))) hc 2 rfl ?_
  refine R_bnd e (fun M4 hM4 e => ?_)
  refine Rn_last' hM4 hc rfl rfl tgc_183 zsc_183 (by decide) rfl ?_
  show Rn rom (d + 0) 149 (32, [some (vR 182)], [], (G0, M4)) out
  cases e
  exact R_end (Rn_vret hc rfl rfl rfl rfl) hK
def f_150_L20 (M : xM) (s1 : Int) (s2 : Int) : Option (xM) :=
  gd (0 ≤ wr s1 ∧ wr s1 < 1376) (
  bnd (xset M 183 (wr s1).toNat s2) (fun M4 =>
  bnd (xset M4 183 12 (M4 183 1)) (fun M5 =>
  bnd (xset M5 183 11 0) (fun M6 =>
  (f_143 M6 6).bind (fun k7 =>
  some (k7)
  )))))
theorem t_150_L20 {rom : xRom} {d : Nat} {s1 : Int} {s2 : Int} {M : xM} {r : xM} {out : Option xV × xH} (e : f_150_L20 M s1 s2 = some r) (hK : (eVW out) r) : Rn rom (d + 1) 150 (20, [some (vR 182)], [vL s2, vI s1, vR 183], (G0, M)) out := by
  have hc : xkall.getD 150 [] = xk_150 := rfl
  unfold f_150_L20 at e
  refine R_gd e (fun g3 e => ?_)
  refine R_bnd e (fun M4 hM4 e => ?_)
  refine Rn_last' hM4 hc rfl rfl tgc_183 zsc_183 g3 rfl ?_
  refine Rn_ms (σ' := (22, [some (vR 182)], [vR 182], (G0, M4))) hc 1 rfl ?_
  refine Rn_getR hc rfl tgc_182 (by decide) rfl prc_182_0 ?_
  refine Rn_ms (σ' := (28, [some (vR 182)], [vR 182, vI 12, vR 183], (G0, M4))) hc 2 rfl ?_
  refine Rn_getR hc rfl tgc_182 (by decide) rfl prc_182_0 ?_
  refine Rn_ms (σ' := (32, [some (vR 182)], [vI 1, vR 183, vI 12, vR 183], (G0, M4))) hc 1 rfl ?_
  refine Rn_lald hc rfl rfl tgc_183 zsc_183 (by decide) rfl ?_
  show Rn rom (d + 1) 150 (33, [some (vR 182)], [vL (M4 183 1), vI 12, vR 183], (G0, M4)) out
  refine R_bnd e (fun M5 hM5 e => ?_)
  refine Rn_last' hM5 hc rfl rfl tgc_183 zsc_183 (by decide) rfl ?_
  refine Rn_ms (σ' := (35, [some (vR 182)], [vR 182], (G0, M5))) hc 1 rfl ?_
  refine Rn_getR hc rfl tgc_182 (by decide) rfl prc_182_0 ?_
  refine Rn_ms (σ' := (41, [some (vR 182)], [vL 0, vI 11, vR 183], (G0, M5))) hc 2 rfl ?_
  refine R_bnd e (fun M6 hM6 e => ?_)
  refine Rn_last' hM6 hc rfl rfl tgc_183 zsc_183 (by decide) rfl ?_
  refine Rn_ms (σ' := (45, [some (vR 182)], [vI 6, vR 182], (G0, M6))) hc 2 rfl ?_
  refine R_bind e (fun k7 hk7 e => ?_)
  refine Rn_cv hc rfl rfl (by decide) (ii := xi_143) rfl rfl rfl (tgc_182 : Tg _ = 11) (by decide) rfl (le := [some (vR 182), some (vI 6), none]) rfl (v := none) (M' := k7) (t_143  (d := d + 0) hk7 rfl) ?_
  show Rn rom (d + 1) 150 (48, [some (vR 182)], [], (G0, k7)) out
  cases e
  exact R_end (Rn_vret hc rfl rfl rfl rfl) hK
/-- PedalLayersModel.beginsTake -/
def f_150 (M : xM) : Option (xM) :=
  (f_139 M 0).bind (fun k1 =>
  if wr k1 = 0 then
    f_150_L20 M 0 1
  else
    f_150_L20 M 0 3
  )
theorem t_150 {rom : xRom} {d : Nat} {M : xM}  {r : xM} {out : Option xV × xH} (e : f_150 M = some r) (hK : eVW out r) : Rn rom (d + 1) 150 (0, [some (vR 182)], [], (G0, M)) out := by
  have hc : xkall.getD 150 [] = xk_150 := rfl
  unfold f_150 at e
  refine Rn_ms (σ' := (1, [some (vR 182)], [vR 182], (G0, M))) hc 1 rfl ?_
  refine Rn_getR hc rfl tgc_182 (by decide) rfl prc_182_0 ?_
  refine Rn_ms (σ' := (7, [some (vR 182)], [vI 0, vR 182, vI 0, vR 183], (G0, M))) hc 3 rfl ?_
  refine R_bind e (fun k1 hk1 e => ?_)
  refine Rn_cv hc rfl rfl (by decide) (ii := xi_139) rfl rfl rfl (tgc_182 : Tg _ = 11) (by decide) rfl (le := [some (vR 182), some (vI 0)]) rfl (v := some (vI k1)) (M' := M) (t_139  (d := d + 0) hk1 rfl) ?_
  show Rn rom (d + 1) 150 (10, [some (vR 182)], [vI k1, vI 0, vR 183], (G0, M)) out
  refine R_ite e (fun b2 e => ?_) (fun b2 e => ?_)
  · refine Rn_ifF hc rfl rfl (by decide) (fun w => w b2) ?_
    refine Rn_ms (σ' := (20, [some (vR 182)], [vL 1, vI 0, vR 183], (G0, M))) hc 2 rfl ?_
    exact Rn_weak (xle_s xle_0) (t_150_L20  e hK)
  · refine Rn_ifT (tgt := 17) hc rfl rfl (by decide) (fun w => b2 w) ?_
    refine Rn_ms (σ' := (20, [some (vR 182)], [vL 3, vI 0, vR 183], (G0, M))) hc 1 rfl ?_
    exact Rn_weak (xle_s xle_0) (t_150_L20  e hK)
/-- PedalLayersModel.endsTake -/
def f_151 (M : xM) : Option (xM) :=
  bnd (xset M 183 11 0) (fun M1 =>
  (f_143 M1 6).bind (fun k2 =>
  some (k2)
  ))
theorem t_151 {rom : xRom} {d : Nat} {M : xM}  {r : xM} {out : Option xV × xH} (e : f_151 M = some r) (hK : eVW out r) : Rn rom (d + 1) 151 (0, [some (vR 182)], [], (G0, M)) out := by
  have hc : xkall.getD 151 [] = xk_151 := rfl
  unfold f_151 at e
  refine Rn_ms (σ' := (1, [some (vR 182)], [vR 182], (G0, M))) hc 1 rfl ?_
  refine Rn_getR hc rfl tgc_182 (by decide) rfl prc_182_0 ?_
  refine Rn_ms (σ' := (7, [some (vR 182)], [vL 0, vI 11, vR 183], (G0, M))) hc 2 rfl ?_
  refine R_bnd e (fun M1 hM1 e => ?_)
  refine Rn_last' hM1 hc rfl rfl tgc_183 zsc_183 (by decide) rfl ?_
  refine Rn_ms (σ' := (11, [some (vR 182)], [vI 6, vR 182], (G0, M1))) hc 2 rfl ?_
  refine R_bind e (fun k2 hk2 e => ?_)
  refine Rn_cv hc rfl rfl (by decide) (ii := xi_143) rfl rfl rfl (tgc_182 : Tg _ = 11) (by decide) rfl (le := [some (vR 182), some (vI 6), none]) rfl (v := none) (M' := k2) (t_143  (d := d + 0) hk2 rfl) ?_
  show Rn rom (d + 1) 151 (14, [some (vR 182)], [], (G0, k2)) out
  cases e
  exact R_end (Rn_vret hc rfl rfl rfl rfl) hK
def f_152_L68 (M : xM) (c1 : Int) (c2 : Int) (c3 : Int) (c4 : Int) (c5 : Int) (s0 : Int) : Option ((Int × xM) ⊕ (xM)) :=
  (f_142 M c3 ((wr c4).tdiv 36) ((wr c4).tmod 36) (f_144 c5 s0)).bind (fun k15 =>
  some (.inl ((c4 + 1), k15))
  )
theorem t_152_L68 {rom : xRom} {d : Nat} {c1 : Int} {c2 : Int} {c3 : Int} {c4 : Int} {c5 : Int} {s0 : Int} {M : xM} {r : (Int × xM) ⊕ (xM)} {out : Option xV × xH} (e : f_152_L68 M c1 c2 c3 c4 c5 s0 = some r) (hK : ((Sum.elim (fun s => Rn rom (d + 1) 152 (15, [some (vR 182), some (vI c1), some (vI c2), some (vI c3), some (vI s.1), none, none], [], (G0, s.2)) out) (eVW out))) r) : Rn rom (d + 1) 152 (68, [some (vR 182), some (vI c1), some (vI c2), some (vI c3), some (vI c4), some (vI c5), none], [vI s0], (G0, M)) out := by
  have hc : xkall.getD 152 [] = xk_152 := rfl
  unfold f_152_L68 at e
  refine Rn_ms (σ' := (76, [some (vR 182), some (vI c1), some (vI c2), some (vI c3), some (vI c4), some (vI c5), some (vI s0)], [vI 36, vI c4, vI c3, vR 182], (G0, M))) hc 5 rfl ?_
  refine Rn_div hc rfl ⟨rfl, rfl⟩ (z' := 36) (by decide) (by decide) ?_
  refine Rn_ms (σ' := (81, [some (vR 182), some (vI c1), some (vI c2), some (vI c3), some (vI c4), some (vI c5), some (vI s0)], [vI 36, vI c4, vI ((wr c4).tdiv 36), vI c3, vR 182], (G0, M))) hc 2 rfl ?_
  refine Rn_rem hc rfl ⟨rfl, rfl⟩ (z' := 36) (by decide) (by decide) ?_
  refine Rn_ms (σ' := (86, [some (vR 182), some (vI c1), some (vI c2), some (vI c3), some (vI c4), some (vI c5), some (vI s0)], [vI s0, vI c5, vI ((wr c4).tmod 36), vI ((wr c4).tdiv 36), vI c3, vR 182], (G0, M))) hc 2 rfl ?_
  refine Rn_cs hc rfl rfl (by decide) (ii := xi_144) rfl rfl rfl (le := [some (vI c5), some (vI s0)]) rfl (v := some (vI (f_144 c5 s0))) (M' := M) (t_144  (d := d + 0) rfl rfl) ?_
  show Rn rom (d + 1) 152 (89, [some (vR 182), some (vI c1), some (vI c2), some (vI c3), some (vI c4), some (vI c5), some (vI s0)], [vI (f_144 c5 s0), vI ((wr c4).tmod 36), vI ((wr c4).tdiv 36), vI c3, vR 182], (G0, M)) out
  refine R_bind e (fun k15 hk15 e => ?_)
  refine Rn_cv hc rfl rfl (by decide) (ii := xi_142) rfl rfl rfl (tgc_182 : Tg _ = 11) (by decide) rfl (le := [some (vR 182), some (vI c3), some (vI ((wr c4).tdiv 36)), some (vI ((wr c4).tmod 36)), some (vI (f_144 c5 s0)), none, none]) rfl (v := none) (M' := k15) (t_142  (d := d + 0) hk15 rfl) ?_
  refine Rn_ms (σ' := (15, [some (vR 182), some (vI c1), some (vI c2), some (vI c3), some (vI (c4 + 1)), some (vI c5), some (vI s0)], [], (G0, k15))) hc 2 rfl ?_
  cases e
  exact Rn_weak (xle_s (xle_s (xle_s (xle_s (xle_s (xle_n (xle_n xle_0))))))) hK
def f_152_L15b (c1 : Int) (c2 : Int) (c3 : Int) (v4 : Int) (M : xM) : Option ((Int × xM) ⊕ (xM)) :=
  if wr (c1 * 36) ≤ wr v4 then
    gd (0 ≤ wr (14 + c3) ∧ wr (14 + c3) < 1376) (
    bnd (xset M 183 (wr (14 + c3)).toNat (wr c1)) (fun M5 =>
    gd (0 ≤ wr (20 + c3) ∧ wr (20 + c3) < 1376) (
    bnd (xset M5 183 (wr (20 + c3)).toNat 0) (fun M7 =>
    gd (0 ≤ wr (26 + c3) ∧ wr (26 + c3) < 1376) (
    bnd (xset M7 183 (wr (26 + c3)).toNat 0) (fun M9 =>
    bnd (xset M9 183 7 ((M9 183 7) + 1)) (fun M10 =>
    bnd (xset M10 183 8 0) (fun M11 =>
    bnd (xset M11 183 13 ((M11 183 13) + 1)) (fun M12 =>
    some (.inr (M12))
    )))))))))
  else
    (f_141 M 6 ((wr v4).tdiv 36) ((wr v4).tmod 36)).bind (fun k13 =>
    if wr c2 = 0 then
      f_152_L68 M c1 c2 c3 v4 k13 0
    else
      (f_141 M 6 (((wr v4).tdiv 36) + c2) ((wr v4).tmod 36)).bind (fun k16 =>
      f_152_L68 M c1 c2 c3 v4 k13 k16
      )
    )
theorem t_152_L15b {rom : xRom} {d : Nat} {c1 : Int} {c2 : Int} {c3 : Int} {v4 : Int} {M : xM} {r : (Int × xM) ⊕ (xM)} {out : Option xV × xH} (e : f_152_L15b c1 c2 c3 v4 M = some r) (hK : ((Sum.elim (fun s => Rn rom (d + 1) 152 (15, [some (vR 182), some (vI c1), some (vI c2), some (vI c3), some (vI s.1), none, none], [], (G0, s.2)) out) (eVW out))) r) : Rn rom (d + 1) 152 (15, [some (vR 182), some (vI c1), some (vI c2), some (vI c3), some (vI v4), none, none], [], (G0, M)) out := by
  have hc : xkall.getD 152 [] = xk_152 := rfl
  unfold f_152_L15b at e
  refine Rn_ms (σ' := (21, [some (vR 182), some (vI c1), some (vI c2), some (vI c3), some (vI v4), none, none], [vI (c1 * 36), vI v4], (G0, M))) hc 4 rfl ?_
  refine R_ite e (fun b3 e => ?_) (fun b3 e => ?_)
  · refine Rn_icT (tgt := 98) hc rfl rfl (by decide) b3 ?_
    refine Rn_ms (σ' := (99, [some (vR 182), some (vI c1), some (vI c2), some (vI c3), some (vI v4), none, none], [vR 182], (G0, M))) hc 1 rfl ?_
    refine Rn_getR hc rfl tgc_182 (by decide) rfl prc_182_0 ?_
    refine Rn_ms (σ' := (108, [some (vR 182), some (vI c1), some (vI c2), some (vI c3), some (vI v4), none, none], [vL (wr c1), vI (14 + c3), vR 183], (G0, M))) hc 5 rfl ?_
    refine R_gd e (fun g4 e => ?_)
    refine R_bnd e (fun M5 hM5 e => ?_)
    refine Rn_last' hM5 hc rfl rfl tgc_183 zsc_183 g4 rfl ?_
    refine Rn_ms (σ' := (110, [some (vR 182), some (vI c1), some (vI c2), some (vI c3), some (vI v4), none, none], [vR 182], (G0, M5))) hc 1 rfl ?_
    refine Rn_getR hc rfl tgc_182 (by decide) rfl prc_182_0 ?_
    refine Rn_ms (σ' := (118, [some (vR 182), some (vI c1), some (vI c2), some (vI c3), some (vI v4), none, none], [vL 0, vI (20 + c3), vR 183], (G0, M5))) hc 4 rfl ?_
    refine R_gd e (fun g6 e => ?_)
    refine R_bnd e (fun M7 hM7 e => ?_)
    refine Rn_last' hM7 hc rfl rfl tgc_183 zsc_183 g6 rfl ?_
    refine Rn_ms (σ' := (120, [some (vR 182), some (vI c1), some (vI c2), some (vI c3), some (vI v4), none, none], [vR 182], (G0, M7))) hc 1 rfl ?_
    refine Rn_getR hc rfl tgc_182 (by decide) rfl prc_182_0 ?_
    refine Rn_ms (σ' := (128, [some (vR 182), some (vI c1), some (vI c2), some (vI c3), some (vI v4), none, none], [vL 0, vI (26 + c3), vR 183], (G0, M7))) hc 4 rfl ?_
    refine R_gd e (fun g8 e => ?_)
    refine R_bnd e (fun M9 hM9 e => ?_)
    refine Rn_last' hM9 hc rfl rfl tgc_183 zsc_183 g8 rfl ?_
    refine Rn_ms (σ' := (130, [some (vR 182), some (vI c1), some (vI c2), some (vI c3), some (vI v4), none, none], [vR 182], (G0, M9))) hc 1 rfl ?_
    refine Rn_getR hc rfl tgc_182 (by decide) rfl prc_182_0 ?_
    refine Rn_ms (σ' := (136, [some (vR 182), some (vI c1), some (vI c2), some (vI c3), some (vI v4), none, none], [vI 7, vR 183, vI 7, vR 183], (G0, M9))) hc 2 rfl ?_
    refine Rn_lald hc rfl rfl tgc_183 zsc_183 (by decide) rfl ?_
    refine Rn_ms (σ' := (139, [some (vR 182), some (vI c1), some (vI c2), some (vI c3), some (vI v4), none, none], [vL ((M9 183 7) + 1), vI 7, vR 183], (G0, M9))) hc 2 rfl ?_
    refine R_bnd e (fun M10 hM10 e => ?_)
    refine Rn_last' hM10 hc rfl rfl tgc_183 zsc_183 (by decide) rfl ?_
    refine Rn_ms (σ' := (141, [some (vR 182), some (vI c1), some (vI c2), some (vI c3), some (vI v4), none, none], [vR 182], (G0, M10))) hc 1 rfl ?_
    refine Rn_getR hc rfl tgc_182 (by decide) rfl prc_182_0 ?_
    refine Rn_ms (σ' := (147, [some (vR 182), some (vI c1), some (vI c2), some (vI c3), some (vI v4), none, none], [vL 0, vI 8, vR 183], (G0, M10))) hc 2 rfl ?_
    refine R_bnd e (fun M11 hM11 e => ?_)
    refine Rn_last' hM11 hc rfl rfl tgc_183 zsc_183 (by decide) rfl ?_
    refine Rn_ms (σ' := (149, [some (vR 182), some (vI c1), some (vI c2), some (vI c3), some (vI v4), none, none], [vR 182], (G0, M11))) hc 1 rfl ?_
    refine Rn_getR hc rfl tgc_182 (by decide) rfl prc_182_0 ?_
    refine Rn_ms (σ' := (155, [some (vR 182), some (vI c1), some (vI c2), some (vI c3), some (vI v4), none, none], [vI 13, vR 183, vI 13, vR 183], (G0, M11))) hc 2 rfl ?_
    refine Rn_lald hc rfl rfl tgc_183 zsc_183 (by decide) rfl ?_
    refine Rn_ms (σ' := (158, [some (vR 182), some (vI c1), some (vI c2), some (vI c3), some (vI v4), none, none], [vL ((M11 183 13) + 1), vI 13, vR 183], (G0, M11))) hc 2 rfl ?_
    refine R_bnd e (fun M12 hM12 e => ?_)
    refine Rn_last' hM12 hc rfl rfl tgc_183 zsc_183 (by decide) rfl ?_
    show Rn rom (d + 1) 152 (159, [some (vR 182), some (vI c1), some (vI c2), some (vI c3), some (vI v4), none, none], [], (G0, M12)) out
    cases e
    exact R_end (Rn_vret hc rfl rfl rfl rfl) hK
  · refine Rn_icF hc rfl rfl (by decide) b3 ?_
    refine Rn_ms (σ' := (31, [some (vR 182), some (vI c1), some (vI c2), some (vI c3), some (vI v4), none, none], [vI 36, vI v4, vI 6, vR 182], (G0, M))) hc 4 rfl ?_
    refine Rn_div hc rfl ⟨rfl, rfl⟩ (z' := 36) (by decide) (by decide) ?_
    refine Rn_ms (σ' := (36, [some (vR 182), some (vI c1), some (vI c2), some (vI c3), some (vI v4), none, none], [vI 36, vI v4, vI ((wr v4).tdiv 36), vI 6, vR 182], (G0, M))) hc 2 rfl ?_
    refine Rn_rem hc rfl ⟨rfl, rfl⟩ (z' := 36) (by decide) (by decide) ?_
    show Rn rom (d + 1) 152 (37, [some (vR 182), some (vI c1), some (vI c2), some (vI c3), some (vI v4), none, none], [vI ((wr v4).tmod 36), vI ((wr v4).tdiv 36), vI 6, vR 182], (G0, M)) out
    refine R_bind e (fun k13 hk13 e => ?_)
    refine Rn_cv hc rfl rfl (by decide) (ii := xi_141) rfl rfl rfl (tgc_182 : Tg _ = 11) (by decide) rfl (le := [some (vR 182), some (vI 6), some (vI ((wr v4).tdiv 36)), some (vI ((wr v4).tmod 36))]) rfl (v := some (vI k13)) (M' := M) (t_141  (d := d + 0) hk13 rfl) ?_
    refine Rn_ms (σ' := (43, [some (vR 182), some (vI c1), some (vI c2), some (vI c3), some (vI v4), some (vI k13), none], [vI c2], (G0, M))) hc 2 rfl ?_
    refine R_ite e (fun b14 e => ?_) (fun b14 e => ?_)
    · refine Rn_ifF hc rfl rfl (by decide) (fun w => w b14) ?_
      refine Rn_ms (σ' := (68, [some (vR 182), some (vI c1), some (vI c2), some (vI c3), some (vI v4), some (vI k13), none], [vI 0], (G0, M))) hc 2 rfl ?_
      exact Rn_weak (xle_s (xle_s (xle_s (xle_s (xle_s (xle_s (xle_s xle_0))))))) (t_152_L68  e hK)
    · refine Rn_ifT (tgt := 50) hc rfl rfl (by decide) (fun w => b14 w) ?_
      refine Rn_ms (σ' := (57, [some (vR 182), some (vI c1), some (vI c2), some (vI c3), some (vI v4), some (vI k13), none], [vI 36, vI v4, vI 6, vR 182], (G0, M))) hc 4 rfl ?_
      refine Rn_div hc rfl ⟨rfl, rfl⟩ (z' := 36) (by decide) (by decide) ?_
      refine Rn_ms (σ' := (64, [some (vR 182), some (vI c1), some (vI c2), some (vI c3), some (vI v4), some (vI k13), none], [vI 36, vI v4, vI (((wr v4).tdiv 36) + c2), vI 6, vR 182], (G0, M))) hc 4 rfl ?_
      refine Rn_rem hc rfl ⟨rfl, rfl⟩ (z' := 36) (by decide) (by decide) ?_
      show Rn rom (d + 1) 152 (65, [some (vR 182), some (vI c1), some (vI c2), some (vI c3), some (vI v4), some (vI k13), none], [vI ((wr v4).tmod 36), vI (((wr v4).tdiv 36) + c2), vI 6, vR 182], (G0, M)) out
      refine R_bind e (fun k16 hk16 e => ?_)
      refine Rn_cv hc rfl rfl (by decide) (ii := xi_141) rfl rfl rfl (tgc_182 : Tg _ = 11) (by decide) rfl (le := [some (vR 182), some (vI 6), some (vI (((wr v4).tdiv 36) + c2)), some (vI ((wr v4).tmod 36))]) rfl (v := some (vI k16)) (M' := M) (t_141  (d := d + 0) hk16 rfl) ?_
      show Rn rom (d + 1) 152 (68, [some (vR 182), some (vI c1), some (vI c2), some (vI c3), some (vI v4), some (vI k13), none], [vI k16], (G0, M)) out
      exact Rn_weak (xle_s (xle_s (xle_s (xle_s (xle_s (xle_s (xle_s xle_0))))))) (t_152_L68  e hK)
def f_152_L15 (c1 : Int) (c2 : Int) (c3 : Int) (s : Int × xM) : Option (xM) := loop NF (fun s => f_152_L15b c1 c2 c3 s.1 s.2) s
theorem t_152_L15 {rom : xRom} {d : Nat} {c1 : Int} {c2 : Int} {c3 : Int} {s : Int × xM} {r : xM} {out : Option xV × xH} (e : f_152_L15 c1 c2 c3 s = some r) (hK : (eVW out) r) : Rn rom (d + 1) 152 (15, [some (vR 182), some (vI c1), some (vI c2), some (vI c3), some (vI s.1), none, none], [], (G0, s.2)) out := by
  unfold f_152_L15 at e
  revert e hK
  exact R_loop (b := fun s => f_152_L15b c1 c2 c3 s.1 s.2) (G := fun s => Rn rom (d + 1) 152 (15, [some (vR 182), some (vI c1), some (vI c2), some (vI c3), some (vI s.1), none, none], [], (G0, s.2)) out) (K := eVW out) (fun s r e hK => t_152_L15b  e hK) NF s r
/-- PedalLayersModel.lays -/
def f_152 (M : xM) (a1 : Int) (a2 : Int) : Option (xM) :=
  (f_139 M 7).bind (fun k1 =>
  (f_143 M k1).bind (fun k2 =>
  f_152_L15 a1 a2 k1 (0, k2)
  ))
theorem t_152 {rom : xRom} {d : Nat} {M : xM} {a1 : Int} {a2 : Int} {r : xM} {out : Option xV × xH} (e : f_152 M a1 a2 = some r) (hK : eVW out r) : Rn rom (d + 1) 152 (0, [some (vR 182), some (vI a1), some (vI a2), none, none, none, none], [], (G0, M)) out := by
  have hc : xkall.getD 152 [] = xk_152 := rfl
  unfold f_152 at e
  refine Rn_ms (σ' := (3, [some (vR 182), some (vI a1), some (vI a2), none, none, none, none], [vI 7, vR 182], (G0, M))) hc 2 rfl ?_
  refine R_bind e (fun k1 hk1 e => ?_)
  refine Rn_cv hc rfl rfl (by decide) (ii := xi_139) rfl rfl rfl (tgc_182 : Tg _ = 11) (by decide) rfl (le := [some (vR 182), some (vI 7)]) rfl (v := some (vI k1)) (M' := M) (t_139  (d := d + 0) hk1 rfl) ?_
  refine Rn_ms (σ' := (9, [some (vR 182), some (vI a1), some (vI a2), some (vI k1), none, none, none], [vI k1, vR 182], (G0, M))) hc 3 rfl ?_
  refine R_bind e (fun k2 hk2 e => ?_)
  refine Rn_cv hc rfl rfl (by decide) (ii := xi_143) rfl rfl rfl (tgc_182 : Tg _ = 11) (by decide) rfl (le := [some (vR 182), some (vI k1), none]) rfl (v := none) (M' := k2) (t_143  (d := d + 0) hk2 rfl) ?_
  refine Rn_ms (σ' := (15, [some (vR 182), some (vI a1), some (vI a2), some (vI k1), some (vI 0), none, none], [], (G0, k2))) hc 2 rfl ?_
  exact Rn_weak (xle_s (xle_s (xle_s (xle_s (xle_s (xle_s (xle_s xle_0))))))) (t_152_L15  e hK)
def f_153_L94 (M : xM) (c1 : Int) (c3 : Int) (s0 : Int) : Option (Int) :=
  if wr c3 ≤ 0 then
    some (c1)
  else
    if 0 < wr (xlc (wr s0) (M 183 4)) then
      some (c1)
    else
      some (c3)
theorem t_153_L94 {rom : xRom} {d : Nat} {c1 : Int} {c3 : Int} {s0 : Int} {M : xM} {r : Int} {out : Option xV × xH} (e : f_153_L94 M c1 c3 s0 = some r) (hK : (eI M out) r) : Rn rom (d + 1) 153 (94, [some (vR 182), some (vI c1), none, some (vI c3), none, none, none], [vI s0], (G0, M)) out := by
  have hc : xkall.getD 153 [] = xk_153 := rfl
  unfold f_153_L94 at e
  refine Rn_ms (σ' := (97, [some (vR 182), some (vI c1), none, some (vI c3), some (vI s0), none, none], [vI c3], (G0, M))) hc 2 rfl ?_
  refine R_ite e (fun b4 e => ?_) (fun b4 e => ?_)
  · refine Rn_ifT (tgt := 117) hc rfl rfl (by decide) b4 ?_
    refine Rn_ms (σ' := (118, [some (vR 182), some (vI c1), none, some (vI c3), some (vI s0), none, none], [vI c1], (G0, M))) hc 1 rfl ?_
    cases e
    exact R_end (Rn_iret hc rfl rfl (xretI rfl rfl)) hK
  · refine Rn_ifF hc rfl rfl (by decide) b4 ?_
    refine Rn_ms (σ' := (104, [some (vR 182), some (vI c1), none, some (vI c3), some (vI s0), none, none], [vR 182, vL (wr s0)], (G0, M))) hc 3 rfl ?_
    refine Rn_getR hc rfl tgc_182 (by decide) rfl prc_182_0 ?_
    refine Rn_ms (σ' := (108, [some (vR 182), some (vI c1), none, some (vI c3), some (vI s0), none, none], [vI 4, vR 183, vL (wr s0)], (G0, M))) hc 1 rfl ?_
    refine Rn_lald hc rfl rfl tgc_183 zsc_183 (by decide) rfl ?_
    refine Rn_ms (σ' := (110, [some (vR 182), some (vI c1), none, some (vI c3), some (vI s0), none, none], [vI (xlc (wr s0) (M 183 4))], (G0, M))) hc 1 rfl ?_
    refine R_ite e (fun b5 e => ?_) (fun b5 e => ?_)
    · refine Rn_ifT (tgt := 117) hc rfl rfl (by decide) b5 ?_
      refine Rn_ms (σ' := (118, [some (vR 182), some (vI c1), none, some (vI c3), some (vI s0), none, none], [vI c1], (G0, M))) hc 1 rfl ?_
      cases e
      exact R_end (Rn_iret hc rfl rfl (xretI rfl rfl)) hK
    · refine Rn_ifF hc rfl rfl (by decide) b5 ?_
      refine Rn_ms (σ' := (118, [some (vR 182), some (vI c1), none, some (vI c3), some (vI s0), none, none], [vI c3], (G0, M))) hc 2 rfl ?_
      cases e
      exact R_end (Rn_iret hc rfl rfl (xretI rfl rfl)) hK
def f_153_L51 (M : xM) (c1 : Int) (c2 : Int) (c3 : Int) (c4 : Int) (c5 : Int) (s0 : Int) : Option ((Int × Int) ⊕ (Int)) :=
  if wr c3 = 0 then
    some (.inl (c4, (c4 + c2)))
  else
    if wr s0 ≤ wr c5 then
      some (.inl (c3, (c4 + c2)))
    else
      some (.inl (c4, (c4 + c2)))
theorem t_153_L51 {rom : xRom} {d : Nat} {c1 : Int} {c2 : Int} {c3 : Int} {c4 : Int} {c5 : Int} {s0 : Int} {M : xM} {r : (Int × Int) ⊕ (Int)} {out : Option xV × xH} (e : f_153_L51 M c1 c2 c3 c4 c5 s0 = some r) (hK : ((Sum.elim (fun s => Rn rom (d + 1) 153 (11, [some (vR 182), some (vI c1), some (vI c2), some (vI s.1), some (vI s.2), none, none], [], (G0, M)) out) (eI M out))) r) : Rn rom (d + 1) 153 (51, [some (vR 182), some (vI c1), some (vI c2), some (vI c3), some (vI c4), some (vI c5), none], [vI s0], (G0, M)) out := by
  have hc : xkall.getD 153 [] = xk_153 := rfl
  unfold f_153_L51 at e
  refine Rn_ms (σ' := (54, [some (vR 182), some (vI c1), some (vI c2), some (vI c3), some (vI c4), some (vI c5), some (vI s0)], [vI c3], (G0, M))) hc 2 rfl ?_
  refine R_ite e (fun b8 e => ?_) (fun b8 e => ?_)
  · refine Rn_ifT (tgt := 64) hc rfl rfl (by decide) b8 ?_
    refine Rn_ms (σ' := (11, [some (vR 182), some (vI c1), some (vI c2), some (vI c4), some (vI (c4 + c2)), some (vI c5), some (vI s0)], [], (G0, M))) hc 8 rfl ?_
    cases e
    exact Rn_weak (xle_s (xle_s (xle_s (xle_s (xle_s (xle_n (xle_n xle_0))))))) hK
  · refine Rn_ifF hc rfl rfl (by decide) b8 ?_
    refine Rn_ms (σ' := (61, [some (vR 182), some (vI c1), some (vI c2), some (vI c3), some (vI c4), some (vI c5), some (vI s0)], [vI s0, vI c5], (G0, M))) hc 2 rfl ?_
    refine R_ite e (fun b9 e => ?_) (fun b9 e => ?_)
    · refine Rn_icT (tgt := 69) hc rfl rfl (by decide) b9 ?_
      refine Rn_ms (σ' := (11, [some (vR 182), some (vI c1), some (vI c2), some (vI c3), some (vI (c4 + c2)), some (vI c5), some (vI s0)], [], (G0, M))) hc 7 rfl ?_
      cases e
      exact Rn_weak (xle_s (xle_s (xle_s (xle_s (xle_s (xle_n (xle_n xle_0))))))) hK
    · refine Rn_icF hc rfl rfl (by decide) b9 ?_
      refine Rn_ms (σ' := (11, [some (vR 182), some (vI c1), some (vI c2), some (vI c4), some (vI (c4 + c2)), some (vI c5), some (vI s0)], [], (G0, M))) hc 8 rfl ?_
      cases e
      exact Rn_weak (xle_s (xle_s (xle_s (xle_s (xle_s (xle_n (xle_n xle_0))))))) hK
def f_153_L35 (M : xM) (c1 : Int) (c2 : Int) (c3 : Int) (c4 : Int) (s0 : Int) : Option ((Int × Int) ⊕ (Int)) :=
  if wr c3 ≤ wr c1 then
    f_153_L51 M c1 c2 c3 c4 s0 (c1 - c3)
  else
    f_153_L51 M c1 c2 c3 c4 s0 (c3 - c1)
theorem t_153_L35 {rom : xRom} {d : Nat} {c1 : Int} {c2 : Int} {c3 : Int} {c4 : Int} {s0 : Int} {M : xM} {r : (Int × Int) ⊕ (Int)} {out : Option xV × xH} (e : f_153_L35 M c1 c2 c3 c4 s0 = some r) (hK : ((Sum.elim (fun s => Rn rom (d + 1) 153 (11, [some (vR 182), some (vI c1), some (vI c2), some (vI s.1), some (vI s.2), none, none], [], (G0, M)) out) (eI M out))) r) : Rn rom (d + 1) 153 (35, [some (vR 182), some (vI c1), some (vI c2), some (vI c3), some (vI c4), none, none], [vI s0], (G0, M)) out := by
  have hc : xkall.getD 153 [] = xk_153 := rfl
  unfold f_153_L35 at e
  refine Rn_ms (σ' := (39, [some (vR 182), some (vI c1), some (vI c2), some (vI c3), some (vI c4), some (vI s0), none], [vI c1, vI c3], (G0, M))) hc 3 rfl ?_
  refine R_ite e (fun b7 e => ?_) (fun b7 e => ?_)
  · refine Rn_icT (tgt := 48) hc rfl rfl (by decide) b7 ?_
    refine Rn_ms (σ' := (51, [some (vR 182), some (vI c1), some (vI c2), some (vI c3), some (vI c4), some (vI s0), none], [vI (c1 - c3)], (G0, M))) hc 3 rfl ?_
    exact Rn_weak (xle_s (xle_s (xle_s (xle_s (xle_s (xle_s (xle_s xle_0))))))) (t_153_L51  e hK)
  · refine Rn_icF hc rfl rfl (by decide) b7 ?_
    refine Rn_ms (σ' := (51, [some (vR 182), some (vI c1), some (vI c2), some (vI c3), some (vI c4), some (vI s0), none], [vI (c3 - c1)], (G0, M))) hc 4 rfl ?_
    exact Rn_weak (xle_s (xle_s (xle_s (xle_s (xle_s (xle_s (xle_s xle_0))))))) (t_153_L51  e hK)
def f_153_L11b (M : xM) (c1 : Int) (c2 : Int) (v3 : Int) (v4 : Int) : Option ((Int × Int) ⊕ (Int)) :=
  if 24 < wr v4 then
    if wr v3 ≤ wr c1 then
      (f_153_L94 M c1 v3 (c1 - v3)).bind (fun o => some (.inr (o)))
    else
      (f_153_L94 M c1 v3 (v3 - c1)).bind (fun o => some (.inr (o)))
  else
    if wr v4 ≤ wr c1 then
      f_153_L35 M c1 c2 v3 v4 (c1 - v4)
    else
      f_153_L35 M c1 c2 v3 v4 (v4 - c1)
theorem t_153_L11b {rom : xRom} {d : Nat} {c1 : Int} {c2 : Int} {v3 : Int} {v4 : Int} {M : xM} {r : (Int × Int) ⊕ (Int)} {out : Option xV × xH} (e : f_153_L11b M c1 c2 v3 v4 = some r) (hK : ((Sum.elim (fun s => Rn rom (d + 1) 153 (11, [some (vR 182), some (vI c1), some (vI c2), some (vI s.1), some (vI s.2), none, none], [], (G0, M)) out) (eI M out))) r) : Rn rom (d + 1) 153 (11, [some (vR 182), some (vI c1), some (vI c2), some (vI v3), some (vI v4), none, none], [], (G0, M)) out := by
  have hc : xkall.getD 153 [] = xk_153 := rfl
  unfold f_153_L11b at e
  refine Rn_ms (σ' := (15, [some (vR 182), some (vI c1), some (vI c2), some (vI v3), some (vI v4), none, none], [vI 24, vI v4], (G0, M))) hc 2 rfl ?_
  refine R_ite e (fun b2 e => ?_) (fun b2 e => ?_)
  · refine Rn_icT (tgt := 80) hc rfl rfl (by decide) b2 ?_
    refine Rn_ms (σ' := (82, [some (vR 182), some (vI c1), some (vI c2), some (vI v3), some (vI v4), none, none], [vI c1, vI v3], (G0, M))) hc 2 rfl ?_
    refine R_ite e (fun b3 e => ?_) (fun b3 e => ?_)
    · refine Rn_icT (tgt := 91) hc rfl rfl (by decide) b3 ?_
      refine Rn_ms (σ' := (94, [some (vR 182), some (vI c1), some (vI c2), some (vI v3), some (vI v4), none, none], [vI (c1 - v3)], (G0, M))) hc 3 rfl ?_
      refine R_bind e (fun o ho e => ?_)
      cases e
      exact Rn_weak (xle_s (xle_s (xle_n (xle_s (xle_n (xle_s (xle_s xle_0))))))) (t_153_L94  ho hK)
    · refine Rn_icF hc rfl rfl (by decide) b3 ?_
      refine Rn_ms (σ' := (94, [some (vR 182), some (vI c1), some (vI c2), some (vI v3), some (vI v4), none, none], [vI (v3 - c1)], (G0, M))) hc 4 rfl ?_
      refine R_bind e (fun o ho e => ?_)
      cases e
      exact Rn_weak (xle_s (xle_s (xle_n (xle_s (xle_n (xle_s (xle_s xle_0))))))) (t_153_L94  ho hK)
  · refine Rn_icF hc rfl rfl (by decide) b2 ?_
    refine Rn_ms (σ' := (21, [some (vR 182), some (vI c1), some (vI c2), some (vI v3), some (vI v4), none, none], [vI c1, vI v4], (G0, M))) hc 2 rfl ?_
    refine R_ite e (fun b6 e => ?_) (fun b6 e => ?_)
    · refine Rn_icT (tgt := 31) hc rfl rfl (by decide) b6 ?_
      refine Rn_ms (σ' := (35, [some (vR 182), some (vI c1), some (vI c2), some (vI v3), some (vI v4), none, none], [vI (c1 - v4)], (G0, M))) hc 3 rfl ?_
      exact Rn_weak (xle_s (xle_s (xle_s (xle_s (xle_s (xle_s (xle_s xle_0))))))) (t_153_L35  e hK)
    · refine Rn_icF hc rfl rfl (by decide) b6 ?_
      refine Rn_ms (σ' := (35, [some (vR 182), some (vI c1), some (vI c2), some (vI v3), some (vI v4), none, none], [vI (v4 - c1)], (G0, M))) hc 4 rfl ?_
      exact Rn_weak (xle_s (xle_s (xle_s (xle_s (xle_s (xle_s (xle_s xle_0))))))) (t_153_L35  e hK)
def f_153_L11 (M : xM) (c1 : Int) (c2 : Int) (s : Int × Int) : Option (Int) := loop NF (fun s => f_153_L11b M c1 c2 s.1 s.2) s
theorem t_153_L11 {rom : xRom} {d : Nat} {c1 : Int} {c2 : Int} {M : xM} {s : Int × Int} {r : Int} {out : Option xV × xH} (e : f_153_L11 M c1 c2 s = some r) (hK : (eI M out) r) : Rn rom (d + 1) 153 (11, [some (vR 182), some (vI c1), some (vI c2), some (vI s.1), some (vI s.2), none, none], [], (G0, M)) out := by
  unfold f_153_L11 at e
  revert e hK
  exact R_loop (b := fun s => f_153_L11b M c1 c2 s.1 s.2) (G := fun s => Rn rom (d + 1) 153 (11, [some (vR 182), some (vI c1), some (vI c2), some (vI s.1), some (vI s.2), none, none], [], (G0, M)) out) (K := eI M out) (fun s r e hK => t_153_L11b  e hK) NF s r
/-- PedalLayersModel.roundedOf -/
def f_153 (M : xM) (a1 : Int) : Option (Int) :=
  (f_139 M 3).bind (fun k1 =>
  f_153_L11 M a1 k1 (0, k1)
  )
theorem t_153 {rom : xRom} {d : Nat} {M : xM} {a1 : Int} {r : Int} {out : Option xV × xH} (e : f_153 M a1 = some r) (hK : eI M out r) : Rn rom (d + 1) 153 (0, [some (vR 182), some (vI a1), none, none, none, none, none], [], (G0, M)) out := by
  have hc : xkall.getD 153 [] = xk_153 := rfl
  unfold f_153 at e
  refine Rn_ms (σ' := (2, [some (vR 182), some (vI a1), none, none, none, none, none], [vI 3, vR 182], (G0, M))) hc 2 rfl ?_
  refine R_bind e (fun k1 hk1 e => ?_)
  refine Rn_cv hc rfl rfl (by decide) (ii := xi_139) rfl rfl rfl (tgc_182 : Tg _ = 11) (by decide) rfl (le := [some (vR 182), some (vI 3)]) rfl (v := some (vI k1)) (M' := M) (t_139  (d := d + 0) hk1 rfl) ?_
  refine Rn_ms (σ' := (11, [some (vR 182), some (vI a1), some (vI k1), some (vI 0), some (vI k1), none, none], [], (G0, M))) hc 5 rfl ?_
  exact Rn_weak (xle_s (xle_s (xle_s (xle_s (xle_s (xle_s (xle_s xle_0))))))) (t_153_L11  e hK)
def f_154_L24 (M : xM) (s1 : Int) : Option (xM) :=
  (f_153 M s1).bind (fun k3 =>
  (f_152 M k3 0).bind (fun k4 =>
  bnd (xset k4 183 6 (wr k3)) (fun M5 =>
  (f_151 M5).bind (fun k6 =>
  bnd (f_149 k6) (fun k7 =>
  some (k7)
  )))))
theorem t_154_L24 {rom : xRom} {d : Nat} {s1 : Int} {M : xM} {r : xM} {out : Option xV × xH} (e : f_154_L24 M s1 = some r) (hK : (eVW out) r) : Rn rom (d + 2) 154 (24, [some (vR 182), none, none], [vI s1, vR 182], (G0, M)) out := by
  have hc : xkall.getD 154 [] = xk_154 := rfl
  unfold f_154_L24 at e
  refine R_bind e (fun k3 hk3 e => ?_)
  refine Rn_cv hc rfl rfl (by decide) (ii := xi_153) rfl rfl rfl (tgc_182 : Tg _ = 11) (by decide) rfl (le := [some (vR 182), some (vI s1), none, none, none, none, none]) rfl (v := some (vI k3)) (M' := M) (t_153  (d := d + 0) hk3 rfl) ?_
  refine Rn_ms (σ' := (31, [some (vR 182), none, some (vI k3)], [vI 0, vI k3, vR 182], (G0, M))) hc 4 rfl ?_
  refine R_bind e (fun k4 hk4 e => ?_)
  refine Rn_cv hc rfl rfl (by decide) (ii := xi_152) rfl rfl rfl (tgc_182 : Tg _ = 11) (by decide) rfl (le := [some (vR 182), some (vI k3), some (vI 0), none, none, none, none]) rfl (v := none) (M' := k4) (t_152  (d := d + 0) hk4 rfl) ?_
  refine Rn_ms (σ' := (35, [some (vR 182), none, some (vI k3)], [vR 182], (G0, k4))) hc 1 rfl ?_
  refine Rn_getR hc rfl tgc_182 (by decide) rfl prc_182_0 ?_
  refine Rn_ms (σ' := (42, [some (vR 182), none, some (vI k3)], [vL (wr k3), vI 6, vR 183], (G0, k4))) hc 3 rfl ?_
  refine R_bnd e (fun M5 hM5 e => ?_)
  refine Rn_last' hM5 hc rfl rfl tgc_183 zsc_183 (by decide) rfl ?_
  refine Rn_ms (σ' := (44, [some (vR 182), none, some (vI k3)], [vR 182], (G0, M5))) hc 1 rfl ?_
  refine R_bind e (fun k6 hk6 e => ?_)
  refine Rn_cv hc rfl rfl (by decide) (ii := xi_151) rfl rfl rfl (tgc_182 : Tg _ = 11) (by decide) rfl (le := [some (vR 182)]) rfl (v := none) (M' := k6) (t_151  (d := d + 0) hk6 rfl) ?_
  refine Rn_ms (σ' := (48, [some (vR 182), none, some (vI k3)], [vR 182], (G0, k6))) hc 1 rfl ?_
  refine R_bnd e (fun k7 hk7 e => ?_)
  refine Rn_cv hc rfl rfl (by decide) (ii := xi_149) rfl rfl rfl (tgc_182 : Tg _ = 11) (by decide) rfl (le := [some (vR 182)]) rfl (v := none) (M' := k7) (t_149  (d := d + 1) hk7.symm rfl) ?_
  show Rn rom (d + 2) 154 (51, [some (vR 182), none, some (vI k3)], [], (G0, k7)) out
  cases e
  exact R_end (Rn_vret hc rfl rfl rfl rfl) hK
/-- PedalLayersModel.endsFirst -/
def f_154 (M : xM) : Option (xM) :=
  (f_139 M 11).bind (fun k1 =>
  if 24 ≤ wr ((wr (k1 + 1)).tdiv 2) then
    f_154_L24 M 24
  else
    f_154_L24 M ((wr (k1 + 1)).tdiv 2)
  )
theorem t_154 {rom : xRom} {d : Nat} {M : xM}  {r : xM} {out : Option xV × xH} (e : f_154 M = some r) (hK : eVW out r) : Rn rom (d + 2) 154 (0, [some (vR 182), none, none], [], (G0, M)) out := by
  have hc : xkall.getD 154 [] = xk_154 := rfl
  unfold f_154 at e
  refine Rn_ms (σ' := (3, [some (vR 182), none, none], [vI 11, vR 182], (G0, M))) hc 2 rfl ?_
  refine R_bind e (fun k1 hk1 e => ?_)
  refine Rn_cv hc rfl rfl (by decide) (ii := xi_139) rfl rfl rfl (tgc_182 : Tg _ = 11) (by decide) rfl (le := [some (vR 182), some (vI 11)]) rfl (v := some (vI k1)) (M' := M) (t_139  (d := d + 1) hk1 rfl) ?_
  refine Rn_ms (σ' := (9, [some (vR 182), none, none], [vI 2, vI (k1 + 1)], (G0, M))) hc 3 rfl ?_
  refine Rn_div hc rfl ⟨rfl, rfl⟩ (z' := 2) (by decide) (by decide) ?_
  refine Rn_ms (σ' := (15, [some (vR 182), some (vI ((wr (k1 + 1)).tdiv 2)), none], [vI 24, vI ((wr (k1 + 1)).tdiv 2), vR 182], (G0, M))) hc 4 rfl ?_
  refine R_ite e (fun b2 e => ?_) (fun b2 e => ?_)
  · refine Rn_icT (tgt := 22) hc rfl rfl (by decide) b2 ?_
    refine Rn_ms (σ' := (24, [some (vR 182), some (vI ((wr (k1 + 1)).tdiv 2)), none], [vI 24, vR 182], (G0, M))) hc 1 rfl ?_
    exact Rn_weak (xle_s (xle_n (xle_s xle_0))) (t_154_L24  e hK)
  · refine Rn_icF hc rfl rfl (by decide) b2 ?_
    refine Rn_ms (σ' := (24, [some (vR 182), some (vI ((wr (k1 + 1)).tdiv 2)), none], [vI ((wr (k1 + 1)).tdiv 2), vR 182], (G0, M))) hc 2 rfl ?_
    exact Rn_weak (xle_s (xle_n (xle_s xle_0))) (t_154_L24  e hK)
