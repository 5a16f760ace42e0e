/-! functions for methods, by program (wip/whole/gen/dec.py) -/
def f_305_L156 (M : xM) (c5 : Int) : Option (Int × xM) :=
  if wr c5 = 0 then
    some (0, M)
  else
    (f_116 M).bind (fun k10 =>
    if wr k10.1 = (-2) then
      (f_114 k10.2 0 0).bind (fun k12 =>
      if wr k12.1 = (-1) then
        (f_120 k12.2).bind (fun k14 =>
        if wr (xdc k14.1 FP.dconst0) = 0 then
          some (1, k14.2)
        else
          some (0, k14.2)
        )
      else
        some (0, k12.2)
      )
    else
      some (0, k10.2)
    )
set_option maxRecDepth 100000 in
set_option maxHeartbeats 4000000 in
theorem t_305_L156 {rom : xRom} {d : Nat} {c5 : Int} {M : xM} {r : Int × xM} {out : Option xV × xH} (e : f_305_L156 M c5 = some r) (hK : (eIW out) r) : Rn rom (d + 6) 110 (156, [some (vR 1), none, none, none, none, some (vI c5), none, none, none, none, none, none], [], (G0, M)) out := by
  have hc : xkall.getD 110 [] = xk_110 := rfl
  unfold f_305_L156 at e
  refine Rn_ms (σ' := (158, [some (vR 1), none, none, none, none, some (vI c5), none, none, none, none, none, none], [vI c5], (G0, M))) hc 1 rfl ?_
  refine R_ite e (fun b9 e => ?_) (fun b9 e => ?_)
  · refine Rn_ifT (tgt := 193) hc rfl rfl (by decide) b9 ?_
    refine Rn_ms (σ' := (194, [some (vR 1), none, none, none, none, some (vI c5), none, none, none, none, none, none], [vI 0], (G0, M))) hc 1 rfl ?_
    cases e
    exact R_end (Rn_iret hc rfl rfl (xretB rfl rfl (by decide))) hK
  · refine Rn_ifF hc rfl rfl (by decide) b9 ?_
    refine Rn_ms (σ' := (162, [some (vR 1), none, none, none, none, some (vI c5), none, none, none, none, none, none], [vR 1], (G0, M))) hc 1 rfl ?_
    refine R_bind e (fun k10 hk10 e => ?_)
    refine Rn_cv hc rfl rfl (by decide) (ii := xi_88) rfl rfl rfl (tgc_1 : Tg _ = 10) (by decide) rfl (le := [some (vR 1)]) rfl (v := some (vI k10.1)) (M' := k10.2) (t_116  (d := d + 0) hk10 rfl) ?_
    refine Rn_ms (σ' := (167, [some (vR 1), none, none, none, none, some (vI c5), none, none, none, none, none, none], [vI (-2), vI k10.1], (G0, k10.2))) hc 1 rfl ?_
    refine R_ite e (fun b11 e => ?_) (fun b11 e => ?_)
    · refine Rn_icF hc rfl rfl (by decide) (fun w => w b11) ?_
      refine Rn_ms (σ' := (173, [some (vR 1), none, none, none, none, some (vI c5), none, none, none, none, none, none], [vI 0, vI 0, vR 1], (G0, k10.2))) hc 3 rfl ?_
      refine R_bind e (fun k12 hk12 e => ?_)
      refine Rn_cv hc rfl rfl (by decide) (ii := xi_86) rfl rfl rfl (tgc_1 : Tg _ = 10) (by decide) rfl (le := [some (vR 1), some (vI 0), some (vI 0)]) rfl (v := some (vI k12.1)) (M' := k12.2) (t_114  (d := d + 1) hk12 rfl) ?_
      refine Rn_ms (σ' := (177, [some (vR 1), none, none, none, none, some (vI c5), none, none, none, none, none, none], [vI (-1), vI k12.1], (G0, k12.2))) hc 1 rfl ?_
      refine R_ite e (fun b13 e => ?_) (fun b13 e => ?_)
      · refine Rn_icF hc rfl rfl (by decide) (fun w => w b13) ?_
        refine Rn_ms (σ' := (181, [some (vR 1), none, none, none, none, some (vI c5), none, none, none, none, none, none], [vR 1], (G0, k12.2))) hc 1 rfl ?_
        refine R_bind e (fun k14 hk14 e => ?_)
        refine Rn_cv hc rfl rfl (by decide) (ii := xi_90) rfl rfl rfl (tgc_1 : Tg _ = 10) (by decide) rfl (le := [some (vR 1), none]) rfl (v := some (vD k14.1)) (M' := k14.2) (t_120  (d := d + 0) hk14 rfl) ?_
        refine Rn_ms (σ' := (186, [some (vR 1), none, none, none, none, some (vI c5), none, none, none, none, none, none], [vI (xdc k14.1 FP.dconst0)], (G0, k14.2))) hc 2 rfl ?_
        refine R_ite e (fun b15 e => ?_) (fun b15 e => ?_)
        · refine Rn_ifF hc rfl rfl (by decide) (fun w => w b15) ?_
          refine Rn_ms (σ' := (194, [some (vR 1), none, none, none, none, some (vI c5), none, none, none, none, none, none], [vI 1], (G0, k14.2))) hc 2 rfl ?_
          cases e
          exact R_end (Rn_iret hc rfl rfl (xretB rfl rfl (by decide))) hK
        · refine Rn_ifT (tgt := 193) hc rfl rfl (by decide) (fun w => b15 w) ?_
          refine Rn_ms (σ' := (194, [some (vR 1), none, none, none, none, some (vI c5), none, none, none, none, none, none], [vI 0], (G0, k14.2))) hc 1 rfl ?_
          cases e
          exact R_end (Rn_iret hc rfl rfl (xretB rfl rfl (by decide))) hK
      · refine Rn_icT (tgt := 193) hc rfl rfl (by decide) (fun w => b13 w) ?_
        refine Rn_ms (σ' := (194, [some (vR 1), none, none, none, none, some (vI c5), none, none, none, none, none, none], [vI 0], (G0, k12.2))) hc 1 rfl ?_
        cases e
        exact R_end (Rn_iret hc rfl rfl (xretB rfl rfl (by decide))) hK
    · refine Rn_icT (tgt := 193) hc rfl rfl (by decide) (fun w => b11 w) ?_
      refine Rn_ms (σ' := (194, [some (vR 1), none, none, none, none, some (vI c5), none, none, none, none, none, none], [vI 0], (G0, k10.2))) hc 1 rfl ?_
      cases e
      exact R_end (Rn_iret hc rfl rfl (xretB rfl rfl (by decide))) hK
def f_305_L380 (M : xM) (c2 : Int) (c4 : Int) (s0 : Int) : Option (Int × xM) :=
  if wr s0 = 0 then
    some (0, M)
  else
    if wr c4 = 4 then
      (f_119 M 5).bind (fun k36 =>
      if wr k36 = 0 then
        if wr (f_121 M) = (-2) then
          some (1, M)
        else
          some (0, M)
      else
        some (0, M)
      )
    else
      (f_119 M 5).bind (fun k39 =>
      if wr (2 * c2) ≤ wr k39 then
        some (0, M)
      else
        if wr (f_121 M) < 0 then
          some (0, M)
        else
          (f_119 M 10).bind (fun k42 =>
          if wr (2 * k42) ≤ wr (f_121 M) then
            some (0, M)
          else
            some (1, M)
          )
      )
set_option maxRecDepth 100000 in
set_option maxHeartbeats 4000000 in
theorem t_305_L380 {rom : xRom} {d : Nat} {c2 : Int} {c4 : Int} {s0 : Int} {M : xM} {r : Int × xM} {out : Option xV × xH} (e : f_305_L380 M c2 c4 s0 = some r) (hK : (eIW out) r) : Rn rom (d + 6) 110 (380, [some (vR 1), none, some (vI c2), none, some (vI c4), none, none, none, none, none, none, none], [vI s0], (G0, M)) out := by
  have hc : xkall.getD 110 [] = xk_110 := rfl
  unfold f_305_L380 at e
  refine Rn_ms (σ' := (384, [some (vR 1), none, some (vI c2), none, some (vI c4), some (vI s0), none, none, none, none, none, none], [vI s0], (G0, M))) hc 2 rfl ?_
  refine R_ite e (fun b34 e => ?_) (fun b34 e => ?_)
  · refine Rn_ifT (tgt := 450) hc rfl rfl (by decide) b34 ?_
    refine Rn_ms (σ' := (451, [some (vR 1), none, some (vI c2), none, some (vI c4), some (vI s0), none, none, none, none, none, none], [vI 0], (G0, M))) hc 1 rfl ?_
    cases e
    exact R_end (Rn_iret hc rfl rfl (xretB rfl rfl (by decide))) hK
  · refine Rn_ifF hc rfl rfl (by decide) b34 ?_
    refine Rn_ms (σ' := (390, [some (vR 1), none, some (vI c2), none, some (vI c4), some (vI s0), none, none, none, none, none, none], [vI 4, vI c4], (G0, M))) hc 2 rfl ?_
    refine R_ite e (fun b35 e => ?_) (fun b35 e => ?_)
    · refine Rn_icF hc rfl rfl (by decide) (fun w => w b35) ?_
      refine Rn_ms (σ' := (395, [some (vR 1), none, some (vI c2), none, some (vI c4), some (vI s0), none, none, none, none, none, none], [vI 5, vR 1], (G0, M))) hc 2 rfl ?_
      refine R_bind e (fun k36 hk36 e => ?_)
      refine Rn_cv hc rfl rfl (by decide) (ii := xi_89) rfl rfl rfl (tgc_1 : Tg _ = 10) (by decide) rfl (le := [some (vR 1), some (vI 5)]) rfl (v := some (vI k36)) (M' := M) (t_119  (d := d + 2) hk36 rfl) ?_
      show Rn rom (d + 6) 110 (398, [some (vR 1), none, some (vI c2), none, some (vI c4), some (vI s0), none, none, none, none, none, none], [vI k36], (G0, M)) out
      refine R_ite e (fun b37 e => ?_) (fun b37 e => ?_)
      · refine Rn_ifF hc rfl rfl (by decide) (fun w => w b37) ?_
        refine Rn_ms (σ' := (402, [some (vR 1), none, some (vI c2), none, some (vI c4), some (vI s0), none, none, none, none, none, none], [vR 1], (G0, M))) hc 1 rfl ?_
        refine Rn_cv hc rfl rfl (by decide) (ii := xi_91) rfl rfl rfl (tgc_1 : Tg _ = 10) (by decide) rfl (le := [some (vR 1)]) rfl (v := some (vI (f_121 M))) (M' := M) (t_121  (d := d + 3) rfl rfl) ?_
        refine Rn_ms (σ' := (407, [some (vR 1), none, some (vI c2), none, some (vI c4), some (vI s0), none, none, none, none, none, none], [vI (-2), vI (f_121 M)], (G0, M))) hc 1 rfl ?_
        refine R_ite e (fun b38 e => ?_) (fun b38 e => ?_)
        · refine Rn_icF hc rfl rfl (by decide) (fun w => w b38) ?_
          refine Rn_ms (σ' := (451, [some (vR 1), none, some (vI c2), none, some (vI c4), some (vI s0), none, none, none, none, none, none], [vI 1], (G0, M))) hc 3 rfl ?_
          cases e
          exact R_end (Rn_iret hc rfl rfl (xretB rfl rfl (by decide))) hK
        · refine Rn_icT (tgt := 450) hc rfl rfl (by decide) (fun w => b38 w) ?_
          refine Rn_ms (σ' := (451, [some (vR 1), none, some (vI c2), none, some (vI c4), some (vI s0), none, none, none, none, none, none], [vI 0], (G0, M))) hc 1 rfl ?_
          cases e
          exact R_end (Rn_iret hc rfl rfl (xretB rfl rfl (by decide))) hK
      · refine Rn_ifT (tgt := 450) hc rfl rfl (by decide) (fun w => b37 w) ?_
        refine Rn_ms (σ' := (451, [some (vR 1), none, some (vI c2), none, some (vI c4), some (vI s0), none, none, none, none, none, none], [vI 0], (G0, M))) hc 1 rfl ?_
        cases e
        exact R_end (Rn_iret hc rfl rfl (xretB rfl rfl (by decide))) hK
    · refine Rn_icT (tgt := 413) hc rfl rfl (by decide) (fun w => b35 w) ?_
      refine Rn_ms (σ' := (415, [some (vR 1), none, some (vI c2), none, some (vI c4), some (vI s0), none, none, none, none, none, none], [vI 5, vR 1], (G0, M))) hc 2 rfl ?_
      refine R_bind e (fun k39 hk39 e => ?_)
      refine Rn_cv hc rfl rfl (by decide) (ii := xi_89) rfl rfl rfl (tgc_1 : Tg _ = 10) (by decide) rfl (le := [some (vR 1), some (vI 5)]) rfl (v := some (vI k39)) (M' := M) (t_119  (d := d + 2) hk39 rfl) ?_
      refine Rn_ms (σ' := (421, [some (vR 1), none, some (vI c2), none, some (vI c4), some (vI s0), none, none, none, none, none, none], [vI (2 * c2), vI k39], (G0, M))) hc 3 rfl ?_
      refine R_ite e (fun b40 e => ?_) (fun b40 e => ?_)
      · refine Rn_icT (tgt := 450) hc rfl rfl (by decide) b40 ?_
        refine Rn_ms (σ' := (451, [some (vR 1), none, some (vI c2), none, some (vI c4), some (vI s0), none, none, none, none, none, none], [vI 0], (G0, M))) hc 1 rfl ?_
        cases e
        exact R_end (Rn_iret hc rfl rfl (xretB rfl rfl (by decide))) hK
      · refine Rn_icF hc rfl rfl (by decide) b40 ?_
        refine Rn_ms (σ' := (425, [some (vR 1), none, some (vI c2), none, some (vI c4), some (vI s0), none, none, none, none, none, none], [vR 1], (G0, M))) hc 1 rfl ?_
        refine Rn_cv hc rfl rfl (by decide) (ii := xi_91) rfl rfl rfl (tgc_1 : Tg _ = 10) (by decide) rfl (le := [some (vR 1)]) rfl (v := some (vI (f_121 M))) (M' := M) (t_121  (d := d + 3) rfl rfl) ?_
        show Rn rom (d + 6) 110 (428, [some (vR 1), none, some (vI c2), none, some (vI c4), some (vI s0), none, none, none, none, none, none], [vI (f_121 M)], (G0, M)) out
        refine R_ite e (fun b41 e => ?_) (fun b41 e => ?_)
        · refine Rn_ifT (tgt := 450) hc rfl rfl (by decide) b41 ?_
          refine Rn_ms (σ' := (451, [some (vR 1), none, some (vI c2), none, some (vI c4), some (vI s0), none, none, none, none, none, none], [vI 0], (G0, M))) hc 1 rfl ?_
          cases e
          exact R_end (Rn_iret hc rfl rfl (xretB rfl rfl (by decide))) hK
        · refine Rn_ifF hc rfl rfl (by decide) b41 ?_
          refine Rn_ms (σ' := (432, [some (vR 1), none, some (vI c2), none, some (vI c4), some (vI s0), none, none, none, none, none, none], [vR 1], (G0, M))) hc 1 rfl ?_
          refine Rn_cv hc rfl rfl (by decide) (ii := xi_91) rfl rfl rfl (tgc_1 : Tg _ = 10) (by decide) rfl (le := [some (vR 1)]) rfl (v := some (vI (f_121 M))) (M' := M) (t_121  (d := d + 3) rfl rfl) ?_
          refine Rn_ms (σ' := (439, [some (vR 1), none, some (vI c2), none, some (vI c4), some (vI s0), none, none, none, none, none, none], [vI 10, vR 1, vI 2, vI (f_121 M)], (G0, M))) hc 3 rfl ?_
          refine R_bind e (fun k42 hk42 e => ?_)
          refine Rn_cv hc rfl rfl (by decide) (ii := xi_89) rfl rfl rfl (tgc_1 : Tg _ = 10) (by decide) rfl (le := [some (vR 1), some (vI 10)]) rfl (v := some (vI k42)) (M' := M) (t_119  (d := d + 2) hk42 rfl) ?_
          refine Rn_ms (σ' := (443, [some (vR 1), none, some (vI c2), none, some (vI c4), some (vI s0), none, none, none, none, none, none], [vI (2 * k42), vI (f_121 M)], (G0, M))) hc 1 rfl ?_
          refine R_ite e (fun b43 e => ?_) (fun b43 e => ?_)
          · refine Rn_icT (tgt := 450) hc rfl rfl (by decide) b43 ?_
            refine Rn_ms (σ' := (451, [some (vR 1), none, some (vI c2), none, some (vI c4), some (vI s0), none, none, none, none, none, none], [vI 0], (G0, M))) hc 1 rfl ?_
            cases e
            exact R_end (Rn_iret hc rfl rfl (xretB rfl rfl (by decide))) hK
          · refine Rn_icF hc rfl rfl (by decide) b43 ?_
            refine Rn_ms (σ' := (451, [some (vR 1), none, some (vI c2), none, some (vI c4), some (vI s0), none, none, none, none, none, none], [vI 1], (G0, M))) hc 2 rfl ?_
            cases e
            exact R_end (Rn_iret hc rfl rfl (xretB rfl rfl (by decide))) hK
def f_305_L379 (M : xM) (c2 : Int) (c4 : Int) : Option (Int × xM) :=
  f_305_L380 M c2 c4 0
set_option maxRecDepth 100000 in
set_option maxHeartbeats 4000000 in
theorem t_305_L379 {rom : xRom} {d : Nat} {c2 : Int} {c4 : Int} {M : xM} {r : Int × xM} {out : Option xV × xH} (e : f_305_L379 M c2 c4 = some r) (hK : (eIW out) r) : Rn rom (d + 6) 110 (379, [some (vR 1), none, some (vI c2), none, some (vI c4), none, none, none, none, none, none, none], [], (G0, M)) out := by
  have hc : xkall.getD 110 [] = xk_110 := rfl
  unfold f_305_L379 at e
  refine Rn_ms (σ' := (380, [some (vR 1), none, some (vI c2), none, some (vI c4), none, none, none, none, none, none, none], [vI 0], (G0, M))) hc 1 rfl ?_
  exact Rn_weak (xle_s (xle_s (xle_s (xle_s (xle_s (xle_s (xle_s (xle_s (xle_s (xle_s (xle_s (xle_s xle_0)))))))))))) (t_305_L380  e hK)
def f_305_L372 (M : xM) (c2 : Int) (c4 : Int) (s0 : Int) (s1 : Int) : Option (Int × xM) :=
  if wr s0 = wr s1 then
    f_305_L380 M c2 c4 1
  else
    f_305_L379 M c2 c4
set_option maxRecDepth 100000 in
set_option maxHeartbeats 4000000 in
theorem t_305_L372 {rom : xRom} {d : Nat} {c2 : Int} {c4 : Int} {s0 : Int} {s1 : Int} {M : xM} {r : Int × xM} {out : Option xV × xH} (e : f_305_L372 M c2 c4 s0 s1 = some r) (hK : (eIW out) r) : Rn rom (d + 6) 110 (372, [some (vR 1), none, some (vI c2), none, some (vI c4), none, none, none, none, none, none, none], [vI s1, vI s0], (G0, M)) out := by
  have hc : xkall.getD 110 [] = xk_110 := rfl
  unfold f_305_L372 at e
  refine R_ite e (fun b33 e => ?_) (fun b33 e => ?_)
  · refine Rn_icF hc rfl rfl (by decide) (fun w => w b33) ?_
    refine Rn_ms (σ' := (380, [some (vR 1), none, some (vI c2), none, some (vI c4), none, none, none, none, none, none, none], [vI 1], (G0, M))) hc 2 rfl ?_
    exact Rn_weak (xle_s (xle_s (xle_s (xle_s (xle_s (xle_s (xle_s (xle_s (xle_s (xle_s (xle_s (xle_s xle_0)))))))))))) (t_305_L380  e hK)
  · refine Rn_icT (tgt := 379) hc rfl rfl (by decide) (fun w => b33 w) ?_
    show Rn rom (d + 6) 110 (379, [some (vR 1), none, some (vI c2), none, some (vI c4), none, none, none, none, none, none, none], [], (G0, M)) out
    exact Rn_weak (xle_s (xle_s (xle_s (xle_s (xle_s (xle_s (xle_s (xle_s (xle_s (xle_s (xle_s (xle_s xle_0)))))))))))) (t_305_L379  e hK)
def f_305_L362 (M : xM) (c2 : Int) (c4 : Int) (c6 : Int) (s0 : Int) : Option (Int × xM) :=
  if wr c6 = 0 then
    f_305_L372 M c2 c4 s0 1
  else
    f_305_L372 M c2 c4 s0 0
set_option maxRecDepth 100000 in
set_option maxHeartbeats 4000000 in
theorem t_305_L362 {rom : xRom} {d : Nat} {c2 : Int} {c4 : Int} {c6 : Int} {s0 : Int} {M : xM} {r : Int × xM} {out : Option xV × xH} (e : f_305_L362 M c2 c4 c6 s0 = some r) (hK : (eIW out) r) : Rn rom (d + 6) 110 (362, [some (vR 1), none, some (vI c2), none, some (vI c4), none, some (vI c6), none, none, none, none, none], [vI s0], (G0, M)) out := by
  have hc : xkall.getD 110 [] = xk_110 := rfl
  unfold f_305_L362 at e
  refine Rn_ms (σ' := (364, [some (vR 1), none, some (vI c2), none, some (vI c4), none, some (vI c6), none, none, none, none, none], [vI c6, vI s0], (G0, M))) hc 1 rfl ?_
  refine R_ite e (fun b32 e => ?_) (fun b32 e => ?_)
  · refine Rn_ifF hc rfl rfl (by decide) (fun w => w b32) ?_
    refine Rn_ms (σ' := (372, [some (vR 1), none, some (vI c2), none, some (vI c4), none, some (vI c6), none, none, none, none, none], [vI 1, vI s0], (G0, M))) hc 2 rfl ?_
    exact Rn_weak (xle_s (xle_s (xle_s (xle_s (xle_s (xle_s (xle_n (xle_s (xle_s (xle_s (xle_s (xle_s xle_0)))))))))))) (t_305_L372  e hK)
  · refine Rn_ifT (tgt := 371) hc rfl rfl (by decide) (fun w => b32 w) ?_
    refine Rn_ms (σ' := (372, [some (vR 1), none, some (vI c2), none, some (vI c4), none, some (vI c6), none, none, none, none, none], [vI 0, vI s0], (G0, M))) hc 1 rfl ?_
    exact Rn_weak (xle_s (xle_s (xle_s (xle_s (xle_s (xle_s (xle_n (xle_s (xle_s (xle_s (xle_s (xle_s xle_0)))))))))))) (t_305_L372  e hK)
def f_305_L293 (M : xM) (c1 : Int) (c2 : Int) (c4 : Int) (c6 : Int) (c7 : Int) (c9 : Int) : Option (Int × xM) :=
  (f_116 M).bind (fun k18 =>
  if wr k18.1 = wr c7 then
    (f_126 k18.2 c1 0).bind (fun k20 =>
    if wr k20.1 = wr c2 then
      (f_126 k20.2 c1 1).bind (fun k22 =>
      if wr k22.1 = wr c6 then
        (f_126 k22.2 c1 2).bind (fun k24 =>
        if wr k24.1 = wr c9 then
          (f_120 k24.2).bind (fun k26 =>
          gn (FP.dmul FP.dconst1 (xi2d c6)) (
          gn (FP.ddiv (FP.dmul FP.dconst1 (xi2d c6)) (xi2d c2)) (
          if wr (xdc k26.1 (FP.ddiv (FP.dmul FP.dconst1 (xi2d c6)) (xi2d c2))) = 0 then
            (f_125 k26.2).bind (fun k30 =>
            if wr k30 = 0 then
              f_305_L362 k26.2 c2 c4 c6 1
            else
              f_305_L362 k26.2 c2 c4 c6 0
            )
          else
            f_305_L379 k26.2 c2 c4
          )))
        else
          f_305_L379 k24.2 c2 c4
        )
      else
        f_305_L379 k22.2 c2 c4
      )
    else
      f_305_L379 k20.2 c2 c4
    )
  else
    f_305_L379 k18.2 c2 c4
  )
set_option maxRecDepth 100000 in
set_option maxHeartbeats 4000000 in
theorem t_305_L293 {rom : xRom} {d : Nat} {c1 : Int} {c2 : Int} {c4 : Int} {c6 : Int} {c7 : Int} {c9 : Int} {M : xM} {r : Int × xM} {out : Option xV × xH} (e : f_305_L293 M c1 c2 c4 c6 c7 c9 = some r) (hK : (eIW out) r) : Rn rom (d + 6) 110 (293, [some (vR 1), some (vI c1), some (vI c2), none, some (vI c4), none, some (vI c6), some (vI c7), none, some (vI c9), none, none], [], (G0, M)) out := by
  have hc : xkall.getD 110 [] = xk_110 := rfl
  unfold f_305_L293 at e
  refine Rn_ms (σ' := (294, [some (vR 1), some (vI c1), some (vI c2), none, some (vI c4), none, some (vI c6), some (vI c7), none, some (vI c9), none, none], [vR 1], (G0, M))) hc 1 rfl ?_
  refine R_bind e (fun k18 hk18 e => ?_)
  refine Rn_cv hc rfl rfl (by decide) (ii := xi_88) rfl rfl rfl (tgc_1 : Tg _ = 10) (by decide) rfl (le := [some (vR 1)]) rfl (v := some (vI k18.1)) (M' := k18.2) (t_116  (d := d + 0) hk18 rfl) ?_
  refine Rn_ms (σ' := (299, [some (vR 1), some (vI c1), some (vI c2), none, some (vI c4), none, some (vI c6), some (vI c7), none, some (vI c9), none, none], [vI c7, vI k18.1], (G0, k18.2))) hc 1 rfl ?_
  refine R_ite e (fun b19 e => ?_) (fun b19 e => ?_)
  · refine Rn_icF hc rfl rfl (by decide) (fun w => w b19) ?_
    refine Rn_ms (σ' := (305, [some (vR 1), some (vI c1), some (vI c2), none, some (vI c4), none, some (vI c6), some (vI c7), none, some (vI c9), none, none], [vI 0, vI c1, vR 1], (G0, k18.2))) hc 3 rfl ?_
    refine R_bind e (fun k20 hk20 e => ?_)
    refine Rn_cv hc rfl rfl (by decide) (ii := xi_96) rfl rfl rfl (tgc_1 : Tg _ = 10) (by decide) rfl (le := [some (vR 1), some (vI c1), some (vI 0)]) rfl (v := some (vI k20.1)) (M' := k20.2) (t_126  (d := d + 0) hk20 rfl) ?_
    refine Rn_ms (σ' := (309, [some (vR 1), some (vI c1), some (vI c2), none, some (vI c4), none, some (vI c6), some (vI c7), none, some (vI c9), none, none], [vI c2, vI k20.1], (G0, k20.2))) hc 1 rfl ?_
    refine R_ite e (fun b21 e => ?_) (fun b21 e => ?_)
    · refine Rn_icF hc rfl rfl (by decide) (fun w => w b21) ?_
      refine Rn_ms (σ' := (315, [some (vR 1), some (vI c1), some (vI c2), none, some (vI c4), none, some (vI c6), some (vI c7), none, some (vI c9), none, none], [vI 1, vI c1, vR 1], (G0, k20.2))) hc 3 rfl ?_
      refine R_bind e (fun k22 hk22 e => ?_)
      refine Rn_cv hc rfl rfl (by decide) (ii := xi_96) rfl rfl rfl (tgc_1 : Tg _ = 10) (by decide) rfl (le := [some (vR 1), some (vI c1), some (vI 1)]) rfl (v := some (vI k22.1)) (M' := k22.2) (t_126  (d := d + 0) hk22 rfl) ?_
      refine Rn_ms (σ' := (320, [some (vR 1), some (vI c1), some (vI c2), none, some (vI c4), none, some (vI c6), some (vI c7), none, some (vI c9), none, none], [vI c6, vI k22.1], (G0, k22.2))) hc 1 rfl ?_
      refine R_ite e (fun b23 e => ?_) (fun b23 e => ?_)
      · refine Rn_icF hc rfl rfl (by decide) (fun w => w b23) ?_
        refine Rn_ms (σ' := (326, [some (vR 1), some (vI c1), some (vI c2), none, some (vI c4), none, some (vI c6), some (vI c7), none, some (vI c9), none, none], [vI 2, vI c1, vR 1], (G0, k22.2))) hc 3 rfl ?_
        refine R_bind e (fun k24 hk24 e => ?_)
        refine Rn_cv hc rfl rfl (by decide) (ii := xi_96) rfl rfl rfl (tgc_1 : Tg _ = 10) (by decide) rfl (le := [some (vR 1), some (vI c1), some (vI 2)]) rfl (v := some (vI k24.1)) (M' := k24.2) (t_126  (d := d + 0) hk24 rfl) ?_
        refine Rn_ms (σ' := (331, [some (vR 1), some (vI c1), some (vI c2), none, some (vI c4), none, some (vI c6), some (vI c7), none, some (vI c9), none, none], [vI c9, vI k24.1], (G0, k24.2))) hc 1 rfl ?_
        refine R_ite e (fun b25 e => ?_) (fun b25 e => ?_)
        · refine Rn_icF hc rfl rfl (by decide) (fun w => w b25) ?_
          refine Rn_ms (σ' := (335, [some (vR 1), some (vI c1), some (vI c2), none, some (vI c4), none, some (vI c6), some (vI c7), none, some (vI c9), none, none], [vR 1], (G0, k24.2))) hc 1 rfl ?_
          refine R_bind e (fun k26 hk26 e => ?_)
          refine Rn_cv hc rfl rfl (by decide) (ii := xi_90) rfl rfl rfl (tgc_1 : Tg _ = 10) (by decide) rfl (le := [some (vR 1), none]) rfl (v := some (vD k26.1)) (M' := k26.2) (t_120  (d := d + 0) hk26 rfl) ?_
          refine Rn_ms (σ' := (342, [some (vR 1), some (vI c1), some (vI c2), none, some (vI c4), none, some (vI c6), some (vI c7), none, some (vI c9), none, none], [vD (xi2d c6), vD FP.dconst1, vD k26.1], (G0, k26.2))) hc 3 rfl ?_
          refine R_gn e (fun g27 e => ?_)
          refine Rn_dmul hc rfl ⟨rfl, rfl⟩ g27 ?_
          refine Rn_ms (σ' := (345, [some (vR 1), some (vI c1), some (vI c2), none, some (vI c4), none, some (vI c6), some (vI c7), none, some (vI c9), none, none], [vD (xi2d c2), vD (FP.dmul FP.dconst1 (xi2d c6)), vD k26.1], (G0, k26.2))) hc 2 rfl ?_
          refine R_gn e (fun g28 e => ?_)
          refine Rn_ddiv hc rfl ⟨rfl, rfl⟩ g28 ?_
          refine Rn_ms (σ' := (347, [some (vR 1), some (vI c1), some (vI c2), none, some (vI c4), none, some (vI c6), some (vI c7), none, some (vI c9), none, none], [vI (xdc k26.1 (FP.ddiv (FP.dmul FP.dconst1 (xi2d c6)) (xi2d c2)))], (G0, k26.2))) hc 1 rfl ?_
          refine R_ite e (fun b29 e => ?_) (fun b29 e => ?_)
          · refine Rn_ifF hc rfl rfl (by decide) (fun w => w b29) ?_
            refine Rn_ms (σ' := (351, [some (vR 1), some (vI c1), some (vI c2), none, some (vI c4), none, some (vI c6), some (vI c7), none, some (vI c9), none, none], [vR 1], (G0, k26.2))) hc 1 rfl ?_
            refine R_bind e (fun k30 hk30 e => ?_)
            refine Rn_cv hc rfl rfl (by decide) (ii := xi_95) rfl rfl rfl (tgc_1 : Tg _ = 10) (by decide) rfl (le := [some (vR 1), none, none]) rfl (v := some (vI k30)) (M' := k26.2) (t_125  (d := d + 1) hk30 rfl) ?_
            show Rn rom (d + 6) 110 (354, [some (vR 1), some (vI c1), some (vI c2), none, some (vI c4), none, some (vI c6), some (vI c7), none, some (vI c9), none, none], [vI k30], (G0, k26.2)) out
            refine R_ite e (fun b31 e => ?_) (fun b31 e => ?_)
            · refine Rn_ifF hc rfl rfl (by decide) (fun w => w b31) ?_
              refine Rn_ms (σ' := (362, [some (vR 1), some (vI c1), some (vI c2), none, some (vI c4), none, some (vI c6), some (vI c7), none, some (vI c9), none, none], [vI 1], (G0, k26.2))) hc 2 rfl ?_
              exact Rn_weak (xle_s (xle_n (xle_s (xle_s (xle_s (xle_s (xle_s (xle_n (xle_s (xle_n (xle_s (xle_s xle_0)))))))))))) (t_305_L362  e hK)
            · refine Rn_ifT (tgt := 361) hc rfl rfl (by decide) (fun w => b31 w) ?_
              refine Rn_ms (σ' := (362, [some (vR 1), some (vI c1), some (vI c2), none, some (vI c4), none, some (vI c6), some (vI c7), none, some (vI c9), none, none], [vI 0], (G0, k26.2))) hc 1 rfl ?_
              exact Rn_weak (xle_s (xle_n (xle_s (xle_s (xle_s (xle_s (xle_s (xle_n (xle_s (xle_n (xle_s (xle_s xle_0)))))))))))) (t_305_L362  e hK)
          · refine Rn_ifT (tgt := 379) hc rfl rfl (by decide) (fun w => b29 w) ?_
            show Rn rom (d + 6) 110 (379, [some (vR 1), some (vI c1), some (vI c2), none, some (vI c4), none, some (vI c6), some (vI c7), none, some (vI c9), none, none], [], (G0, k26.2)) out
            exact Rn_weak (xle_s (xle_n (xle_s (xle_s (xle_s (xle_s (xle_n (xle_n (xle_s (xle_n (xle_s (xle_s xle_0)))))))))))) (t_305_L379  e hK)
        · refine Rn_icT (tgt := 379) hc rfl rfl (by decide) (fun w => b25 w) ?_
          show Rn rom (d + 6) 110 (379, [some (vR 1), some (vI c1), some (vI c2), none, some (vI c4), none, some (vI c6), some (vI c7), none, some (vI c9), none, none], [], (G0, k24.2)) out
          exact Rn_weak (xle_s (xle_n (xle_s (xle_s (xle_s (xle_s (xle_n (xle_n (xle_s (xle_n (xle_s (xle_s xle_0)))))))))))) (t_305_L379  e hK)
      · refine Rn_icT (tgt := 379) hc rfl rfl (by decide) (fun w => b23 w) ?_
        show Rn rom (d + 6) 110 (379, [some (vR 1), some (vI c1), some (vI c2), none, some (vI c4), none, some (vI c6), some (vI c7), none, some (vI c9), none, none], [], (G0, k22.2)) out
        exact Rn_weak (xle_s (xle_n (xle_s (xle_s (xle_s (xle_s (xle_n (xle_n (xle_s (xle_n (xle_s (xle_s xle_0)))))))))))) (t_305_L379  e hK)
    · refine Rn_icT (tgt := 379) hc rfl rfl (by decide) (fun w => b21 w) ?_
      show Rn rom (d + 6) 110 (379, [some (vR 1), some (vI c1), some (vI c2), none, some (vI c4), none, some (vI c6), some (vI c7), none, some (vI c9), none, none], [], (G0, k20.2)) out
      exact Rn_weak (xle_s (xle_n (xle_s (xle_s (xle_s (xle_s (xle_n (xle_n (xle_s (xle_n (xle_s (xle_s xle_0)))))))))))) (t_305_L379  e hK)
  · refine Rn_icT (tgt := 379) hc rfl rfl (by decide) (fun w => b19 w) ?_
    show Rn rom (d + 6) 110 (379, [some (vR 1), some (vI c1), some (vI c2), none, some (vI c4), none, some (vI c6), some (vI c7), none, some (vI c9), none, none], [], (G0, k18.2)) out
    exact Rn_weak (xle_s (xle_n (xle_s (xle_s (xle_s (xle_s (xle_n (xle_n (xle_s (xle_n (xle_s (xle_s xle_0)))))))))))) (t_305_L379  e hK)
def f_305_L270 (M : xM) (c1 : Int) (c2 : Int) (c4 : Int) (c6 : Int) (c7 : Int) (c9 : Int) (c10 : Int) (c11 : Int) (s0 : Int) : Option ((Int × Int × Int × Int × Int × xM) ⊕ (Int × xM)) :=
  if wr c11 = 0 then
    some (.inl (c6, c7, s0, (c9 + 1), (c10 + 1), M))
  else
    some (.inl (c6, c7, s0, (c9 + 0), (c10 + 1), M))
set_option maxRecDepth 100000 in
set_option maxHeartbeats 4000000 in
theorem t_305_L270 {rom : xRom} {d : Nat} {c1 : Int} {c2 : Int} {c4 : Int} {c6 : Int} {c7 : Int} {c9 : Int} {c10 : Int} {c11 : Int} {s0 : Int} {M : xM} {r : (Int × Int × Int × Int × Int × xM) ⊕ (Int × xM)} {out : Option xV × xH} (e : f_305_L270 M c1 c2 c4 c6 c7 c9 c10 c11 s0 = some r) (hK : ((Sum.elim (fun s => Rn rom (d + 6) 110 (211, [some (vR 1), some (vI c1), some (vI c2), none, some (vI c4), none, some (vI s.1), some (vI s.2.1), some (vI s.2.2.1), some (vI s.2.2.2.1), some (vI s.2.2.2.2.1), none], [], (G0, s.2.2.2.2.2)) out) (eIW out))) r) : Rn rom (d + 6) 110 (270, [some (vR 1), some (vI c1), some (vI c2), none, some (vI c4), none, some (vI c6), some (vI c7), none, some (vI c9), some (vI c10), some (vI c11)], [vI s0], (G0, M)) out := by
  have hc : xkall.getD 110 [] = xk_110 := rfl
  unfold f_305_L270 at e
  refine Rn_ms (σ' := (276, [some (vR 1), some (vI c1), some (vI c2), none, some (vI c4), none, some (vI c6), some (vI c7), some (vI s0), some (vI c9), some (vI c10), some (vI c11)], [vI c11, vI c9], (G0, M))) hc 3 rfl ?_
  refine R_ite e (fun b48 e => ?_) (fun b48 e => ?_)
  · refine Rn_ifF hc rfl rfl (by decide) (fun w => w b48) ?_
    refine Rn_ms (σ' := (290, [some (vR 1), some (vI c1), some (vI c2), none, some (vI c4), none, some (vI c6), some (vI c7), some (vI s0), some (vI (c9 + 1)), some (vI (c10 + 1)), some (vI c11)], [], (G0, M))) hc 5 rfl ?_
    refine Rn_ms (σ' := (211, [some (vR 1), some (vI c1), some (vI c2), none, some (vI c4), none, some (vI c6), some (vI c7), some (vI s0), some (vI (c9 + 1)), some (vI (c10 + 1)), some (vI c11)], [], (G0, M))) hc 1 rfl ?_
    cases e
    exact Rn_weak (xle_s (xle_s (xle_s (xle_s (xle_s (xle_s (xle_s (xle_s (xle_s (xle_s (xle_s (xle_n xle_0)))))))))))) hK
  · refine Rn_ifT (tgt := 283) hc rfl rfl (by decide) (fun w => b48 w) ?_
    refine Rn_ms (σ' := (211, [some (vR 1), some (vI c1), some (vI c2), none, some (vI c4), none, some (vI c6), some (vI c7), some (vI s0), some (vI (c9 + 0)), some (vI (c10 + 1)), some (vI c11)], [], (G0, M))) hc 5 rfl ?_
    cases e
    exact Rn_weak (xle_s (xle_s (xle_s (xle_s (xle_s (xle_s (xle_s (xle_s (xle_s (xle_s (xle_s (xle_n xle_0)))))))))))) hK
def f_305_L254 (M : xM) (c1 : Int) (c2 : Int) (c4 : Int) (c6 : Int) (c8 : Int) (c9 : Int) (c10 : Int) (c11 : Int) (s0 : Int) : Option ((Int × Int × Int × Int × Int × xM) ⊕ (Int × xM)) :=
  if wr c11 ≤ wr c8 then
    f_305_L270 M c1 c2 c4 c6 s0 c9 c10 c11 c8
  else
    f_305_L270 M c1 c2 c4 c6 s0 c9 c10 c11 c11
set_option maxRecDepth 100000 in
set_option maxHeartbeats 4000000 in
theorem t_305_L254 {rom : xRom} {d : Nat} {c1 : Int} {c2 : Int} {c4 : Int} {c6 : Int} {c8 : Int} {c9 : Int} {c10 : Int} {c11 : Int} {s0 : Int} {M : xM} {r : (Int × Int × Int × Int × Int × xM) ⊕ (Int × xM)} {out : Option xV × xH} (e : f_305_L254 M c1 c2 c4 c6 c8 c9 c10 c11 s0 = some r) (hK : ((Sum.elim (fun s => Rn rom (d + 6) 110 (211, [some (vR 1), some (vI c1), some (vI c2), none, some (vI c4), none, some (vI s.1), some (vI s.2.1), some (vI s.2.2.1), some (vI s.2.2.2.1), some (vI s.2.2.2.2.1), none], [], (G0, s.2.2.2.2.2)) out) (eIW out))) r) : Rn rom (d + 6) 110 (254, [some (vR 1), some (vI c1), some (vI c2), none, some (vI c4), none, some (vI c6), none, some (vI c8), some (vI c9), some (vI c10), some (vI c11)], [vI s0], (G0, M)) out := by
  have hc : xkall.getD 110 [] = xk_110 := rfl
  unfold f_305_L254 at e
  refine Rn_ms (σ' := (260, [some (vR 1), some (vI c1), some (vI c2), none, some (vI c4), none, some (vI c6), some (vI s0), some (vI c8), some (vI c9), some (vI c10), some (vI c11)], [vI c8, vI c11], (G0, M))) hc 3 rfl ?_
  refine R_ite e (fun b47 e => ?_) (fun b47 e => ?_)
  · refine Rn_icT (tgt := 268) hc rfl rfl (by decide) b47 ?_
    refine Rn_ms (σ' := (270, [some (vR 1), some (vI c1), some (vI c2), none, some (vI c4), none, some (vI c6), some (vI s0), some (vI c8), some (vI c9), some (vI c10), some (vI c11)], [vI c8], (G0, M))) hc 1 rfl ?_
    exact Rn_weak (xle_s (xle_s (xle_s (xle_s (xle_s (xle_s (xle_s (xle_s (xle_n (xle_s (xle_s (xle_s xle_0)))))))))))) (t_305_L270  e hK)
  · refine Rn_icF hc rfl rfl (by decide) b47 ?_
    refine Rn_ms (σ' := (270, [some (vR 1), some (vI c1), some (vI c2), none, some (vI c4), none, some (vI c6), some (vI s0), some (vI c8), some (vI c9), some (vI c10), some (vI c11)], [vI c11], (G0, M))) hc 2 rfl ?_
    exact Rn_weak (xle_s (xle_s (xle_s (xle_s (xle_s (xle_s (xle_s (xle_s (xle_n (xle_s (xle_s (xle_s xle_0)))))))))))) (t_305_L270  e hK)
def f_305_L211b (c1 : Int) (c2 : Int) (c4 : Int) (v6 : Int) (v7 : Int) (v8 : Int) (v9 : Int) (v10 : Int) (M : xM) : Option ((Int × Int × Int × Int × Int × xM) ⊕ (Int × xM)) :=
  if wr c2 ≤ wr v10 then
    (f_305_L293 M c1 c2 c4 v6 v7 v9).bind (fun o => some (.inr (o)))
  else
    if 48 ≤ wr v10 then
      (f_305_L293 M c1 c2 c4 v6 v7 v9).bind (fun o => some (.inr (o)))
    else
      (f_115 M v10 1).bind (fun k45 =>
      if wr k45.1 ≤ wr v8 then
        f_305_L254 k45.2 c1 c2 c4 (v6 + k45.1) v8 v9 v10 k45.1 v7
      else
        f_305_L254 k45.2 c1 c2 c4 (v6 + k45.1) v8 v9 v10 k45.1 v10
      )
set_option maxRecDepth 100000 in
set_option maxHeartbeats 4000000 in
theorem t_305_L211b {rom : xRom} {d : Nat} {c1 : Int} {c2 : Int} {c4 : Int} {v6 : Int} {v7 : Int} {v8 : Int} {v9 : Int} {v10 : Int} {M : xM} {r : (Int × Int × Int × Int × Int × xM) ⊕ (Int × xM)} {out : Option xV × xH} (e : f_305_L211b c1 c2 c4 v6 v7 v8 v9 v10 M = some r) (hK : ((Sum.elim (fun s => Rn rom (d + 6) 110 (211, [some (vR 1), some (vI c1), some (vI c2), none, some (vI c4), none, some (vI s.1), some (vI s.2.1), some (vI s.2.2.1), some (vI s.2.2.2.1), some (vI s.2.2.2.2.1), none], [], (G0, s.2.2.2.2.2)) out) (eIW out))) r) : Rn rom (d + 6) 110 (211, [some (vR 1), some (vI c1), some (vI c2), none, some (vI c4), none, some (vI v6), some (vI v7), some (vI v8), some (vI v9), some (vI v10), none], [], (G0, M)) out := by
  have hc : xkall.getD 110 [] = xk_110 := rfl
  unfold f_305_L211b at e
  refine Rn_ms (σ' := (214, [some (vR 1), some (vI c1), some (vI c2), none, some (vI c4), none, some (vI v6), some (vI v7), some (vI v8), some (vI v9), some (vI v10), none], [vI c2, vI v10], (G0, M))) hc 2 rfl ?_
  refine R_ite e (fun b17 e => ?_) (fun b17 e => ?_)
  · refine Rn_icT (tgt := 293) hc rfl rfl (by decide) b17 ?_
    show Rn rom (d + 6) 110 (293, [some (vR 1), some (vI c1), some (vI c2), none, some (vI c4), none, some (vI v6), some (vI v7), some (vI v8), some (vI v9), some (vI v10), none], [], (G0, M)) out
    refine R_bind e (fun o ho e => ?_)
    cases e
    exact Rn_weak (xle_s (xle_s (xle_s (xle_s (xle_s (xle_s (xle_s (xle_s (xle_n (xle_s (xle_n (xle_s xle_0)))))))))))) (t_305_L293  ho hK)
  · refine Rn_icF hc rfl rfl (by decide) b17 ?_
    refine Rn_ms (σ' := (221, [some (vR 1), some (vI c1), some (vI c2), none, some (vI c4), none, some (vI v6), some (vI v7), some (vI v8), some (vI v9), some (vI v10), none], [vI 48, vI v10], (G0, M))) hc 2 rfl ?_
    refine R_ite e (fun b44 e => ?_) (fun b44 e => ?_)
    · refine Rn_icT (tgt := 293) hc rfl rfl (by decide) b44 ?_
      show Rn rom (d + 6) 110 (293, [some (vR 1), some (vI c1), some (vI c2), none, some (vI c4), none, some (vI v6), some (vI v7), some (vI v8), some (vI v9), some (vI v10), none], [], (G0, M)) out
      refine R_bind e (fun o ho e => ?_)
      cases e
      exact Rn_weak (xle_s (xle_s (xle_s (xle_s (xle_s (xle_s (xle_s (xle_s (xle_n (xle_s (xle_n (xle_s xle_0)))))))))))) (t_305_L293  ho hK)
    · refine Rn_icF hc rfl rfl (by decide) b44 ?_
      refine Rn_ms (σ' := (228, [some (vR 1), some (vI c1), some (vI c2), none, some (vI c4), none, some (vI v6), some (vI v7), some (vI v8), some (vI v9), some (vI v10), none], [vI 1, vI v10, vR 1], (G0, M))) hc 3 rfl ?_
      refine R_bind e (fun k45 hk45 e => ?_)
      refine Rn_cv hc rfl rfl (by decide) (ii := xi_87) rfl rfl rfl (tgc_1 : Tg _ = 10) (by decide) rfl (le := [some (vR 1), some (vI v10), some (vI 1)]) rfl (v := some (vI k45.1)) (M' := k45.2) (t_115  (d := d + 1) hk45 rfl) ?_
      refine Rn_ms (σ' := (240, [some (vR 1), some (vI c1), some (vI c2), none, some (vI c4), none, some (vI (v6 + k45.1)), some (vI v7), some (vI v8), some (vI v9), some (vI v10), some (vI k45.1)], [], (G0, k45.2))) hc 5 rfl ?_
      refine Rn_ms (σ' := (244, [some (vR 1), some (vI c1), some (vI c2), none, some (vI c4), none, some (vI (v6 + k45.1)), some (vI v7), some (vI v8), some (vI v9), some (vI v10), some (vI k45.1)], [vI v8, vI k45.1], (G0, k45.2))) hc 2 rfl ?_
      refine R_ite e (fun b46 e => ?_) (fun b46 e => ?_)
      · refine Rn_icT (tgt := 252) hc rfl rfl (by decide) b46 ?_
        refine Rn_ms (σ' := (254, [some (vR 1), some (vI c1), some (vI c2), none, some (vI c4), none, some (vI (v6 + k45.1)), some (vI v7), some (vI v8), some (vI v9), some (vI v10), some (vI k45.1)], [vI v7], (G0, k45.2))) hc 1 rfl ?_
        exact Rn_weak (xle_s (xle_s (xle_s (xle_s (xle_s (xle_s (xle_s (xle_n (xle_s (xle_s (xle_s (xle_s xle_0)))))))))))) (t_305_L254  e hK)
      · refine Rn_icF hc rfl rfl (by decide) b46 ?_
        refine Rn_ms (σ' := (254, [some (vR 1), some (vI c1), some (vI c2), none, some (vI c4), none, some (vI (v6 + k45.1)), some (vI v7), some (vI v8), some (vI v9), some (vI v10), some (vI k45.1)], [vI v10], (G0, k45.2))) hc 2 rfl ?_
        exact Rn_weak (xle_s (xle_s (xle_s (xle_s (xle_s (xle_s (xle_s (xle_n (xle_s (xle_s (xle_s (xle_s xle_0)))))))))))) (t_305_L254  e hK)
def f_305_L211 (c1 : Int) (c2 : Int) (c4 : Int) (s : Int × Int × Int × Int × Int × xM) : Option (Int × xM) := loop NF (fun s => f_305_L211b c1 c2 c4 s.1 s.2.1 s.2.2.1 s.2.2.2.1 s.2.2.2.2.1 s.2.2.2.2.2) s
set_option maxRecDepth 100000 in
set_option maxHeartbeats 4000000 in
theorem t_305_L211 {rom : xRom} {d : Nat} {c1 : Int} {c2 : Int} {c4 : Int} {s : Int × Int × Int × Int × Int × xM} {r : Int × xM} {out : Option xV × xH} (e : f_305_L211 c1 c2 c4 s = some r) (hK : (eIW out) r) : Rn rom (d + 6) 110 (211, [some (vR 1), some (vI c1), some (vI c2), none, some (vI c4), none, some (vI s.1), some (vI s.2.1), some (vI s.2.2.1), some (vI s.2.2.2.1), some (vI s.2.2.2.2.1), none], [], (G0, s.2.2.2.2.2)) out := by
  unfold f_305_L211 at e
  revert e hK
  exact R_loop (b := fun s => f_305_L211b c1 c2 c4 s.1 s.2.1 s.2.2.1 s.2.2.2.1 s.2.2.2.2.1 s.2.2.2.2.2) (G := fun s => Rn rom (d + 6) 110 (211, [some (vR 1), some (vI c1), some (vI c2), none, some (vI c4), none, some (vI s.1), some (vI s.2.1), some (vI s.2.2.1), some (vI s.2.2.2.1), some (vI s.2.2.2.2.1), none], [], (G0, s.2.2.2.2.2)) out) (K := eIW out) (fun s r e hK => t_305_L211b  e hK) NF s r
def f_305_L145 (M : xM) (c1 : Int) (c2 : Int) (c4 : Int) (s0 : Int) : Option (Int × xM) :=
  if wr s0 = 0 then
    f_305_L156 M s0
  else
    if wr c1 = 0 then
      f_305_L156 M s0
    else
      f_305_L211 c1 c2 c4 (0, (-4), 0, 0, 0, M)
set_option maxRecDepth 100000 in
set_option maxHeartbeats 4000000 in
theorem t_305_L145 {rom : xRom} {d : Nat} {c1 : Int} {c2 : Int} {c4 : Int} {s0 : Int} {M : xM} {r : Int × xM} {out : Option xV × xH} (e : f_305_L145 M c1 c2 c4 s0 = some r) (hK : (eIW out) r) : Rn rom (d + 6) 110 (145, [some (vR 1), some (vI c1), some (vI c2), none, some (vI c4), none, none, none, none, none, none, none], [vI s0], (G0, M)) out := by
  have hc : xkall.getD 110 [] = xk_110 := rfl
  unfold f_305_L145 at e
  refine Rn_ms (σ' := (149, [some (vR 1), some (vI c1), some (vI c2), none, some (vI c4), some (vI s0), none, none, none, none, none, none], [vI s0], (G0, M))) hc 2 rfl ?_
  refine R_ite e (fun b8 e => ?_) (fun b8 e => ?_)
  · refine Rn_ifT (tgt := 156) hc rfl rfl (by decide) b8 ?_
    show Rn rom (d + 6) 110 (156, [some (vR 1), some (vI c1), some (vI c2), none, some (vI c4), some (vI s0), none, none, none, none, none, none], [], (G0, M)) out
    exact Rn_weak (xle_s (xle_n (xle_n (xle_s (xle_n (xle_s (xle_s (xle_s (xle_s (xle_s (xle_s (xle_s xle_0)))))))))))) (t_305_L156  e hK)
  · refine Rn_ifF hc rfl rfl (by decide) b8 ?_
    refine Rn_ms (σ' := (153, [some (vR 1), some (vI c1), some (vI c2), none, some (vI c4), some (vI s0), none, none, none, none, none, none], [vI c1], (G0, M))) hc 1 rfl ?_
    refine R_ite e (fun b16 e => ?_) (fun b16 e => ?_)
    · refine Rn_ifF hc rfl rfl (by decide) (fun w => w b16) ?_
      show Rn rom (d + 6) 110 (156, [some (vR 1), some (vI c1), some (vI c2), none, some (vI c4), some (vI s0), none, none, none, none, none, none], [], (G0, M)) out
      exact Rn_weak (xle_s (xle_n (xle_n (xle_s (xle_n (xle_s (xle_s (xle_s (xle_s (xle_s (xle_s (xle_s xle_0)))))))))))) (t_305_L156  e hK)
    · refine Rn_ifT (tgt := 195) hc rfl rfl (by decide) (fun w => b16 w) ?_
      refine Rn_ms (σ' := (203, [some (vR 1), some (vI c1), some (vI c2), none, some (vI c4), some (vI s0), some (vI 0), some (vI (-4)), none, none, none, none], [vI 0], (G0, M))) hc 5 rfl ?_
      refine Rn_ms (σ' := (211, [some (vR 1), some (vI c1), some (vI c2), none, some (vI c4), some (vI s0), some (vI 0), some (vI (-4)), some (vI 0), some (vI 0), some (vI 0), none], [], (G0, M))) hc 5 rfl ?_
      exact Rn_weak (xle_s (xle_s (xle_s (xle_s (xle_s (xle_n (xle_s (xle_s (xle_s (xle_s (xle_s (xle_s xle_0)))))))))))) (t_305_L211  e hK)
def f_305_L144 (M : xM) (c1 : Int) (c2 : Int) (c4 : Int) : Option (Int × xM) :=
  f_305_L145 M c1 c2 c4 0
set_option maxRecDepth 100000 in
set_option maxHeartbeats 4000000 in
theorem t_305_L144 {rom : xRom} {d : Nat} {c1 : Int} {c2 : Int} {c4 : Int} {M : xM} {r : Int × xM} {out : Option xV × xH} (e : f_305_L144 M c1 c2 c4 = some r) (hK : (eIW out) r) : Rn rom (d + 6) 110 (144, [some (vR 1), some (vI c1), some (vI c2), none, some (vI c4), none, none, none, none, none, none, none], [], (G0, M)) out := by
  have hc : xkall.getD 110 [] = xk_110 := rfl
  unfold f_305_L144 at e
  refine Rn_ms (σ' := (145, [some (vR 1), some (vI c1), some (vI c2), none, some (vI c4), none, none, none, none, none, none, none], [vI 0], (G0, M))) hc 1 rfl ?_
  exact Rn_weak (xle_s (xle_s (xle_s (xle_s (xle_s (xle_s (xle_s (xle_s (xle_s (xle_s (xle_s (xle_s xle_0)))))))))))) (t_305_L145  e hK)
def f_305_L130 (M : xM) (c1 : Int) (c2 : Int) (c4 : Int) : Option (Int × xM) :=
  (f_112 M c1 0).bind (fun k54 =>
  if wr k54 = (-1) then
    f_305_L145 M c1 c2 c4 1
  else
    f_305_L144 M c1 c2 c4
  )
set_option maxRecDepth 100000 in
set_option maxHeartbeats 4000000 in
theorem t_305_L130 {rom : xRom} {d : Nat} {c1 : Int} {c2 : Int} {c4 : Int} {M : xM} {r : Int × xM} {out : Option xV × xH} (e : f_305_L130 M c1 c2 c4 = some r) (hK : (eIW out) r) : Rn rom (d + 6) 110 (130, [some (vR 1), some (vI c1), some (vI c2), none, some (vI c4), none, none, none, none, none, none, none], [], (G0, M)) out := by
  have hc : xkall.getD 110 [] = xk_110 := rfl
  unfold f_305_L130 at e
  refine Rn_ms (σ' := (133, [some (vR 1), some (vI c1), some (vI c2), none, some (vI c4), none, none, none, none, none, none, none], [vI 0, vI c1, vR 1], (G0, M))) hc 3 rfl ?_
  refine R_bind e (fun k54 hk54 e => ?_)
  refine Rn_cv hc rfl rfl (by decide) (ii := xi_84) rfl rfl rfl (tgc_1 : Tg _ = 10) (by decide) rfl (le := [some (vR 1), some (vI c1), some (vI 0), none]) rfl (v := some (vI k54)) (M' := M) (t_112  (d := d + 2) hk54 rfl) ?_
  refine Rn_ms (σ' := (137, [some (vR 1), some (vI c1), some (vI c2), none, some (vI c4), none, none, none, none, none, none, none], [vI (-1), vI k54], (G0, M))) hc 1 rfl ?_
  refine R_ite e (fun b55 e => ?_) (fun b55 e => ?_)
  · refine Rn_icF hc rfl rfl (by decide) (fun w => w b55) ?_
    refine Rn_ms (σ' := (145, [some (vR 1), some (vI c1), some (vI c2), none, some (vI c4), none, none, none, none, none, none, none], [vI 1], (G0, M))) hc 2 rfl ?_
    exact Rn_weak (xle_s (xle_s (xle_s (xle_s (xle_s (xle_s (xle_s (xle_s (xle_s (xle_s (xle_s (xle_s xle_0)))))))))))) (t_305_L145  e hK)
  · refine Rn_icT (tgt := 144) hc rfl rfl (by decide) (fun w => b55 w) ?_
    show Rn rom (d + 6) 110 (144, [some (vR 1), some (vI c1), some (vI c2), none, some (vI c4), none, none, none, none, none, none, none], [], (G0, M)) out
    exact Rn_weak (xle_s (xle_s (xle_s (xle_s (xle_s (xle_s (xle_s (xle_s (xle_s (xle_s (xle_s (xle_s xle_0)))))))))))) (t_305_L144  e hK)
def f_305_L109 (M : xM) (c1 : Int) (c2 : Int) (c4 : Int) (s0 : Int) (s1 : Int) : Option (Int × xM) :=
  if wr s0 = wr s1 then
    if wr c1 = 0 then
      f_305_L130 M c1 c2 c4
    else
      (f_112 M 0 0).bind (fun k56 =>
      (f_119 M 2).bind (fun k57 =>
      if wr k56 = wr k57 then
        f_305_L130 M c1 c2 c4
      else
        f_305_L144 M c1 c2 c4
      ))
  else
    f_305_L144 M c1 c2 c4
set_option maxRecDepth 100000 in
set_option maxHeartbeats 4000000 in
theorem t_305_L109 {rom : xRom} {d : Nat} {c1 : Int} {c2 : Int} {c4 : Int} {s0 : Int} {s1 : Int} {M : xM} {r : Int × xM} {out : Option xV × xH} (e : f_305_L109 M c1 c2 c4 s0 s1 = some r) (hK : (eIW out) r) : Rn rom (d + 6) 110 (109, [some (vR 1), some (vI c1), some (vI c2), none, some (vI c4), none, none, none, none, none, none, none], [vI s1, vI s0], (G0, M)) out := by
  have hc : xkall.getD 110 [] = xk_110 := rfl
  unfold f_305_L109 at e
  refine R_ite e (fun b52 e => ?_) (fun b52 e => ?_)
  · refine Rn_icF hc rfl rfl (by decide) (fun w => w b52) ?_
    refine Rn_ms (σ' := (113, [some (vR 1), some (vI c1), some (vI c2), none, some (vI c4), none, none, none, none, none, none, none], [vI c1], (G0, M))) hc 1 rfl ?_
    refine R_ite e (fun b53 e => ?_) (fun b53 e => ?_)
    · refine Rn_ifT (tgt := 130) hc rfl rfl (by decide) b53 ?_
      show Rn rom (d + 6) 110 (130, [some (vR 1), some (vI c1), some (vI c2), none, some (vI c4), none, none, none, none, none, none, none], [], (G0, M)) out
      exact Rn_weak (xle_s (xle_s (xle_s (xle_s (xle_s (xle_s (xle_s (xle_s (xle_s (xle_s (xle_s (xle_s xle_0)))))))))))) (t_305_L130  e hK)
    · refine Rn_ifF hc rfl rfl (by decide) b53 ?_
      refine Rn_ms (σ' := (119, [some (vR 1), some (vI c1), some (vI c2), none, some (vI c4), none, none, none, none, none, none, none], [vI 0, vI 0, vR 1], (G0, M))) hc 3 rfl ?_
      refine R_bind e (fun k56 hk56 e => ?_)
      refine Rn_cv hc rfl rfl (by decide) (ii := xi_84) rfl rfl rfl (tgc_1 : Tg _ = 10) (by decide) rfl (le := [some (vR 1), some (vI 0), some (vI 0), none]) rfl (v := some (vI k56)) (M' := M) (t_112  (d := d + 2) hk56 rfl) ?_
      refine Rn_ms (σ' := (124, [some (vR 1), some (vI c1), some (vI c2), none, some (vI c4), none, none, none, none, none, none, none], [vI 2, vR 1, vI k56], (G0, M))) hc 2 rfl ?_
      refine R_bind e (fun k57 hk57 e => ?_)
      refine Rn_cv hc rfl rfl (by decide) (ii := xi_89) rfl rfl rfl (tgc_1 : Tg _ = 10) (by decide) rfl (le := [some (vR 1), some (vI 2)]) rfl (v := some (vI k57)) (M' := M) (t_119  (d := d + 2) hk57 rfl) ?_
      show Rn rom (d + 6) 110 (127, [some (vR 1), some (vI c1), some (vI c2), none, some (vI c4), none, none, none, none, none, none, none], [vI k57, vI k56], (G0, M)) out
      refine R_ite e (fun b58 e => ?_) (fun b58 e => ?_)
      · refine Rn_icF hc rfl rfl (by decide) (fun w => w b58) ?_
        show Rn rom (d + 6) 110 (130, [some (vR 1), some (vI c1), some (vI c2), none, some (vI c4), none, none, none, none, none, none, none], [], (G0, M)) out
        exact Rn_weak (xle_s (xle_s (xle_s (xle_s (xle_s (xle_s (xle_s (xle_s (xle_s (xle_s (xle_s (xle_s xle_0)))))))))))) (t_305_L130  e hK)
      · refine Rn_icT (tgt := 144) hc rfl rfl (by decide) (fun w => b58 w) ?_
        show Rn rom (d + 6) 110 (144, [some (vR 1), some (vI c1), some (vI c2), none, some (vI c4), none, none, none, none, none, none, none], [], (G0, M)) out
        exact Rn_weak (xle_s (xle_s (xle_s (xle_s (xle_s (xle_s (xle_s (xle_s (xle_s (xle_s (xle_s (xle_s xle_0)))))))))))) (t_305_L144  e hK)
  · refine Rn_icT (tgt := 144) hc rfl rfl (by decide) (fun w => b52 w) ?_
    show Rn rom (d + 6) 110 (144, [some (vR 1), some (vI c1), some (vI c2), none, some (vI c4), none, none, none, none, none, none, none], [], (G0, M)) out
    exact Rn_weak (xle_s (xle_s (xle_s (xle_s (xle_s (xle_s (xle_s (xle_s (xle_s (xle_s (xle_s (xle_s xle_0)))))))))))) (t_305_L144  e hK)
def f_305_L98 (M : xM) (c1 : Int) (c2 : Int) (c4 : Int) (s0 : Int) : Option (Int × xM) :=
  if 2 ≤ wr c4 then
    f_305_L109 M c1 c2 c4 s0 0
  else
    f_305_L109 M c1 c2 c4 s0 1
set_option maxRecDepth 100000 in
set_option maxHeartbeats 4000000 in
theorem t_305_L98 {rom : xRom} {d : Nat} {c1 : Int} {c2 : Int} {c4 : Int} {s0 : Int} {M : xM} {r : Int × xM} {out : Option xV × xH} (e : f_305_L98 M c1 c2 c4 s0 = some r) (hK : (eIW out) r) : Rn rom (d + 6) 110 (98, [some (vR 1), some (vI c1), some (vI c2), none, some (vI c4), none, none, none, none, none, none, none], [vI s0], (G0, M)) out := by
  have hc : xkall.getD 110 [] = xk_110 := rfl
  unfold f_305_L98 at e
  refine Rn_ms (σ' := (101, [some (vR 1), some (vI c1), some (vI c2), none, some (vI c4), none, none, none, none, none, none, none], [vI 2, vI c4, vI s0], (G0, M))) hc 2 rfl ?_
  refine R_ite e (fun b51 e => ?_) (fun b51 e => ?_)
  · refine Rn_icT (tgt := 108) hc rfl rfl (by decide) b51 ?_
    refine Rn_ms (σ' := (109, [some (vR 1), some (vI c1), some (vI c2), none, some (vI c4), none, none, none, none, none, none, none], [vI 0, vI s0], (G0, M))) hc 1 rfl ?_
    exact Rn_weak (xle_s (xle_s (xle_s (xle_s (xle_s (xle_s (xle_s (xle_s (xle_s (xle_s (xle_s (xle_s xle_0)))))))))))) (t_305_L109  e hK)
  · refine Rn_icF hc rfl rfl (by decide) b51 ?_
    refine Rn_ms (σ' := (109, [some (vR 1), some (vI c1), some (vI c2), none, some (vI c4), none, none, none, none, none, none, none], [vI 1, vI s0], (G0, M))) hc 2 rfl ?_
    exact Rn_weak (xle_s (xle_s (xle_s (xle_s (xle_s (xle_s (xle_s (xle_s (xle_s (xle_s (xle_s (xle_s xle_0)))))))))))) (t_305_L109  e hK)
def f_305_L59 (M : xM) (c1 : Int) (c2 : Int) (c3 : Int) : Option (Int × xM) :=
  (f_119 M 0).bind (fun k4 =>
  if wr c2 = wr c3 then
    (f_119 M 4).bind (fun k6 =>
    if 6 < wr (c1 + k6) then
      f_305_L144 M c1 c2 k4
    else
      if 6 < wr c1 then
        f_305_L144 M c1 c2 k4
      else
        if wr c1 = 0 then
          f_305_L98 M c1 c2 k4 1
        else
          f_305_L98 M c1 c2 k4 0
    )
  else
    f_305_L144 M c1 c2 k4
  )
set_option maxRecDepth 100000 in
set_option maxHeartbeats 4000000 in
theorem t_305_L59 {rom : xRom} {d : Nat} {c1 : Int} {c2 : Int} {c3 : Int} {M : xM} {r : Int × xM} {out : Option xV × xH} (e : f_305_L59 M c1 c2 c3 = some r) (hK : (eIW out) r) : Rn rom (d + 6) 110 (59, [some (vR 1), some (vI c1), some (vI c2), some (vI c3), none, none, none, none, none, none, none, none], [], (G0, M)) out := by
  have hc : xkall.getD 110 [] = xk_110 := rfl
  unfold f_305_L59 at e
  refine Rn_ms (σ' := (61, [some (vR 1), some (vI c1), some (vI c2), some (vI c3), none, none, none, none, none, none, none, none], [vI 0, vR 1], (G0, M))) hc 2 rfl ?_
  refine R_bind e (fun k4 hk4 e => ?_)
  refine Rn_cv hc rfl rfl (by decide) (ii := xi_89) rfl rfl rfl (tgc_1 : Tg _ = 10) (by decide) rfl (le := [some (vR 1), some (vI 0)]) rfl (v := some (vI k4)) (M' := M) (t_119  (d := d + 2) hk4 rfl) ?_
  refine Rn_ms (σ' := (68, [some (vR 1), some (vI c1), some (vI c2), some (vI c3), some (vI k4), none, none, none, none, none, none, none], [vI c3, vI c2], (G0, M))) hc 3 rfl ?_
  refine R_ite e (fun b5 e => ?_) (fun b5 e => ?_)
  · refine Rn_icF hc rfl rfl (by decide) (fun w => w b5) ?_
    refine Rn_ms (σ' := (74, [some (vR 1), some (vI c1), some (vI c2), some (vI c3), some (vI k4), none, none, none, none, none, none, none], [vI 4, vR 1, vI c1], (G0, M))) hc 3 rfl ?_
    refine R_bind e (fun k6 hk6 e => ?_)
    refine Rn_cv hc rfl rfl (by decide) (ii := xi_89) rfl rfl rfl (tgc_1 : Tg _ = 10) (by decide) rfl (le := [some (vR 1), some (vI 4)]) rfl (v := some (vI k6)) (M' := M) (t_119  (d := d + 2) hk6 rfl) ?_
    refine Rn_ms (σ' := (80, [some (vR 1), some (vI c1), some (vI c2), some (vI c3), some (vI k4), none, none, none, none, none, none, none], [vI 6, vI (c1 + k6)], (G0, M))) hc 2 rfl ?_
    refine R_ite e (fun b7 e => ?_) (fun b7 e => ?_)
    · refine Rn_icT (tgt := 144) hc rfl rfl (by decide) b7 ?_
      show Rn rom (d + 6) 110 (144, [some (vR 1), some (vI c1), some (vI c2), some (vI c3), some (vI k4), none, none, none, none, none, none, none], [], (G0, M)) out
      exact Rn_weak (xle_s (xle_s (xle_s (xle_n (xle_s (xle_s (xle_s (xle_s (xle_s (xle_s (xle_s (xle_s xle_0)))))))))))) (t_305_L144  e hK)
    · refine Rn_icF hc rfl rfl (by decide) b7 ?_
      refine Rn_ms (σ' := (86, [some (vR 1), some (vI c1), some (vI c2), some (vI c3), some (vI k4), none, none, none, none, none, none, none], [vI 6, vI c1], (G0, M))) hc 2 rfl ?_
      refine R_ite e (fun b49 e => ?_) (fun b49 e => ?_)
      · refine Rn_icT (tgt := 144) hc rfl rfl (by decide) b49 ?_
        show Rn rom (d + 6) 110 (144, [some (vR 1), some (vI c1), some (vI c2), some (vI c3), some (vI k4), none, none, none, none, none, none, none], [], (G0, M)) out
        exact Rn_weak (xle_s (xle_s (xle_s (xle_n (xle_s (xle_s (xle_s (xle_s (xle_s (xle_s (xle_s (xle_s xle_0)))))))))))) (t_305_L144  e hK)
      · refine Rn_icF hc rfl rfl (by decide) b49 ?_
        refine Rn_ms (σ' := (90, [some (vR 1), some (vI c1), some (vI c2), some (vI c3), some (vI k4), none, none, none, none, none, none, none], [vI c1], (G0, M))) hc 1 rfl ?_
        refine R_ite e (fun b50 e => ?_) (fun b50 e => ?_)
        · refine Rn_ifF hc rfl rfl (by decide) (fun w => w b50) ?_
          refine Rn_ms (σ' := (98, [some (vR 1), some (vI c1), some (vI c2), some (vI c3), some (vI k4), none, none, none, none, none, none, none], [vI 1], (G0, M))) hc 2 rfl ?_
          exact Rn_weak (xle_s (xle_s (xle_s (xle_n (xle_s (xle_s (xle_s (xle_s (xle_s (xle_s (xle_s (xle_s xle_0)))))))))))) (t_305_L98  e hK)
        · refine Rn_ifT (tgt := 97) hc rfl rfl (by decide) (fun w => b50 w) ?_
          refine Rn_ms (σ' := (98, [some (vR 1), some (vI c1), some (vI c2), some (vI c3), some (vI k4), none, none, none, none, none, none, none], [vI 0], (G0, M))) hc 1 rfl ?_
          exact Rn_weak (xle_s (xle_s (xle_s (xle_n (xle_s (xle_s (xle_s (xle_s (xle_s (xle_s (xle_s (xle_s xle_0)))))))))))) (t_305_L98  e hK)
  · refine Rn_icT (tgt := 144) hc rfl rfl (by decide) (fun w => b5 w) ?_
    show Rn rom (d + 6) 110 (144, [some (vR 1), some (vI c1), some (vI c2), some (vI c3), some (vI k4), none, none, none, none, none, none, none], [], (G0, M)) out
    exact Rn_weak (xle_s (xle_s (xle_s (xle_n (xle_s (xle_s (xle_s (xle_s (xle_s (xle_s (xle_s (xle_s xle_0)))))))))))) (t_305_L144  e hK)
def f_305_L17b (M : xM) (c1 : Int) (c2 : Int) (v3 : Int) (v4 : Int) : Option ((Int × Int) ⊕ (Int × xM)) :=
  if wr c1 ≤ wr v4 then
    (f_305_L59 M c1 c2 v3).bind (fun o => some (.inr (o)))
  else
    if 6 ≤ wr v4 then
      (f_305_L59 M c1 c2 v3).bind (fun o => some (.inr (o)))
    else
      (f_112 M v4 0).bind (fun k60 =>
      if wr k60 ≤ wr v3 then
        some (.inl (v3, (v4 + 1)))
      else
        (f_112 M v4 0).bind (fun k62 =>
        some (.inl (k62, (v4 + 1)))
        )
      )
set_option maxRecDepth 100000 in
set_option maxHeartbeats 4000000 in
theorem t_305_L17b {rom : xRom} {d : Nat} {c1 : Int} {c2 : Int} {v3 : Int} {v4 : Int} {M : xM} {r : (Int × Int) ⊕ (Int × xM)} {out : Option xV × xH} (e : f_305_L17b M c1 c2 v3 v4 = some r) (hK : ((Sum.elim (fun s => Rn rom (d + 6) 110 (17, [some (vR 1), some (vI c1), some (vI c2), some (vI s.1), some (vI s.2), none, none, none, none, none, none, none], [], (G0, M)) out) (eIW out))) r) : Rn rom (d + 6) 110 (17, [some (vR 1), some (vI c1), some (vI c2), some (vI v3), some (vI v4), none, none, none, none, none, none, none], [], (G0, M)) out := by
  have hc : xkall.getD 110 [] = xk_110 := rfl
  unfold f_305_L17b at e
  refine Rn_ms (σ' := (20, [some (vR 1), some (vI c1), some (vI c2), some (vI v3), some (vI v4), none, none, none, none, none, none, none], [vI c1, vI v4], (G0, M))) hc 2 rfl ?_
  refine R_ite e (fun b3 e => ?_) (fun b3 e => ?_)
  · refine Rn_icT (tgt := 59) hc rfl rfl (by decide) b3 ?_
    show Rn rom (d + 6) 110 (59, [some (vR 1), some (vI c1), some (vI c2), some (vI v3), some (vI v4), none, none, none, none, none, none, none], [], (G0, M)) out
    refine R_bind e (fun o ho e => ?_)
    cases e
    exact Rn_weak (xle_s (xle_s (xle_s (xle_s (xle_n (xle_s (xle_s (xle_s (xle_s (xle_s (xle_s (xle_s xle_0)))))))))))) (t_305_L59  ho hK)
  · refine Rn_icF hc rfl rfl (by decide) b3 ?_
    refine Rn_ms (σ' := (27, [some (vR 1), some (vI c1), some (vI c2), some (vI v3), some (vI v4), none, none, none, none, none, none, none], [vI 6, vI v4], (G0, M))) hc 2 rfl ?_
    refine R_ite e (fun b59 e => ?_) (fun b59 e => ?_)
    · refine Rn_icT (tgt := 59) hc rfl rfl (by decide) b59 ?_
      show Rn rom (d + 6) 110 (59, [some (vR 1), some (vI c1), some (vI c2), some (vI v3), some (vI v4), none, none, none, none, none, none, none], [], (G0, M)) out
      refine R_bind e (fun o ho e => ?_)
      cases e
      exact Rn_weak (xle_s (xle_s (xle_s (xle_s (xle_n (xle_s (xle_s (xle_s (xle_s (xle_s (xle_s (xle_s xle_0)))))))))))) (t_305_L59  ho hK)
    · refine Rn_icF hc rfl rfl (by decide) b59 ?_
      refine Rn_ms (σ' := (34, [some (vR 1), some (vI c1), some (vI c2), some (vI v3), some (vI v4), none, none, none, none, none, none, none], [vI 0, vI v4, vR 1], (G0, M))) hc 3 rfl ?_
      refine R_bind e (fun k60 hk60 e => ?_)
      refine Rn_cv hc rfl rfl (by decide) (ii := xi_84) rfl rfl rfl (tgc_1 : Tg _ = 10) (by decide) rfl (le := [some (vR 1), some (vI v4), some (vI 0), none]) rfl (v := some (vI k60)) (M' := M) (t_112  (d := d + 2) hk60 rfl) ?_
      refine Rn_ms (σ' := (38, [some (vR 1), some (vI c1), some (vI c2), some (vI v3), some (vI v4), none, none, none, none, none, none, none], [vI v3, vI k60], (G0, M))) hc 1 rfl ?_
      refine R_ite e (fun b61 e => ?_) (fun b61 e => ?_)
      · refine Rn_icT (tgt := 51) hc rfl rfl (by decide) b61 ?_
        refine Rn_ms (σ' := (17, [some (vR 1), some (vI c1), some (vI c2), some (vI v3), some (vI (v4 + 1)), none, none, none, none, none, none, none], [], (G0, M))) hc 4 rfl ?_
        cases e
        exact Rn_weak (xle_s (xle_s (xle_s (xle_s (xle_s (xle_s (xle_s (xle_s (xle_s (xle_s (xle_s (xle_s xle_0)))))))))))) hK
      · refine Rn_icF hc rfl rfl (by decide) b61 ?_
        refine Rn_ms (σ' := (45, [some (vR 1), some (vI c1), some (vI c2), some (vI v3), some (vI v4), none, none, none, none, none, none, none], [vI 0, vI v4, vR 1], (G0, M))) hc 3 rfl ?_
        refine R_bind e (fun k62 hk62 e => ?_)
        refine Rn_cv hc rfl rfl (by decide) (ii := xi_84) rfl rfl rfl (tgc_1 : Tg _ = 10) (by decide) rfl (le := [some (vR 1), some (vI v4), some (vI 0), none]) rfl (v := some (vI k62)) (M' := M) (t_112  (d := d + 2) hk62 rfl) ?_
        refine Rn_ms (σ' := (17, [some (vR 1), some (vI c1), some (vI c2), some (vI k62), some (vI (v4 + 1)), none, none, none, none, none, none, none], [], (G0, M))) hc 4 rfl ?_
        cases e
        exact Rn_weak (xle_s (xle_s (xle_s (xle_s (xle_s (xle_s (xle_s (xle_s (xle_s (xle_s (xle_s (xle_s xle_0)))))))))))) hK
def f_305_L17 (M : xM) (c1 : Int) (c2 : Int) (s : Int × Int) : Option (Int × xM) := loop NF (fun s => f_305_L17b M c1 c2 s.1 s.2) s
set_option maxRecDepth 100000 in
set_option maxHeartbeats 4000000 in
theorem t_305_L17 {rom : xRom} {d : Nat} {c1 : Int} {c2 : Int} {M : xM} {s : Int × Int} {r : Int × xM} {out : Option xV × xH} (e : f_305_L17 M c1 c2 s = some r) (hK : (eIW out) r) : Rn rom (d + 6) 110 (17, [some (vR 1), some (vI c1), some (vI c2), some (vI s.1), some (vI s.2), none, none, none, none, none, none, none], [], (G0, M)) out := by
  unfold f_305_L17 at e
  revert e hK
  exact R_loop (b := fun s => f_305_L17b M c1 c2 s.1 s.2) (G := fun s => Rn rom (d + 6) 110 (17, [some (vR 1), some (vI c1), some (vI c2), some (vI s.1), some (vI s.2), none, none, none, none, none, none, none], [], (G0, M)) out) (K := eIW out) (fun s r e hK => t_305_L17b  e hK) NF s r
/-- PedalLayersLaw.isLoop -/
def f_305 (M : xM) : Option (Int × xM) :=
  (f_119 M 3).bind (fun k1 =>
  (f_119 M 1).bind (fun k2 =>
  f_305_L17 M k1 k2 (0, 0)
  ))
set_option maxRecDepth 100000 in
set_option maxHeartbeats 4000000 in
theorem t_305 {rom : xRom} {d : Nat} {M : xM}  {r : Int × xM} {out : Option xV × xH} (e : f_305 M = some r) (hK : eIW out r) : Rn rom (d + 6) 110 (0, [some (vR 1), none, none, none, none, none, none, none, none, none, none, none], [], (G0, M)) out := by
  have hc : xkall.getD 110 [] = xk_110 := rfl
  unfold f_305 at e
  refine Rn_ms (σ' := (2, [some (vR 1), none, none, none, none, none, none, none, none, none, none, none], [vI 3, vR 1], (G0, M))) hc 2 rfl ?_
  refine R_bind e (fun k1 hk1 e => ?_)
  refine Rn_cv hc rfl rfl (by decide) (ii := xi_89) rfl rfl rfl (tgc_1 : Tg _ = 10) (by decide) rfl (le := [some (vR 1), some (vI 3)]) rfl (v := some (vI k1)) (M' := M) (t_119  (d := d + 2) hk1 rfl) ?_
  refine Rn_ms (σ' := (8, [some (vR 1), some (vI k1), none, none, none, none, none, none, none, none, none, none], [vI 1, vR 1], (G0, M))) hc 3 rfl ?_
  refine R_bind e (fun k2 hk2 e => ?_)
  refine Rn_cv hc rfl rfl (by decide) (ii := xi_89) rfl rfl rfl (tgc_1 : Tg _ = 10) (by decide) rfl (le := [some (vR 1), some (vI 1)]) rfl (v := some (vI k2)) (M' := M) (t_119  (d := d + 2) hk2 rfl) ?_
  refine Rn_ms (σ' := (17, [some (vR 1), some (vI k1), some (vI k2), some (vI 0), some (vI 0), none, none, none, none, none, none, none], [], (G0, M))) hc 5 rfl ?_
  exact Rn_weak (xle_s (xle_s (xle_s (xle_s (xle_s (xle_s (xle_s (xle_s (xle_s (xle_s (xle_s (xle_s xle_0)))))))))))) (t_305_L17  e hK)
def f_306_L164 (M : xM) (s0 : Int) (s1 : Int) : Option (Int) :=
  if wr s0 = wr s1 then
    (f_122 M 0).bind (fun k17 =>
    if wr k17 = 0 then
      some (1)
    else
      some (0)
    )
  else
    some (0)
set_option maxRecDepth 100000 in
set_option maxHeartbeats 4000000 in
theorem t_306_L164 {rom : xRom} {d : Nat} {s0 : Int} {s1 : Int} {M : xM} {r : Int} {out : Option xV × xH} (e : f_306_L164 M s0 s1 = some r) (hK : (eI M out) r) : Rn rom (d + 4) 111 (164, [some (vR 1), none, none, none, none, none, none, none], [vI s1, vI s0], (G0, M)) out := by
  have hc : xkall.getD 111 [] = xk_111 := rfl
  unfold f_306_L164 at e
  refine R_ite e (fun b16 e => ?_) (fun b16 e => ?_)
  · refine Rn_icF hc rfl rfl (by decide) (fun w => w b16) ?_
    refine Rn_ms (σ' := (169, [some (vR 1), none, none, none, none, none, none, none], [vI 0, vR 1], (G0, M))) hc 2 rfl ?_
    refine R_bind e (fun k17 hk17 e => ?_)
    refine Rn_cv hc rfl rfl (by decide) (ii := xi_92) rfl rfl rfl (tgc_1 : Tg _ = 10) (by decide) rfl (le := [some (vR 1), some (vI 0), none, none]) rfl (v := some (vI k17)) (M' := M) (t_122  (d := d + 1) hk17 rfl) ?_
    show Rn rom (d + 4) 111 (172, [some (vR 1), none, none, none, none, none, none, none], [vI k17], (G0, M)) out
    refine R_ite e (fun b18 e => ?_) (fun b18 e => ?_)
    · refine Rn_ifF hc rfl rfl (by decide) (fun w => w b18) ?_
      refine Rn_ms (σ' := (180, [some (vR 1), none, none, none, none, none, none, none], [vI 1], (G0, M))) hc 2 rfl ?_
      cases e
      exact R_end (Rn_iret hc rfl rfl (xretB rfl rfl (by decide))) hK
    · refine Rn_ifT (tgt := 179) hc rfl rfl (by decide) (fun w => b18 w) ?_
      refine Rn_ms (σ' := (180, [some (vR 1), none, none, none, none, none, none, none], [vI 0], (G0, M))) hc 1 rfl ?_
      cases e
      exact R_end (Rn_iret hc rfl rfl (xretB rfl rfl (by decide))) hK
  · refine Rn_icT (tgt := 179) hc rfl rfl (by decide) (fun w => b16 w) ?_
    refine Rn_ms (σ' := (180, [some (vR 1), none, none, none, none, none, none, none], [vI 0], (G0, M))) hc 1 rfl ?_
    cases e
    exact R_end (Rn_iret hc rfl rfl (xretB rfl rfl (by decide))) hK
def f_306_L139 (M : xM) (c1 : Int) (c2 : Int) (c5 : Int) (s0 : Int) : Option (Int) :=
  if wr c5 = 0 then
    some (0)
  else
    (f_122 M c1).bind (fun k14 =>
    if wr c2 ≤ wr s0 then
      f_306_L164 M k14 (-4)
    else
      f_306_L164 M k14 s0
    )
set_option maxRecDepth 100000 in
set_option maxHeartbeats 4000000 in
theorem t_306_L139 {rom : xRom} {d : Nat} {c1 : Int} {c2 : Int} {c5 : Int} {s0 : Int} {M : xM} {r : Int} {out : Option xV × xH} (e : f_306_L139 M c1 c2 c5 s0 = some r) (hK : (eI M out) r) : Rn rom (d + 4) 111 (139, [some (vR 1), some (vI c1), some (vI c2), none, none, some (vI c5), none, none], [vI s0], (G0, M)) out := by
  have hc : xkall.getD 111 [] = xk_111 := rfl
  unfold f_306_L139 at e
  refine Rn_ms (σ' := (143, [some (vR 1), some (vI c1), some (vI c2), none, none, some (vI c5), none, some (vI s0)], [vI c5], (G0, M))) hc 2 rfl ?_
  refine R_ite e (fun b13 e => ?_) (fun b13 e => ?_)
  · refine Rn_ifT (tgt := 179) hc rfl rfl (by decide) b13 ?_
    refine Rn_ms (σ' := (180, [some (vR 1), some (vI c1), some (vI c2), none, none, some (vI c5), none, some (vI s0)], [vI 0], (G0, M))) hc 1 rfl ?_
    cases e
    exact R_end (Rn_iret hc rfl rfl (xretB rfl rfl (by decide))) hK
  · refine Rn_ifF hc rfl rfl (by decide) b13 ?_
    refine Rn_ms (σ' := (148, [some (vR 1), some (vI c1), some (vI c2), none, none, some (vI c5), none, some (vI s0)], [vI c1, vR 1], (G0, M))) hc 2 rfl ?_
    refine R_bind e (fun k14 hk14 e => ?_)
    refine Rn_cv hc rfl rfl (by decide) (ii := xi_92) rfl rfl rfl (tgc_1 : Tg _ = 10) (by decide) rfl (le := [some (vR 1), some (vI c1), none, none]) rfl (v := some (vI k14)) (M' := M) (t_122  (d := d + 1) hk14 rfl) ?_
    refine Rn_ms (σ' := (154, [some (vR 1), some (vI c1), some (vI c2), none, none, some (vI c5), none, some (vI s0)], [vI c2, vI s0, vI k14], (G0, M))) hc 2 rfl ?_
    refine R_ite e (fun b15 e => ?_) (fun b15 e => ?_)
    · refine Rn_icT (tgt := 162) hc rfl rfl (by decide) b15 ?_
      refine Rn_ms (σ' := (164, [some (vR 1), some (vI c1), some (vI c2), none, none, some (vI c5), none, some (vI s0)], [vI (-4), vI k14], (G0, M))) hc 1 rfl ?_
      exact Rn_weak (xle_s (xle_n (xle_n (xle_s (xle_s (xle_n (xle_s (xle_n xle_0)))))))) (t_306_L164  e hK)
    · refine Rn_icF hc rfl rfl (by decide) b15 ?_
      refine Rn_ms (σ' := (164, [some (vR 1), some (vI c1), some (vI c2), none, none, some (vI c5), none, some (vI s0)], [vI s0, vI k14], (G0, M))) hc 2 rfl ?_
      exact Rn_weak (xle_s (xle_n (xle_n (xle_s (xle_s (xle_n (xle_s (xle_n xle_0)))))))) (t_306_L164  e hK)
def f_306_L119 (M : xM) (c1 : Int) (c2 : Int) (c3 : Int) (c5 : Int) : Option (Int) :=
  gd ((wr c3) ≠ 0) (
  if wr ((wr (c1 * c2)).tmod (wr c3)) = 0 then
    f_306_L139 M c1 c2 c5 0
  else
    f_306_L139 M c1 c2 c5 (c3 - ((wr (c1 * c2)).tmod (wr c3)))
  )
set_option maxRecDepth 100000 in
set_option maxHeartbeats 4000000 in
theorem t_306_L119 {rom : xRom} {d : Nat} {c1 : Int} {c2 : Int} {c3 : Int} {c5 : Int} {M : xM} {r : Int} {out : Option xV × xH} (e : f_306_L119 M c1 c2 c3 c5 = some r) (hK : (eI M out) r) : Rn rom (d + 4) 111 (119, [some (vR 1), some (vI c1), some (vI c2), some (vI c3), none, some (vI c5), none, none], [], (G0, M)) out := by
  have hc : xkall.getD 111 [] = xk_111 := rfl
  unfold f_306_L119 at e
  refine Rn_ms (σ' := (123, [some (vR 1), some (vI c1), some (vI c2), some (vI c3), none, some (vI c5), none, none], [vI c3, vI (c1 * c2)], (G0, M))) hc 4 rfl ?_
  refine R_gd e (fun g11 e => ?_)
  refine Rn_rem hc rfl ⟨rfl, rfl⟩ (z' := (wr c3)) rfl g11 ?_
  refine Rn_ms (σ' := (128, [some (vR 1), some (vI c1), some (vI c2), some (vI c3), none, some (vI c5), some (vI ((wr (c1 * c2)).tmod (wr c3))), none], [vI ((wr (c1 * c2)).tmod (wr c3))], (G0, M))) hc 2 rfl ?_
  refine R_ite e (fun b12 e => ?_) (fun b12 e => ?_)
  · refine Rn_ifF hc rfl rfl (by decide) (fun w => w b12) ?_
    refine Rn_ms (σ' := (139, [some (vR 1), some (vI c1), some (vI c2), some (vI c3), none, some (vI c5), some (vI ((wr (c1 * c2)).tmod (wr c3))), none], [vI 0], (G0, M))) hc 2 rfl ?_
    exact Rn_weak (xle_s (xle_s (xle_s (xle_n (xle_s (xle_s (xle_n (xle_s xle_0)))))))) (t_306_L139  e hK)
  · refine Rn_ifT (tgt := 135) hc rfl rfl (by decide) (fun w => b12 w) ?_
    refine Rn_ms (σ' := (139, [some (vR 1), some (vI c1), some (vI c2), some (vI c3), none, some (vI c5), some (vI ((wr (c1 * c2)).tmod (wr c3))), none], [vI (c3 - ((wr (c1 * c2)).tmod (wr c3)))], (G0, M))) hc 3 rfl ?_
    exact Rn_weak (xle_s (xle_s (xle_s (xle_n (xle_s (xle_s (xle_n (xle_s xle_0)))))))) (t_306_L139  e hK)
def f_306_L78b (M : xM) (c1 : Int) (c2 : Int) (c3 : Int) (c4 : Int) (v5 : Int) (v6 : Int) : Option ((Int × Int) ⊕ (Int)) :=
  if wr c4 ≤ wr v6 then
    (f_306_L119 M c1 c2 c3 v5).bind (fun o => some (.inr (o)))
  else
    if 16 ≤ wr v6 then
      (f_306_L119 M c1 c2 c3 v5).bind (fun o => some (.inr (o)))
    else
      if wr v5 = 0 then
        some (.inl (0, (v6 + 1)))
      else
        gd ((wr c3) ≠ 0) (
        if wr ((wr (v6 * c2)).tmod (wr c3)) = 0 then
          some (.inl (0, (v6 + 1)))
        else
          some (.inl (1, (v6 + 1)))
        )
set_option maxRecDepth 100000 in
set_option maxHeartbeats 4000000 in
theorem t_306_L78b {rom : xRom} {d : Nat} {c1 : Int} {c2 : Int} {c3 : Int} {c4 : Int} {v5 : Int} {v6 : Int} {M : xM} {r : (Int × Int) ⊕ (Int)} {out : Option xV × xH} (e : f_306_L78b M c1 c2 c3 c4 v5 v6 = some r) (hK : ((Sum.elim (fun s => Rn rom (d + 4) 111 (78, [some (vR 1), some (vI c1), some (vI c2), some (vI c3), some (vI c4), some (vI s.1), some (vI s.2), none], [], (G0, M)) out) (eI M out))) r) : Rn rom (d + 4) 111 (78, [some (vR 1), some (vI c1), some (vI c2), some (vI c3), some (vI c4), some (vI v5), some (vI v6), none], [], (G0, M)) out := by
  have hc : xkall.getD 111 [] = xk_111 := rfl
  unfold f_306_L78b at e
  refine Rn_ms (σ' := (82, [some (vR 1), some (vI c1), some (vI c2), some (vI c3), some (vI c4), some (vI v5), some (vI v6), none], [vI c4, vI v6], (G0, M))) hc 2 rfl ?_
  refine R_ite e (fun b10 e => ?_) (fun b10 e => ?_)
  · refine Rn_icT (tgt := 119) hc rfl rfl (by decide) b10 ?_
    show Rn rom (d + 4) 111 (119, [some (vR 1), some (vI c1), some (vI c2), some (vI c3), some (vI c4), some (vI v5), some (vI v6), none], [], (G0, M)) out
    refine R_bind e (fun o ho e => ?_)
    cases e
    exact Rn_weak (xle_s (xle_s (xle_s (xle_s (xle_n (xle_s (xle_n (xle_s xle_0)))))))) (t_306_L119  ho hK)
  · refine Rn_icF hc rfl rfl (by decide) b10 ?_
    refine Rn_ms (σ' := (89, [some (vR 1), some (vI c1), some (vI c2), some (vI c3), some (vI c4), some (vI v5), some (vI v6), none], [vI 16, vI v6], (G0, M))) hc 2 rfl ?_
    refine R_ite e (fun b19 e => ?_) (fun b19 e => ?_)
    · refine Rn_icT (tgt := 119) hc rfl rfl (by decide) b19 ?_
      show Rn rom (d + 4) 111 (119, [some (vR 1), some (vI c1), some (vI c2), some (vI c3), some (vI c4), some (vI v5), some (vI v6), none], [], (G0, M)) out
      refine R_bind e (fun o ho e => ?_)
      cases e
      exact Rn_weak (xle_s (xle_s (xle_s (xle_s (xle_n (xle_s (xle_n (xle_s xle_0)))))))) (t_306_L119  ho hK)
    · refine Rn_icF hc rfl rfl (by decide) b19 ?_
      refine Rn_ms (σ' := (94, [some (vR 1), some (vI c1), some (vI c2), some (vI c3), some (vI c4), some (vI v5), some (vI v6), none], [vI v5], (G0, M))) hc 1 rfl ?_
      refine R_ite e (fun b20 e => ?_) (fun b20 e => ?_)
      · refine Rn_ifT (tgt := 110) hc rfl rfl (by decide) b20 ?_
        refine Rn_ms (σ' := (78, [some (vR 1), some (vI c1), some (vI c2), some (vI c3), some (vI c4), some (vI 0), some (vI (v6 + 1)), none], [], (G0, M))) hc 4 rfl ?_
        cases e
        exact Rn_weak (xle_s (xle_s (xle_s (xle_s (xle_s (xle_s (xle_s (xle_s xle_0)))))))) hK
      · refine Rn_ifF hc rfl rfl (by decide) b20 ?_
        refine Rn_ms (σ' := (102, [some (vR 1), some (vI c1), some (vI c2), some (vI c3), some (vI c4), some (vI v5), some (vI v6), none], [vI c3, vI (v6 * c2)], (G0, M))) hc 4 rfl ?_
        refine R_gd e (fun g21 e => ?_)
        refine Rn_rem hc rfl ⟨rfl, rfl⟩ (z' := (wr c3)) rfl g21 ?_
        show Rn rom (d + 4) 111 (103, [some (vR 1), some (vI c1), some (vI c2), some (vI c3), some (vI c4), some (vI v5), some (vI v6), none], [vI ((wr (v6 * c2)).tmod (wr c3))], (G0, M)) out
        refine R_ite e (fun b22 e => ?_) (fun b22 e => ?_)
        · refine Rn_ifT (tgt := 110) hc rfl rfl (by decide) b22 ?_
          refine Rn_ms (σ' := (78, [some (vR 1), some (vI c1), some (vI c2), some (vI c3), some (vI c4), some (vI 0), some (vI (v6 + 1)), none], [], (G0, M))) hc 4 rfl ?_
          cases e
          exact Rn_weak (xle_s (xle_s (xle_s (xle_s (xle_s (xle_s (xle_s (xle_s xle_0)))))))) hK
        · refine Rn_ifF hc rfl rfl (by decide) b22 ?_
          refine Rn_ms (σ' := (78, [some (vR 1), some (vI c1), some (vI c2), some (vI c3), some (vI c4), some (vI 1), some (vI (v6 + 1)), none], [], (G0, M))) hc 5 rfl ?_
          cases e
          exact Rn_weak (xle_s (xle_s (xle_s (xle_s (xle_s (xle_s (xle_s (xle_s xle_0)))))))) hK
def f_306_L78 (M : xM) (c1 : Int) (c2 : Int) (c3 : Int) (c4 : Int) (s : Int × Int) : Option (Int) := loop NF (fun s => f_306_L78b M c1 c2 c3 c4 s.1 s.2) s
set_option maxRecDepth 100000 in
set_option maxHeartbeats 4000000 in
theorem t_306_L78 {rom : xRom} {d : Nat} {c1 : Int} {c2 : Int} {c3 : Int} {c4 : Int} {M : xM} {s : Int × Int} {r : Int} {out : Option xV × xH} (e : f_306_L78 M c1 c2 c3 c4 s = some r) (hK : (eI M out) r) : Rn rom (d + 4) 111 (78, [some (vR 1), some (vI c1), some (vI c2), some (vI c3), some (vI c4), some (vI s.1), some (vI s.2), none], [], (G0, M)) out := by
  unfold f_306_L78 at e
  revert e hK
  exact R_loop (b := fun s => f_306_L78b M c1 c2 c3 c4 s.1 s.2) (G := fun s => Rn rom (d + 4) 111 (78, [some (vR 1), some (vI c1), some (vI c2), some (vI c3), some (vI c4), some (vI s.1), some (vI s.2), none], [], (G0, M)) out) (K := eI M out) (fun s r e hK => t_306_L78b  e hK) NF s r
/-- PedalLayersLaw.areBars -/
def f_306 (M : xM) (a1 : Int) : Option (Int) :=
  (f_119 M 1).bind (fun k1 =>
  (f_119 M 10).bind (fun k2 =>
  if wr k1 = 0 then
    (f_123 M).bind (fun k4 =>
    if wr k4 = (-2) then
      (f_122 M a1).bind (fun k6 =>
      if wr k6 = (-2) then
        some (1)
      else
        some (0)
      )
    else
      some (0)
    )
  else
    (f_123 M).bind (fun k8 =>
    if wr k8 ≤ 0 then
      f_306_L78 M a1 k1 k2 k8 (0, 1)
    else
      if wr k2 < wr k8 then
        f_306_L78 M a1 k1 k2 k8 (0, 1)
      else
        gd ((wr k2) ≠ 0) (
        if wr ((wr (k8 * k1)).tmod (wr k2)) = 0 then
          f_306_L78 M a1 k1 k2 k8 (1, 1)
        else
          f_306_L78 M a1 k1 k2 k8 (0, 1)
        )
    )
  ))
set_option maxRecDepth 100000 in
set_option maxHeartbeats 4000000 in
theorem t_306 {rom : xRom} {d : Nat} {M : xM} {a1 : Int} {r : Int} {out : Option xV × xH} (e : f_306 M a1 = some r) (hK : eI M out r) : Rn rom (d + 4) 111 (0, [some (vR 1), some (vI a1), none, none, none, none, none, none], [], (G0, M)) out := by
  have hc : xkall.getD 111 [] = xk_111 := rfl
  unfold f_306 at e
  refine Rn_ms (σ' := (2, [some (vR 1), some (vI a1), none, none, none, none, none, none], [vI 1, vR 1], (G0, M))) hc 2 rfl ?_
  refine R_bind e (fun k1 hk1 e => ?_)
  refine Rn_cv hc rfl rfl (by decide) (ii := xi_89) rfl rfl rfl (tgc_1 : Tg _ = 10) (by decide) rfl (le := [some (vR 1), some (vI 1)]) rfl (v := some (vI k1)) (M' := M) (t_119  (d := d + 0) hk1 rfl) ?_
  refine Rn_ms (σ' := (9, [some (vR 1), some (vI a1), some (vI k1), none, none, none, none, none], [vI 10, vR 1], (G0, M))) hc 3 rfl ?_
  refine R_bind e (fun k2 hk2 e => ?_)
  refine Rn_cv hc rfl rfl (by decide) (ii := xi_89) rfl rfl rfl (tgc_1 : Tg _ = 10) (by decide) rfl (le := [some (vR 1), some (vI 10)]) rfl (v := some (vI k2)) (M' := M) (t_119  (d := d + 0) hk2 rfl) ?_
  refine Rn_ms (σ' := (14, [some (vR 1), some (vI a1), some (vI k1), some (vI k2), none, none, none, none], [vI k1], (G0, M))) hc 2 rfl ?_
  refine R_ite e (fun b3 e => ?_) (fun b3 e => ?_)
  · refine Rn_ifF hc rfl rfl (by decide) (fun w => w b3) ?_
    refine Rn_ms (σ' := (18, [some (vR 1), some (vI a1), some (vI k1), some (vI k2), none, none, none, none], [vR 1], (G0, M))) hc 1 rfl ?_
    refine R_bind e (fun k4 hk4 e => ?_)
    refine Rn_cv hc rfl rfl (by decide) (ii := xi_93) rfl rfl rfl (tgc_1 : Tg _ = 10) (by decide) rfl (le := [some (vR 1), none, none, none]) rfl (v := some (vI k4)) (M' := M) (t_123  (d := d + 1) hk4 rfl) ?_
    refine Rn_ms (σ' := (23, [some (vR 1), some (vI a1), some (vI k1), some (vI k2), none, none, none, none], [vI (-2), vI k4], (G0, M))) hc 1 rfl ?_
    refine R_ite e (fun b5 e => ?_) (fun b5 e => ?_)
    · refine Rn_icF hc rfl rfl (by decide) (fun w => w b5) ?_
      refine Rn_ms (σ' := (28, [some (vR 1), some (vI a1), some (vI k1), some (vI k2), none, none, none, none], [vI a1, vR 1], (G0, M))) hc 2 rfl ?_
      refine R_bind e (fun k6 hk6 e => ?_)
      refine Rn_cv hc rfl rfl (by decide) (ii := xi_92) rfl rfl rfl (tgc_1 : Tg _ = 10) (by decide) rfl (le := [some (vR 1), some (vI a1), none, none]) rfl (v := some (vI k6)) (M' := M) (t_122  (d := d + 1) hk6 rfl) ?_
      refine Rn_ms (σ' := (33, [some (vR 1), some (vI a1), some (vI k1), some (vI k2), none, none, none, none], [vI (-2), vI k6], (G0, M))) hc 1 rfl ?_
      refine R_ite e (fun b7 e => ?_) (fun b7 e => ?_)
      · refine Rn_icF hc rfl rfl (by decide) (fun w => w b7) ?_
        refine Rn_ms (σ' := (41, [some (vR 1), some (vI a1), some (vI k1), some (vI k2), none, none, none, none], [vI 1], (G0, M))) hc 2 rfl ?_
        cases e
        exact R_end (Rn_iret hc rfl rfl (xretB rfl rfl (by decide))) hK
      · refine Rn_icT (tgt := 40) hc rfl rfl (by decide) (fun w => b7 w) ?_
        refine Rn_ms (σ' := (41, [some (vR 1), some (vI a1), some (vI k1), some (vI k2), none, none, none, none], [vI 0], (G0, M))) hc 1 rfl ?_
        cases e
        exact R_end (Rn_iret hc rfl rfl (xretB rfl rfl (by decide))) hK
    · refine Rn_icT (tgt := 40) hc rfl rfl (by decide) (fun w => b5 w) ?_
      refine Rn_ms (σ' := (41, [some (vR 1), some (vI a1), some (vI k1), some (vI k2), none, none, none, none], [vI 0], (G0, M))) hc 1 rfl ?_
      cases e
      exact R_end (Rn_iret hc rfl rfl (xretB rfl rfl (by decide))) hK
  · refine Rn_ifT (tgt := 42) hc rfl rfl (by decide) (fun w => b3 w) ?_
    refine Rn_ms (σ' := (43, [some (vR 1), some (vI a1), some (vI k1), some (vI k2), none, none, none, none], [vR 1], (G0, M))) hc 1 rfl ?_
    refine R_bind e (fun k8 hk8 e => ?_)
    refine Rn_cv hc rfl rfl (by decide) (ii := xi_93) rfl rfl rfl (tgc_1 : Tg _ = 10) (by decide) rfl (le := [some (vR 1), none, none, none]) rfl (v := some (vI k8)) (M' := M) (t_123  (d := d + 1) hk8 rfl) ?_
    refine Rn_ms (σ' := (50, [some (vR 1), some (vI a1), some (vI k1), some (vI k2), some (vI k8), none, none, none], [vI k8], (G0, M))) hc 2 rfl ?_
    refine R_ite e (fun b9 e => ?_) (fun b9 e => ?_)
    · refine Rn_ifT (tgt := 72) hc rfl rfl (by decide) b9 ?_
      refine Rn_ms (σ' := (78, [some (vR 1), some (vI a1), some (vI k1), some (vI k2), some (vI k8), some (vI 0), some (vI 1), none], [], (G0, M))) hc 4 rfl ?_
      exact Rn_weak (xle_s (xle_s (xle_s (xle_s (xle_s (xle_s (xle_s (xle_s xle_0)))))))) (t_306_L78  e hK)
    · refine Rn_ifF hc rfl rfl (by decide) b9 ?_
      refine Rn_ms (σ' := (56, [some (vR 1), some (vI a1), some (vI k1), some (vI k2), some (vI k8), none, none, none], [vI k2, vI k8], (G0, M))) hc 2 rfl ?_
      refine R_ite e (fun b23 e => ?_) (fun b23 e => ?_)
      · refine Rn_icT (tgt := 72) hc rfl rfl (by decide) b23 ?_
        refine Rn_ms (σ' := (78, [some (vR 1), some (vI a1), some (vI k1), some (vI k2), some (vI k8), some (vI 0), some (vI 1), none], [], (G0, M))) hc 4 rfl ?_
        exact Rn_weak (xle_s (xle_s (xle_s (xle_s (xle_s (xle_s (xle_s (xle_s xle_0)))))))) (t_306_L78  e hK)
      · refine Rn_icF hc rfl rfl (by decide) b23 ?_
        refine Rn_ms (σ' := (64, [some (vR 1), some (vI a1), some (vI k1), some (vI k2), some (vI k8), none, none, none], [vI k2, vI (k8 * k1)], (G0, M))) hc 4 rfl ?_
        refine R_gd e (fun g24 e => ?_)
        refine Rn_rem hc rfl ⟨rfl, rfl⟩ (z' := (wr k2)) rfl g24 ?_
        show Rn rom (d + 4) 111 (65, [some (vR 1), some (vI a1), some (vI k1), some (vI k2), some (vI k8), none, none, none], [vI ((wr (k8 * k1)).tmod (wr k2))], (G0, M)) out
        refine R_ite e (fun b25 e => ?_) (fun b25 e => ?_)
        · refine Rn_ifF hc rfl rfl (by decide) (fun w => w b25) ?_
          refine Rn_ms (σ' := (78, [some (vR 1), some (vI a1), some (vI k1), some (vI k2), some (vI k8), some (vI 1), some (vI 1), none], [], (G0, M))) hc 5 rfl ?_
          exact Rn_weak (xle_s (xle_s (xle_s (xle_s (xle_s (xle_s (xle_s (xle_s xle_0)))))))) (t_306_L78  e hK)
        · refine Rn_ifT (tgt := 72) hc rfl rfl (by decide) (fun w => b25 w) ?_
          refine Rn_ms (σ' := (78, [some (vR 1), some (vI a1), some (vI k1), some (vI k2), some (vI k8), some (vI 0), some (vI 1), none], [], (G0, M))) hc 4 rfl ?_
          exact Rn_weak (xle_s (xle_s (xle_s (xle_s (xle_s (xle_s (xle_s (xle_s xle_0)))))))) (t_306_L78  e hK)
def f_307_L22 (M : xM) : Option (Int × xM) :=
  (f_102 M).bind (fun k4 =>
  if wr k4.1 = (-2) then
    some (1, k4.2)
  else
    some (0, k4.2)
  )
set_option maxRecDepth 100000 in
set_option maxHeartbeats 4000000 in
theorem t_307_L22 {rom : xRom} {d : Nat} {M : xM} {r : Int × xM} {out : Option xV × xH} (e : f_307_L22 M = some r) (hK : (eIW out) r) : Rn rom (d + 7) 112 (22, [some (vR 1), none, none, none, none, none, none, none, none, none, none], [], (G0, M)) out := by
  have hc : xkall.getD 112 [] = xk_112 := rfl
  unfold f_307_L22 at e
  refine Rn_ms (σ' := (23, [some (vR 1), none, none, none, none, none, none, none, none, none, none], [vR 1], (G0, M))) hc 1 rfl ?_
  refine R_bind e (fun k4 hk4 e => ?_)
  refine Rn_cv hc rfl rfl (by decide) (ii := xi_79) rfl rfl rfl (tgc_1 : Tg _ = 10) (by decide) rfl (le := [some (vR 1)]) rfl (v := some (vI k4.1)) (M' := k4.2) (t_102  (d := d + 0) hk4 rfl) ?_
  refine Rn_ms (σ' := (28, [some (vR 1), none, none, none, none, none, none, none, none, none, none], [vI (-2), vI k4.1], (G0, k4.2))) hc 1 rfl ?_
  refine R_ite e (fun b5 e => ?_) (fun b5 e => ?_)
  · refine Rn_icF hc rfl rfl (by decide) (fun w => w b5) ?_
    refine Rn_ms (σ' := (36, [some (vR 1), none, none, none, none, none, none, none, none, none, none], [vI 1], (G0, k4.2))) hc 2 rfl ?_
    cases e
    exact R_end (Rn_iret hc rfl rfl (xretB rfl rfl (by decide))) hK
  · refine Rn_icT (tgt := 35) hc rfl rfl (by decide) (fun w => b5 w) ?_
    refine Rn_ms (σ' := (36, [some (vR 1), none, none, none, none, none, none, none, none, none, none], [vI 0], (G0, k4.2))) hc 1 rfl ?_
    cases e
    exact R_end (Rn_iret hc rfl rfl (xretB rfl rfl (by decide))) hK
def f_307_L229 (M : xM) (c1 : Int) (c9 : Int) (s0 : Int) : Option (Int × xM) :=
  if wr s0 = 0 then
    some (0, M)
  else
    (f_127 M).bind (fun k27 =>
    if wr k27.1 < 0 then
      some (0, k27.2)
    else
      (f_127 k27.2).bind (fun k29 =>
      if wr k29.1 < 0 then
        some (0, k29.2)
      else
        (f_119 k29.2 5).bind (fun k31 =>
        if wr k31 = wr c9 then
          (f_119 k29.2 3).bind (fun k33 =>
          if wr k33 = wr c1 then
            some (1, k29.2)
          else
            some (0, k29.2)
          )
        else
          some (0, k29.2)
        )
      )
    )
set_option maxRecDepth 100000 in
set_option maxHeartbeats 4000000 in
theorem t_307_L229 {rom : xRom} {d : Nat} {c1 : Int} {c9 : Int} {s0 : Int} {M : xM} {r : Int × xM} {out : Option xV × xH} (e : f_307_L229 M c1 c9 s0 = some r) (hK : (eIW out) r) : Rn rom (d + 7) 112 (229, [some (vR 1), some (vI c1), none, none, none, none, none, none, none, some (vI c9), none], [vI s0], (G0, M)) out := by
  have hc : xkall.getD 112 [] = xk_112 := rfl
  unfold f_307_L229 at e
  refine Rn_ms (σ' := (233, [some (vR 1), some (vI c1), none, none, none, none, none, none, none, some (vI c9), some (vI s0)], [vI s0], (G0, M))) hc 2 rfl ?_
  refine R_ite e (fun b26 e => ?_) (fun b26 e => ?_)
  · refine Rn_ifT (tgt := 273) hc rfl rfl (by decide) b26 ?_
    refine Rn_ms (σ' := (274, [some (vR 1), some (vI c1), none, none, none, none, none, none, none, some (vI c9), some (vI s0)], [vI 0], (G0, M))) hc 1 rfl ?_
    cases e
    exact R_end (Rn_iret hc rfl rfl (xretB rfl rfl (by decide))) hK
  · refine Rn_ifF hc rfl rfl (by decide) b26 ?_
    refine Rn_ms (σ' := (237, [some (vR 1), some (vI c1), none, none, none, none, none, none, none, some (vI c9), some (vI s0)], [vR 1], (G0, M))) hc 1 rfl ?_
    refine R_bind e (fun k27 hk27 e => ?_)
    refine Rn_cv hc rfl rfl (by decide) (ii := xi_97) rfl rfl rfl (tgc_1 : Tg _ = 10) (by decide) rfl (le := [some (vR 1), none]) rfl (v := some (vI k27.1)) (M' := k27.2) (t_127  (d := d + 1) hk27 rfl) ?_
    show Rn rom (d + 7) 112 (240, [some (vR 1), some (vI c1), none, none, none, none, none, none, none, some (vI c9), some (vI s0)], [vI k27.1], (G0, k27.2)) out
    refine R_ite e (fun b28 e => ?_) (fun b28 e => ?_)
    · refine Rn_ifT (tgt := 273) hc rfl rfl (by decide) b28 ?_
      refine Rn_ms (σ' := (274, [some (vR 1), some (vI c1), none, none, none, none, none, none, none, some (vI c9), some (vI s0)], [vI 0], (G0, k27.2))) hc 1 rfl ?_
      cases e
      exact R_end (Rn_iret hc rfl rfl (xretB rfl rfl (by decide))) hK
    · refine Rn_ifF hc rfl rfl (by decide) b28 ?_
      refine Rn_ms (σ' := (244, [some (vR 1), some (vI c1), none, none, none, none, none, none, none, some (vI c9), some (vI s0)], [vR 1], (G0, k27.2))) hc 1 rfl ?_
      refine R_bind e (fun k29 hk29 e => ?_)
      refine Rn_cv hc rfl rfl (by decide) (ii := xi_97) rfl rfl rfl (tgc_1 : Tg _ = 10) (by decide) rfl (le := [some (vR 1), none]) rfl (v := some (vI k29.1)) (M' := k29.2) (t_127  (d := d + 1) hk29 rfl) ?_
      show Rn rom (d + 7) 112 (247, [some (vR 1), some (vI c1), none, none, none, none, none, none, none, some (vI c9), some (vI s0)], [vI k29.1], (G0, k29.2)) out
      refine R_ite e (fun b30 e => ?_) (fun b30 e => ?_)
      · refine Rn_ifT (tgt := 273) hc rfl rfl (by decide) b30 ?_
        refine Rn_ms (σ' := (274, [some (vR 1), some (vI c1), none, none, none, none, none, none, none, some (vI c9), some (vI s0)], [vI 0], (G0, k29.2))) hc 1 rfl ?_
        cases e
        exact R_end (Rn_iret hc rfl rfl (xretB rfl rfl (by decide))) hK
      · refine Rn_ifF hc rfl rfl (by decide) b30 ?_
        refine Rn_ms (σ' := (252, [some (vR 1), some (vI c1), none, none, none, none, none, none, none, some (vI c9), some (vI s0)], [vI 5, vR 1], (G0, k29.2))) hc 2 rfl ?_
        refine R_bind e (fun k31 hk31 e => ?_)
        refine Rn_cv hc rfl rfl (by decide) (ii := xi_89) rfl rfl rfl (tgc_1 : Tg _ = 10) (by decide) rfl (le := [some (vR 1), some (vI 5)]) rfl (v := some (vI k31)) (M' := k29.2) (t_119  (d := d + 3) hk31 rfl) ?_
        refine Rn_ms (σ' := (257, [some (vR 1), some (vI c1), none, none, none, none, none, none, none, some (vI c9), some (vI s0)], [vI c9, vI k31], (G0, k29.2))) hc 1 rfl ?_
        refine R_ite e (fun b32 e => ?_) (fun b32 e => ?_)
        · refine Rn_icF hc rfl rfl (by decide) (fun w => w b32) ?_
          refine Rn_ms (σ' := (262, [some (vR 1), some (vI c1), none, none, none, none, none, none, none, some (vI c9), some (vI s0)], [vI 3, vR 1], (G0, k29.2))) hc 2 rfl ?_
          refine R_bind e (fun k33 hk33 e => ?_)
          refine Rn_cv hc rfl rfl (by decide) (ii := xi_89) rfl rfl rfl (tgc_1 : Tg _ = 10) (by decide) rfl (le := [some (vR 1), some (vI 3)]) rfl (v := some (vI k33)) (M' := k29.2) (t_119  (d := d + 3) hk33 rfl) ?_
          refine Rn_ms (σ' := (266, [some (vR 1), some (vI c1), none, none, none, none, none, none, none, some (vI c9), some (vI s0)], [vI c1, vI k33], (G0, k29.2))) hc 1 rfl ?_
          refine R_ite e (fun b34 e => ?_) (fun b34 e => ?_)
          · refine Rn_icF hc rfl rfl (by decide) (fun w => w b34) ?_
            refine Rn_ms (σ' := (274, [some (vR 1), some (vI c1), none, none, none, none, none, none, none, some (vI c9), some (vI s0)], [vI 1], (G0, k29.2))) hc 2 rfl ?_
            cases e
            exact R_end (Rn_iret hc rfl rfl (xretB rfl rfl (by decide))) hK
          · refine Rn_icT (tgt := 273) hc rfl rfl (by decide) (fun w => b34 w) ?_
            refine Rn_ms (σ' := (274, [some (vR 1), some (vI c1), none, none, none, none, none, none, none, some (vI c9), some (vI s0)], [vI 0], (G0, k29.2))) hc 1 rfl ?_
            cases e
            exact R_end (Rn_iret hc rfl rfl (xretB rfl rfl (by decide))) hK
        · refine Rn_icT (tgt := 273) hc rfl rfl (by decide) (fun w => b32 w) ?_
          refine Rn_ms (σ' := (274, [some (vR 1), some (vI c1), none, none, none, none, none, none, none, some (vI c9), some (vI s0)], [vI 0], (G0, k29.2))) hc 1 rfl ?_
          cases e
          exact R_end (Rn_iret hc rfl rfl (xretB rfl rfl (by decide))) hK
def f_307_L228 (M : xM) (c1 : Int) (c9 : Int) : Option (Int × xM) :=
  f_307_L229 M c1 c9 0
set_option maxRecDepth 100000 in
set_option maxHeartbeats 4000000 in
theorem t_307_L228 {rom : xRom} {d : Nat} {c1 : Int} {c9 : Int} {M : xM} {r : Int × xM} {out : Option xV × xH} (e : f_307_L228 M c1 c9 = some r) (hK : (eIW out) r) : Rn rom (d + 7) 112 (228, [some (vR 1), some (vI c1), none, none, none, none, none, none, none, some (vI c9), none], [], (G0, M)) out := by
  have hc : xkall.getD 112 [] = xk_112 := rfl
  unfold f_307_L228 at e
  refine Rn_ms (σ' := (229, [some (vR 1), some (vI c1), none, none, none, none, none, none, none, some (vI c9), none], [vI 0], (G0, M))) hc 1 rfl ?_
  exact Rn_weak (xle_s (xle_s (xle_s (xle_s (xle_s (xle_s (xle_s (xle_s (xle_s (xle_s (xle_s xle_0))))))))))) (t_307_L229  e hK)
def f_307_L163 (M : xM) (c1 : Int) (c3 : Int) (c6 : Int) (c7 : Int) (c8 : Int) (c9 : Int) (s0 : Int) : Option (Int × xM) :=
  if wr s0 = 0 then
    f_307_L228 M c1 c9
  else
    (f_103 M).bind (fun k35 =>
    if wr k35.1 = wr c1 then
      (f_119 k35.2 4).bind (fun k37 =>
      if wr k37 = wr c8 then
        (f_126 k35.2 c1 1).bind (fun k39 =>
        if wr k39.1 = wr c3 then
          (f_112 k39.2 (c1 - 1) 1).bind (fun k41 =>
          if wr k41 = wr c6 then
            (f_112 k39.2 (c1 - 1) 4).bind (fun k43 =>
            if wr k43 = wr c7 then
              f_307_L229 k39.2 c1 c9 1
            else
              f_307_L228 k39.2 c1 c9
            )
          else
            f_307_L228 k39.2 c1 c9
          )
        else
          f_307_L228 k39.2 c1 c9
        )
      else
        f_307_L228 k35.2 c1 c9
      )
    else
      f_307_L228 k35.2 c1 c9
    )
set_option maxRecDepth 100000 in
set_option maxHeartbeats 4000000 in
theorem t_307_L163 {rom : xRom} {d : Nat} {c1 : Int} {c3 : Int} {c6 : Int} {c7 : Int} {c8 : Int} {c9 : Int} {s0 : Int} {M : xM} {r : Int × xM} {out : Option xV × xH} (e : f_307_L163 M c1 c3 c6 c7 c8 c9 s0 = some r) (hK : (eIW out) r) : Rn rom (d + 7) 112 (163, [some (vR 1), some (vI c1), none, some (vI c3), none, none, some (vI c6), some (vI c7), some (vI c8), some (vI c9), none], [vI s0], (G0, M)) out := by
  have hc : xkall.getD 112 [] = xk_112 := rfl
  unfold f_307_L163 at e
  refine Rn_ms (σ' := (167, [some (vR 1), some (vI c1), none, some (vI c3), none, none, some (vI c6), some (vI c7), some (vI c8), some (vI c9), some (vI s0)], [vI s0], (G0, M))) hc 2 rfl ?_
  refine R_ite e (fun b25 e => ?_) (fun b25 e => ?_)
  · refine Rn_ifT (tgt := 228) hc rfl rfl (by decide) b25 ?_
    show Rn rom (d + 7) 112 (228, [some (vR 1), some (vI c1), none, some (vI c3), none, none, some (vI c6), some (vI c7), some (vI c8), some (vI c9), some (vI s0)], [], (G0, M)) out
    exact Rn_weak (xle_s (xle_s (xle_s (xle_n (xle_s (xle_s (xle_n (xle_n (xle_n (xle_s (xle_n xle_0))))))))))) (t_307_L228  e hK)
  · refine Rn_ifF hc rfl rfl (by decide) b25 ?_
    refine Rn_ms (σ' := (171, [some (vR 1), some (vI c1), none, some (vI c3), none, none, some (vI c6), some (vI c7), some (vI c8), some (vI c9), some (vI s0)], [vR 1], (G0, M))) hc 1 rfl ?_
    refine R_bind e (fun k35 hk35 e => ?_)
    refine Rn_cv hc rfl rfl (by decide) (ii := xi_80) rfl rfl rfl (tgc_1 : Tg _ = 10) (by decide) rfl (le := [some (vR 1)]) rfl (v := some (vI k35.1)) (M' := k35.2) (t_103  (d := d + 0) hk35 rfl) ?_
    refine Rn_ms (σ' := (175, [some (vR 1), some (vI c1), none, some (vI c3), none, none, some (vI c6), some (vI c7), some (vI c8), some (vI c9), some (vI s0)], [vI c1, vI k35.1], (G0, k35.2))) hc 1 rfl ?_
    refine R_ite e (fun b36 e => ?_) (fun b36 e => ?_)
    · refine Rn_icF hc rfl rfl (by decide) (fun w => w b36) ?_
      refine Rn_ms (σ' := (180, [some (vR 1), some (vI c1), none, some (vI c3), none, none, some (vI c6), some (vI c7), some (vI c8), some (vI c9), some (vI s0)], [vI 4, vR 1], (G0, k35.2))) hc 2 rfl ?_
      refine R_bind e (fun k37 hk37 e => ?_)
      refine Rn_cv hc rfl rfl (by decide) (ii := xi_89) rfl rfl rfl (tgc_1 : Tg _ = 10) (by decide) rfl (le := [some (vR 1), some (vI 4)]) rfl (v := some (vI k37)) (M' := k35.2) (t_119  (d := d + 3) hk37 rfl) ?_
      refine Rn_ms (σ' := (185, [some (vR 1), some (vI c1), none, some (vI c3), none, none, some (vI c6), some (vI c7), some (vI c8), some (vI c9), some (vI s0)], [vI c8, vI k37], (G0, k35.2))) hc 1 rfl ?_
      refine R_ite e (fun b38 e => ?_) (fun b38 e => ?_)
      · refine Rn_icF hc rfl rfl (by decide) (fun w => w b38) ?_
        refine Rn_ms (σ' := (191, [some (vR 1), some (vI c1), none, some (vI c3), none, none, some (vI c6), some (vI c7), some (vI c8), some (vI c9), some (vI s0)], [vI 1, vI c1, vR 1], (G0, k35.2))) hc 3 rfl ?_
        refine R_bind e (fun k39 hk39 e => ?_)
        refine Rn_cv hc rfl rfl (by decide) (ii := xi_96) rfl rfl rfl (tgc_1 : Tg _ = 10) (by decide) rfl (le := [some (vR 1), some (vI c1), some (vI 1)]) rfl (v := some (vI k39.1)) (M' := k39.2) (t_126  (d := d + 1) hk39 rfl) ?_
        refine Rn_ms (σ' := (195, [some (vR 1), some (vI c1), none, some (vI c3), none, none, some (vI c6), some (vI c7), some (vI c8), some (vI c9), some (vI s0)], [vI c3, vI k39.1], (G0, k39.2))) hc 1 rfl ?_
        refine R_ite e (fun b40 e => ?_) (fun b40 e => ?_)
        · refine Rn_icF hc rfl rfl (by decide) (fun w => w b40) ?_
          refine Rn_ms (σ' := (203, [some (vR 1), some (vI c1), none, some (vI c3), none, none, some (vI c6), some (vI c7), some (vI c8), some (vI c9), some (vI s0)], [vI 1, vI (c1 - 1), vR 1], (G0, k39.2))) hc 5 rfl ?_
          refine R_bind e (fun k41 hk41 e => ?_)
          refine Rn_cv hc rfl rfl (by decide) (ii := xi_84) rfl rfl rfl (tgc_1 : Tg _ = 10) (by decide) rfl (le := [some (vR 1), some (vI (c1 - 1)), some (vI 1), none]) rfl (v := some (vI k41)) (M' := k39.2) (t_112  (d := d + 3) hk41 rfl) ?_
          refine Rn_ms (σ' := (208, [some (vR 1), some (vI c1), none, some (vI c3), none, none, some (vI c6), some (vI c7), some (vI c8), some (vI c9), some (vI s0)], [vI c6, vI k41], (G0, k39.2))) hc 1 rfl ?_
          refine R_ite e (fun b42 e => ?_) (fun b42 e => ?_)
          · refine Rn_icF hc rfl rfl (by decide) (fun w => w b42) ?_
            refine Rn_ms (σ' := (216, [some (vR 1), some (vI c1), none, some (vI c3), none, none, some (vI c6), some (vI c7), some (vI c8), some (vI c9), some (vI s0)], [vI 4, vI (c1 - 1), vR 1], (G0, k39.2))) hc 5 rfl ?_
            refine R_bind e (fun k43 hk43 e => ?_)
            refine Rn_cv hc rfl rfl (by decide) (ii := xi_84) rfl rfl rfl (tgc_1 : Tg _ = 10) (by decide) rfl (le := [some (vR 1), some (vI (c1 - 1)), some (vI 4), none]) rfl (v := some (vI k43)) (M' := k39.2) (t_112  (d := d + 3) hk43 rfl) ?_
            refine Rn_ms (σ' := (221, [some (vR 1), some (vI c1), none, some (vI c3), none, none, some (vI c6), some (vI c7), some (vI c8), some (vI c9), some (vI s0)], [vI c7, vI k43], (G0, k39.2))) hc 1 rfl ?_
            refine R_ite e (fun b44 e => ?_) (fun b44 e => ?_)
            · refine Rn_icF hc rfl rfl (by decide) (fun w => w b44) ?_
              refine Rn_ms (σ' := (229, [some (vR 1), some (vI c1), none, some (vI c3), none, none, some (vI c6), some (vI c7), some (vI c8), some (vI c9), some (vI s0)], [vI 1], (G0, k39.2))) hc 2 rfl ?_
              exact Rn_weak (xle_s (xle_s (xle_s (xle_n (xle_s (xle_s (xle_n (xle_n (xle_n (xle_s (xle_n xle_0))))))))))) (t_307_L229  e hK)
            · refine Rn_icT (tgt := 228) hc rfl rfl (by decide) (fun w => b44 w) ?_
              show Rn rom (d + 7) 112 (228, [some (vR 1), some (vI c1), none, some (vI c3), none, none, some (vI c6), some (vI c7), some (vI c8), some (vI c9), some (vI s0)], [], (G0, k39.2)) out
              exact Rn_weak (xle_s (xle_s (xle_s (xle_n (xle_s (xle_s (xle_n (xle_n (xle_n (xle_s (xle_n xle_0))))))))))) (t_307_L228  e hK)
          · refine Rn_icT (tgt := 228) hc rfl rfl (by decide) (fun w => b42 w) ?_
            show Rn rom (d + 7) 112 (228, [some (vR 1), some (vI c1), none, some (vI c3), none, none, some (vI c6), some (vI c7), some (vI c8), some (vI c9), some (vI s0)], [], (G0, k39.2)) out
            exact Rn_weak (xle_s (xle_s (xle_s (xle_n (xle_s (xle_s (xle_n (xle_n (xle_n (xle_s (xle_n xle_0))))))))))) (t_307_L228  e hK)
        · refine Rn_icT (tgt := 228) hc rfl rfl (by decide) (fun w => b40 w) ?_
          show Rn rom (d + 7) 112 (228, [some (vR 1), some (vI c1), none, some (vI c3), none, none, some (vI c6), some (vI c7), some (vI c8), some (vI c9), some (vI s0)], [], (G0, k39.2)) out
          exact Rn_weak (xle_s (xle_s (xle_s (xle_n (xle_s (xle_s (xle_n (xle_n (xle_n (xle_s (xle_n xle_0))))))))))) (t_307_L228  e hK)
      · refine Rn_icT (tgt := 228) hc rfl rfl (by decide) (fun w => b38 w) ?_
        show Rn rom (d + 7) 112 (228, [some (vR 1), some (vI c1), none, some (vI c3), none, none, some (vI c6), some (vI c7), some (vI c8), some (vI c9), some (vI s0)], [], (G0, k35.2)) out
        exact Rn_weak (xle_s (xle_s (xle_s (xle_n (xle_s (xle_s (xle_n (xle_n (xle_n (xle_s (xle_n xle_0))))))))))) (t_307_L228  e hK)
    · refine Rn_icT (tgt := 228) hc rfl rfl (by decide) (fun w => b36 w) ?_
      show Rn rom (d + 7) 112 (228, [some (vR 1), some (vI c1), none, some (vI c3), none, none, some (vI c6), some (vI c7), some (vI c8), some (vI c9), some (vI s0)], [], (G0, k35.2)) out
      exact Rn_weak (xle_s (xle_s (xle_s (xle_n (xle_s (xle_s (xle_n (xle_n (xle_n (xle_s (xle_n xle_0))))))))))) (t_307_L228  e hK)
def f_307_L162 (M : xM) (c1 : Int) (c3 : Int) (c6 : Int) (c7 : Int) (c8 : Int) (c9 : Int) : Option (Int × xM) :=
  f_307_L163 M c1 c3 c6 c7 c8 c9 0
set_option maxRecDepth 100000 in
set_option maxHeartbeats 4000000 in
theorem t_307_L162 {rom : xRom} {d : Nat} {c1 : Int} {c3 : Int} {c6 : Int} {c7 : Int} {c8 : Int} {c9 : Int} {M : xM} {r : Int × xM} {out : Option xV × xH} (e : f_307_L162 M c1 c3 c6 c7 c8 c9 = some r) (hK : (eIW out) r) : Rn rom (d + 7) 112 (162, [some (vR 1), some (vI c1), none, some (vI c3), none, none, some (vI c6), some (vI c7), some (vI c8), some (vI c9), none], [], (G0, M)) out := by
  have hc : xkall.getD 112 [] = xk_112 := rfl
  unfold f_307_L162 at e
  refine Rn_ms (σ' := (163, [some (vR 1), some (vI c1), none, some (vI c3), none, none, some (vI c6), some (vI c7), some (vI c8), some (vI c9), none], [vI 0], (G0, M))) hc 1 rfl ?_
  exact Rn_weak (xle_s (xle_s (xle_s (xle_s (xle_s (xle_s (xle_s (xle_s (xle_s (xle_s (xle_s xle_0))))))))))) (t_307_L163  e hK)
/-- PedalLayersLaw.comesBack -/
def f_307 (M : xM) : Option (Int × xM) :=
  (f_119 M 3).bind (fun k1 =>
  (f_119 M 0).bind (fun k2 =>
  if wr k1 < 2 then
    f_307_L22 M
  else
    if wr k2 = 3 then
      f_307_L22 M
    else
      (f_126 M k1 1).bind (fun k7 =>
      (f_126 k7.2 (k1 - 1) 0).bind (fun k8 =>
      (f_126 k8.2 (k1 - 1) 1).bind (fun k9 =>
      (f_112 k9.2 (k1 - 1) 1).bind (fun k10 =>
      (f_112 k9.2 (k1 - 1) 4).bind (fun k11 =>
      (f_119 k9.2 4).bind (fun k12 =>
      (f_119 k9.2 5).bind (fun k13 =>
      (f_102 k9.2).bind (fun k14 =>
      if wr k14.1 = wr (k1 - 1) then
        (f_119 k14.2 4).bind (fun k16 =>
        if wr k16 = wr (k12 + 1) then
          (f_119 k14.2 1).bind (fun k18 =>
          if wr k18 = wr k8.1 then
            (f_126 k14.2 (k1 - 1) 1).bind (fun k20 =>
            if wr k20.1 = wr k9.1 then
              (f_119 k20.2 5).bind (fun k22 =>
              gd ((wr (2 * k8.1)) ≠ 0) (
              if wr k22 = wr ((wr k13).tmod (wr (2 * k8.1))) then
                f_307_L163 k20.2 k1 k7.1 k10 k11 k12 k13 1
              else
                f_307_L162 k20.2 k1 k7.1 k10 k11 k12 k13
              ))
            else
              f_307_L162 k20.2 k1 k7.1 k10 k11 k12 k13
            )
          else
            f_307_L162 k14.2 k1 k7.1 k10 k11 k12 k13
          )
        else
          f_307_L162 k14.2 k1 k7.1 k10 k11 k12 k13
        )
      else
        f_307_L162 k14.2 k1 k7.1 k10 k11 k12 k13
      ))))))))
  ))
set_option maxRecDepth 100000 in
set_option maxHeartbeats 4000000 in
theorem t_307 {rom : xRom} {d : Nat} {M : xM}  {r : Int × xM} {out : Option xV × xH} (e : f_307 M = some r) (hK : eIW out r) : Rn rom (d + 7) 112 (0, [some (vR 1), none, none, none, none, none, none, none, none, none, none], [], (G0, M)) out := by
  have hc : xkall.getD 112 [] = xk_112 := rfl
  unfold f_307 at e
  refine Rn_ms (σ' := (2, [some (vR 1), none, none, none, none, none, none, none, none, none, none], [vI 3, vR 1], (G0, M))) hc 2 rfl ?_
  refine R_bind e (fun k1 hk1 e => ?_)
  refine Rn_cv hc rfl rfl (by decide) (ii := xi_89) rfl rfl rfl (tgc_1 : Tg _ = 10) (by decide) rfl (le := [some (vR 1), some (vI 3)]) rfl (v := some (vI k1)) (M' := M) (t_119  (d := d + 3) hk1 rfl) ?_
  refine Rn_ms (σ' := (8, [some (vR 1), some (vI k1), none, none, none, none, none, none, none, none, none], [vI 0, vR 1], (G0, M))) hc 3 rfl ?_
  refine R_bind e (fun k2 hk2 e => ?_)
  refine Rn_cv hc rfl rfl (by decide) (ii := xi_89) rfl rfl rfl (tgc_1 : Tg _ = 10) (by decide) rfl (le := [some (vR 1), some (vI 0)]) rfl (v := some (vI k2)) (M' := M) (t_119  (d := d + 3) hk2 rfl) ?_
  refine Rn_ms (σ' := (14, [some (vR 1), some (vI k1), some (vI k2), none, none, none, none, none, none, none, none], [vI 2, vI k1], (G0, M))) hc 3 rfl ?_
  refine R_ite e (fun b3 e => ?_) (fun b3 e => ?_)
  · refine Rn_icT (tgt := 22) hc rfl rfl (by decide) b3 ?_
    show Rn rom (d + 7) 112 (22, [some (vR 1), some (vI k1), some (vI k2), none, none, none, none, none, none, none, none], [], (G0, M)) out
    exact Rn_weak (xle_s (xle_n (xle_n (xle_s (xle_s (xle_s (xle_s (xle_s (xle_s (xle_s (xle_s xle_0))))))))))) (t_307_L22  e hK)
  · refine Rn_icF hc rfl rfl (by decide) b3 ?_
    refine Rn_ms (σ' := (19, [some (vR 1), some (vI k1), some (vI k2), none, none, none, none, none, none, none, none], [vI 3, vI k2], (G0, M))) hc 2 rfl ?_
    refine R_ite e (fun b6 e => ?_) (fun b6 e => ?_)
    · refine Rn_icF hc rfl rfl (by decide) (fun w => w b6) ?_
      show Rn rom (d + 7) 112 (22, [some (vR 1), some (vI k1), some (vI k2), none, none, none, none, none, none, none, none], [], (G0, M)) out
      exact Rn_weak (xle_s (xle_n (xle_n (xle_s (xle_s (xle_s (xle_s (xle_s (xle_s (xle_s (xle_s xle_0))))))))))) (t_307_L22  e hK)
    · refine Rn_icT (tgt := 37) hc rfl rfl (by decide) (fun w => b6 w) ?_
      refine Rn_ms (σ' := (40, [some (vR 1), some (vI k1), some (vI k2), none, none, none, none, none, none, none, none], [vI 1, vI k1, vR 1], (G0, M))) hc 3 rfl ?_
      refine R_bind e (fun k7 hk7 e => ?_)
      refine Rn_cv hc rfl rfl (by decide) (ii := xi_96) rfl rfl rfl (tgc_1 : Tg _ = 10) (by decide) rfl (le := [some (vR 1), some (vI k1), some (vI 1)]) rfl (v := some (vI k7.1)) (M' := k7.2) (t_126  (d := d + 1) hk7 rfl) ?_
      refine Rn_ms (σ' := (48, [some (vR 1), some (vI k1), some (vI k2), some (vI k7.1), none, none, none, none, none, none, none], [vI (k1 - 1), vR 1], (G0, k7.2))) hc 5 rfl ?_
      refine Rn_ms (σ' := (49, [some (vR 1), some (vI k1), some (vI k2), some (vI k7.1), none, none, none, none, none, none, none], [vI 0, vI (k1 - 1), vR 1], (G0, k7.2))) hc 1 rfl ?_
      refine R_bind e (fun k8 hk8 e => ?_)
      refine Rn_cv hc rfl rfl (by decide) (ii := xi_96) rfl rfl rfl (tgc_1 : Tg _ = 10) (by decide) rfl (le := [some (vR 1), some (vI (k1 - 1)), some (vI 0)]) rfl (v := some (vI k8.1)) (M' := k8.2) (t_126  (d := d + 1) hk8 rfl) ?_
      refine Rn_ms (σ' := (58, [some (vR 1), some (vI k1), some (vI k2), some (vI k7.1), some (vI k8.1), none, none, none, none, none, none], [vI (k1 - 1), vR 1], (G0, k8.2))) hc 5 rfl ?_
      refine Rn_ms (σ' := (59, [some (vR 1), some (vI k1), some (vI k2), some (vI k7.1), some (vI k8.1), none, none, none, none, none, none], [vI 1, vI (k1 - 1), vR 1], (G0, k8.2))) hc 1 rfl ?_
      refine R_bind e (fun k9 hk9 e => ?_)
      refine Rn_cv hc rfl rfl (by decide) (ii := xi_96) rfl rfl rfl (tgc_1 : Tg _ = 10) (by decide) rfl (le := [some (vR 1), some (vI (k1 - 1)), some (vI 1)]) rfl (v := some (vI k9.1)) (M' := k9.2) (t_126  (d := d + 1) hk9 rfl) ?_
      refine Rn_ms (σ' := (68, [some (vR 1), some (vI k1), some (vI k2), some (vI k7.1), some (vI k8.1), some (vI k9.1), none, none, none, none, none], [vI (k1 - 1), vR 1], (G0, k9.2))) hc 5 rfl ?_
      refine Rn_ms (σ' := (69, [some (vR 1), some (vI k1), some (vI k2), some (vI k7.1), some (vI k8.1), some (vI k9.1), none, none, none, none, none], [vI 1, vI (k1 - 1), vR 1], (G0, k9.2))) hc 1 rfl ?_
      refine R_bind e (fun k10 hk10 e => ?_)
      refine Rn_cv hc rfl rfl (by decide) (ii := xi_84) rfl rfl rfl (tgc_1 : Tg _ = 10) (by decide) rfl (le := [some (vR 1), some (vI (k1 - 1)), some (vI 1), none]) rfl (v := some (vI k10)) (M' := k9.2) (t_112  (d := d + 3) hk10 rfl) ?_
      refine Rn_ms (σ' := (78, [some (vR 1), some (vI k1), some (vI k2), some (vI k7.1), some (vI k8.1), some (vI k9.1), some (vI k10), none, none, none, none], [vI (k1 - 1), vR 1], (G0, k9.2))) hc 5 rfl ?_
      refine Rn_ms (σ' := (79, [some (vR 1), some (vI k1), some (vI k2), some (vI k7.1), some (vI k8.1), some (vI k9.1), some (vI k10), none, none, none, none], [vI 4, vI (k1 - 1), vR 1], (G0, k9.2))) hc 1 rfl ?_
      refine R_bind e (fun k11 hk11 e => ?_)
      refine Rn_cv hc rfl rfl (by decide) (ii := xi_84) rfl rfl rfl (tgc_1 : Tg _ = 10) (by decide) rfl (le := [some (vR 1), some (vI (k1 - 1)), some (vI 4), none]) rfl (v := some (vI k11)) (M' := k9.2) (t_112  (d := d + 3) hk11 rfl) ?_
      refine Rn_ms (σ' := (86, [some (vR 1), some (vI k1), some (vI k2), some (vI k7.1), some (vI k8.1), some (vI k9.1), some (vI k10), some (vI k11), none, none, none], [vI 4, vR 1], (G0, k9.2))) hc 3 rfl ?_
      refine R_bind e (fun k12 hk12 e => ?_)
      refine Rn_cv hc rfl rfl (by decide) (ii := xi_89) rfl rfl rfl (tgc_1 : Tg _ = 10) (by decide) rfl (le := [some (vR 1), some (vI 4)]) rfl (v := some (vI k12)) (M' := k9.2) (t_119  (d := d + 3) hk12 rfl) ?_
      refine Rn_ms (σ' := (93, [some (vR 1), some (vI k1), some (vI k2), some (vI k7.1), some (vI k8.1), some (vI k9.1), some (vI k10), some (vI k11), some (vI k12), none, none], [vI 5, vR 1], (G0, k9.2))) hc 3 rfl ?_
      refine R_bind e (fun k13 hk13 e => ?_)
      refine Rn_cv hc rfl rfl (by decide) (ii := xi_89) rfl rfl rfl (tgc_1 : Tg _ = 10) (by decide) rfl (le := [some (vR 1), some (vI 5)]) rfl (v := some (vI k13)) (M' := k9.2) (t_119  (d := d + 3) hk13 rfl) ?_
      refine Rn_ms (σ' := (99, [some (vR 1), some (vI k1), some (vI k2), some (vI k7.1), some (vI k8.1), some (vI k9.1), some (vI k10), some (vI k11), some (vI k12), some (vI k13), none], [vR 1], (G0, k9.2))) hc 2 rfl ?_
      refine R_bind e (fun k14 hk14 e => ?_)
      refine Rn_cv hc rfl rfl (by decide) (ii := xi_79) rfl rfl rfl (tgc_1 : Tg _ = 10) (by decide) rfl (le := [some (vR 1)]) rfl (v := some (vI k14.1)) (M' := k14.2) (t_102  (d := d + 0) hk14 rfl) ?_
      refine Rn_ms (σ' := (105, [some (vR 1), some (vI k1), some (vI k2), some (vI k7.1), some (vI k8.1), some (vI k9.1), some (vI k10), some (vI k11), some (vI k12), some (vI k13), none], [vI (k1 - 1), vI k14.1], (G0, k14.2))) hc 3 rfl ?_
      refine R_ite e (fun b15 e => ?_) (fun b15 e => ?_)
      · refine Rn_icF hc rfl rfl (by decide) (fun w => w b15) ?_
        refine Rn_ms (σ' := (110, [some (vR 1), some (vI k1), some (vI k2), some (vI k7.1), some (vI k8.1), some (vI k9.1), some (vI k10), some (vI k11), some (vI k12), some (vI k13), none], [vI 4, vR 1], (G0, k14.2))) hc 2 rfl ?_
        refine R_bind e (fun k16 hk16 e => ?_)
        refine Rn_cv hc rfl rfl (by decide) (ii := xi_89) rfl rfl rfl (tgc_1 : Tg _ = 10) (by decide) rfl (le := [some (vR 1), some (vI 4)]) rfl (v := some (vI k16)) (M' := k14.2) (t_119  (d := d + 3) hk16 rfl) ?_
        refine Rn_ms (σ' := (117, [some (vR 1), some (vI k1), some (vI k2), some (vI k7.1), some (vI k8.1), some (vI k9.1), some (vI k10), some (vI k11), some (vI k12), some (vI k13), none], [vI (k12 + 1), vI k16], (G0, k14.2))) hc 3 rfl ?_
        refine R_ite e (fun b17 e => ?_) (fun b17 e => ?_)
        · refine Rn_icF hc rfl rfl (by decide) (fun w => w b17) ?_
          refine Rn_ms (σ' := (122, [some (vR 1), some (vI k1), some (vI k2), some (vI k7.1), some (vI k8.1), some (vI k9.1), some (vI k10), some (vI k11), some (vI k12), some (vI k13), none], [vI 1, vR 1], (G0, k14.2))) hc 2 rfl ?_
          refine R_bind e (fun k18 hk18 e => ?_)
          refine Rn_cv hc rfl rfl (by decide) (ii := xi_89) rfl rfl rfl (tgc_1 : Tg _ = 10) (by decide) rfl (le := [some (vR 1), some (vI 1)]) rfl (v := some (vI k18)) (M' := k14.2) (t_119  (d := d + 3) hk18 rfl) ?_
          refine Rn_ms (σ' := (127, [some (vR 1), some (vI k1), some (vI k2), some (vI k7.1), some (vI k8.1), some (vI k9.1), some (vI k10), some (vI k11), some (vI k12), some (vI k13), none], [vI k8.1, vI k18], (G0, k14.2))) hc 1 rfl ?_
          refine R_ite e (fun b19 e => ?_) (fun b19 e => ?_)
          · refine Rn_icF hc rfl rfl (by decide) (fun w => w b19) ?_
            refine Rn_ms (σ' := (135, [some (vR 1), some (vI k1), some (vI k2), some (vI k7.1), some (vI k8.1), some (vI k9.1), some (vI k10), some (vI k11), some (vI k12), some (vI k13), none], [vI 1, vI (k1 - 1), vR 1], (G0, k14.2))) hc 5 rfl ?_
            refine R_bind e (fun k20 hk20 e => ?_)
            refine Rn_cv hc rfl rfl (by decide) (ii := xi_96) rfl rfl rfl (tgc_1 : Tg _ = 10) (by decide) rfl (le := [some (vR 1), some (vI (k1 - 1)), some (vI 1)]) rfl (v := some (vI k20.1)) (M' := k20.2) (t_126  (d := d + 1) hk20 rfl) ?_
            refine Rn_ms (σ' := (140, [some (vR 1), some (vI k1), some (vI k2), some (vI k7.1), some (vI k8.1), some (vI k9.1), some (vI k10), some (vI k11), some (vI k12), some (vI k13), none], [vI k9.1, vI k20.1], (G0, k20.2))) hc 1 rfl ?_
            refine R_ite e (fun b21 e => ?_) (fun b21 e => ?_)
            · refine Rn_icF hc rfl rfl (by decide) (fun w => w b21) ?_
              refine Rn_ms (σ' := (145, [some (vR 1), some (vI k1), some (vI k2), some (vI k7.1), some (vI k8.1), some (vI k9.1), some (vI k10), some (vI k11), some (vI k12), some (vI k13), none], [vI 5, vR 1], (G0, k20.2))) hc 2 rfl ?_
              refine R_bind e (fun k22 hk22 e => ?_)
              refine Rn_cv hc rfl rfl (by decide) (ii := xi_89) rfl rfl rfl (tgc_1 : Tg _ = 10) (by decide) rfl (le := [some (vR 1), some (vI 5)]) rfl (v := some (vI k22)) (M' := k20.2) (t_119  (d := d + 3) hk22 rfl) ?_
              refine Rn_ms (σ' := (154, [some (vR 1), some (vI k1), some (vI k2), some (vI k7.1), some (vI k8.1), some (vI k9.1), some (vI k10), some (vI k11), some (vI k12), some (vI k13), none], [vI (2 * k8.1), vI k13, vI k22], (G0, k20.2))) hc 4 rfl ?_
              refine R_gd e (fun g23 e => ?_)
              refine Rn_rem hc rfl ⟨rfl, rfl⟩ (z' := (wr (2 * k8.1))) rfl g23 ?_
              show Rn rom (d + 7) 112 (155, [some (vR 1), some (vI k1), some (vI k2), some (vI k7.1), some (vI k8.1), some (vI k9.1), some (vI k10), some (vI k11), some (vI k12), some (vI k13), none], [vI ((wr k13).tmod (wr (2 * k8.1))), vI k22], (G0, k20.2)) out
              refine R_ite e (fun b24 e => ?_) (fun b24 e => ?_)
              · refine Rn_icF hc rfl rfl (by decide) (fun w => w b24) ?_
                refine Rn_ms (σ' := (163, [some (vR 1), some (vI k1), some (vI k2), some (vI k7.1), some (vI k8.1), some (vI k9.1), some (vI k10), some (vI k11), some (vI k12), some (vI k13), none], [vI 1], (G0, k20.2))) hc 2 rfl ?_
                exact Rn_weak (xle_s (xle_s (xle_n (xle_s (xle_n (xle_n (xle_s (xle_s (xle_s (xle_s (xle_s xle_0))))))))))) (t_307_L163  e hK)
              · refine Rn_icT (tgt := 162) hc rfl rfl (by decide) (fun w => b24 w) ?_
                show Rn rom (d + 7) 112 (162, [some (vR 1), some (vI k1), some (vI k2), some (vI k7.1), some (vI k8.1), some (vI k9.1), some (vI k10), some (vI k11), some (vI k12), some (vI k13), none], [], (G0, k20.2)) out
                exact Rn_weak (xle_s (xle_s (xle_n (xle_s (xle_n (xle_n (xle_s (xle_s (xle_s (xle_s (xle_s xle_0))))))))))) (t_307_L162  e hK)
            · refine Rn_icT (tgt := 162) hc rfl rfl (by decide) (fun w => b21 w) ?_
              show Rn rom (d + 7) 112 (162, [some (vR 1), some (vI k1), some (vI k2), some (vI k7.1), some (vI k8.1), some (vI k9.1), some (vI k10), some (vI k11), some (vI k12), some (vI k13), none], [], (G0, k20.2)) out
              exact Rn_weak (xle_s (xle_s (xle_n (xle_s (xle_n (xle_n (xle_s (xle_s (xle_s (xle_s (xle_s xle_0))))))))))) (t_307_L162  e hK)
          · refine Rn_icT (tgt := 162) hc rfl rfl (by decide) (fun w => b19 w) ?_
            show Rn rom (d + 7) 112 (162, [some (vR 1), some (vI k1), some (vI k2), some (vI k7.1), some (vI k8.1), some (vI k9.1), some (vI k10), some (vI k11), some (vI k12), some (vI k13), none], [], (G0, k14.2)) out
            exact Rn_weak (xle_s (xle_s (xle_n (xle_s (xle_n (xle_n (xle_s (xle_s (xle_s (xle_s (xle_s xle_0))))))))))) (t_307_L162  e hK)
        · refine Rn_icT (tgt := 162) hc rfl rfl (by decide) (fun w => b17 w) ?_
          show Rn rom (d + 7) 112 (162, [some (vR 1), some (vI k1), some (vI k2), some (vI k7.1), some (vI k8.1), some (vI k9.1), some (vI k10), some (vI k11), some (vI k12), some (vI k13), none], [], (G0, k14.2)) out
          exact Rn_weak (xle_s (xle_s (xle_n (xle_s (xle_n (xle_n (xle_s (xle_s (xle_s (xle_s (xle_s xle_0))))))))))) (t_307_L162  e hK)
      · refine Rn_icT (tgt := 162) hc rfl rfl (by decide) (fun w => b15 w) ?_
        show Rn rom (d + 7) 112 (162, [some (vR 1), some (vI k1), some (vI k2), some (vI k7.1), some (vI k8.1), some (vI k9.1), some (vI k10), some (vI k11), some (vI k12), some (vI k13), none], [], (G0, k14.2)) out
        exact Rn_weak (xle_s (xle_s (xle_n (xle_s (xle_n (xle_n (xle_s (xle_s (xle_s (xle_s (xle_s xle_0))))))))))) (t_307_L162  e hK)
def f_308_L106 (M : xM) (c1 : Int) (c2 : Int) (c3 : Int) (c4 : Int) : Option (Int × xM) :=
  if wr c3 = 2 then
    if wr c4 = 3 then
      (f_129 M).bind (fun k11 =>
      if wr k11.1 = 2 then
        (f_125 k11.2).bind (fun k13 =>
        if wr k13 = wr c1 then
          (f_119 k11.2 1).bind (fun k15 =>
          if wr k15 = wr c2 then
            some (1, k11.2)
          else
            some (0, k11.2)
          )
        else
          some (0, k11.2)
        )
      else
        some (0, k11.2)
      )
    else
      some (0, M)
  else
    some (0, M)
set_option maxRecDepth 100000 in
set_option maxHeartbeats 4000000 in
theorem t_308_L106 {rom : xRom} {d : Nat} {c1 : Int} {c2 : Int} {c3 : Int} {c4 : Int} {M : xM} {r : Int × xM} {out : Option xV × xH} (e : f_308_L106 M c1 c2 c3 c4 = some r) (hK : (eIW out) r) : Rn rom (d + 7) 113 (106, [some (vR 1), some (vI c1), some (vI c2), some (vI c3), some (vI c4), none], [], (G0, M)) out := by
  have hc : xkall.getD 113 [] = xk_113 := rfl
  unfold f_308_L106 at e
  refine Rn_ms (σ' := (108, [some (vR 1), some (vI c1), some (vI c2), some (vI c3), some (vI c4), none], [vI 2, vI c3], (G0, M))) hc 2 rfl ?_
  refine R_ite e (fun b9 e => ?_) (fun b9 e => ?_)
  · refine Rn_icF hc rfl rfl (by decide) (fun w => w b9) ?_
    refine Rn_ms (σ' := (114, [some (vR 1), some (vI c1), some (vI c2), some (vI c3), some (vI c4), none], [vI 3, vI c4], (G0, M))) hc 2 rfl ?_
    refine R_ite e (fun b10 e => ?_) (fun b10 e => ?_)
    · refine Rn_icF hc rfl rfl (by decide) (fun w => w b10) ?_
      refine Rn_ms (σ' := (118, [some (vR 1), some (vI c1), some (vI c2), some (vI c3), some (vI c4), none], [vR 1], (G0, M))) hc 1 rfl ?_
      refine R_bind e (fun k11 hk11 e => ?_)
      refine Rn_cv hc rfl rfl (by decide) (ii := xi_99) rfl rfl rfl (tgc_1 : Tg _ = 10) (by decide) rfl (le := [some (vR 1)]) rfl (v := some (vI k11.1)) (M' := k11.2) (t_129  (d := d + 0) hk11 rfl) ?_
      refine Rn_ms (σ' := (122, [some (vR 1), some (vI c1), some (vI c2), some (vI c3), some (vI c4), none], [vI 2, vI k11.1], (G0, k11.2))) hc 1 rfl ?_
      refine R_ite e (fun b12 e => ?_) (fun b12 e => ?_)
      · refine Rn_icF hc rfl rfl (by decide) (fun w => w b12) ?_
        refine Rn_ms (σ' := (126, [some (vR 1), some (vI c1), some (vI c2), some (vI c3), some (vI c4), none], [vR 1], (G0, k11.2))) hc 1 rfl ?_
        refine R_bind e (fun k13 hk13 e => ?_)
        refine Rn_cv hc rfl rfl (by decide) (ii := xi_95) rfl rfl rfl (tgc_1 : Tg _ = 10) (by decide) rfl (le := [some (vR 1), none, none]) rfl (v := some (vI k13)) (M' := k11.2) (t_125  (d := d + 2) hk13 rfl) ?_
        refine Rn_ms (σ' := (130, [some (vR 1), some (vI c1), some (vI c2), some (vI c3), some (vI c4), none], [vI c1, vI k13], (G0, k11.2))) hc 1 rfl ?_
        refine R_ite e (fun b14 e => ?_) (fun b14 e => ?_)
        · refine Rn_icF hc rfl rfl (by decide) (fun w => w b14) ?_
          refine Rn_ms (σ' := (135, [some (vR 1), some (vI c1), some (vI c2), some (vI c3), some (vI c4), none], [vI 1, vR 1], (G0, k11.2))) hc 2 rfl ?_
          refine R_bind e (fun k15 hk15 e => ?_)
          refine Rn_cv hc rfl rfl (by decide) (ii := xi_89) rfl rfl rfl (tgc_1 : Tg _ = 10) (by decide) rfl (le := [some (vR 1), some (vI 1)]) rfl (v := some (vI k15)) (M' := k11.2) (t_119  (d := d + 3) hk15 rfl) ?_
          refine Rn_ms (σ' := (139, [some (vR 1), some (vI c1), some (vI c2), some (vI c3), some (vI c4), none], [vI c2, vI k15], (G0, k11.2))) hc 1 rfl ?_
          refine R_ite e (fun b16 e => ?_) (fun b16 e => ?_)
          · refine Rn_icF hc rfl rfl (by decide) (fun w => w b16) ?_
            refine Rn_ms (σ' := (147, [some (vR 1), some (vI c1), some (vI c2), some (vI c3), some (vI c4), none], [vI 1], (G0, k11.2))) hc 2 rfl ?_
            cases e
            exact R_end (Rn_iret hc rfl rfl (xretB rfl rfl (by decide))) hK
          · refine Rn_icT (tgt := 146) hc rfl rfl (by decide) (fun w => b16 w) ?_
            refine Rn_ms (σ' := (147, [some (vR 1), some (vI c1), some (vI c2), some (vI c3), some (vI c4), none], [vI 0], (G0, k11.2))) hc 1 rfl ?_
            cases e
            exact R_end (Rn_iret hc rfl rfl (xretB rfl rfl (by decide))) hK
        · refine Rn_icT (tgt := 146) hc rfl rfl (by decide) (fun w => b14 w) ?_
          refine Rn_ms (σ' := (147, [some (vR 1), some (vI c1), some (vI c2), some (vI c3), some (vI c4), none], [vI 0], (G0, k11.2))) hc 1 rfl ?_
          cases e
          exact R_end (Rn_iret hc rfl rfl (xretB rfl rfl (by decide))) hK
      · refine Rn_icT (tgt := 146) hc rfl rfl (by decide) (fun w => b12 w) ?_
        refine Rn_ms (σ' := (147, [some (vR 1), some (vI c1), some (vI c2), some (vI c3), some (vI c4), none], [vI 0], (G0, k11.2))) hc 1 rfl ?_
        cases e
        exact R_end (Rn_iret hc rfl rfl (xretB rfl rfl (by decide))) hK
    · refine Rn_icT (tgt := 146) hc rfl rfl (by decide) (fun w => b10 w) ?_
      refine Rn_ms (σ' := (147, [some (vR 1), some (vI c1), some (vI c2), some (vI c3), some (vI c4), none], [vI 0], (G0, M))) hc 1 rfl ?_
      cases e
      exact R_end (Rn_iret hc rfl rfl (xretB rfl rfl (by decide))) hK
  · refine Rn_icT (tgt := 146) hc rfl rfl (by decide) (fun w => b9 w) ?_
    refine Rn_ms (σ' := (147, [some (vR 1), some (vI c1), some (vI c2), some (vI c3), some (vI c4), none], [vI 0], (G0, M))) hc 1 rfl ?_
    cases e
    exact R_end (Rn_iret hc rfl rfl (xretB rfl rfl (by decide))) hK
def f_308_L80 (M : xM) (c1 : Int) (c2 : Int) (c3 : Int) (c4 : Int) (c5 : Int) (s0 : Int) : Option ((Int × Int × xM) ⊕ (Int × xM)) :=
  if wr c1 ≤ 0 then
    if wr s0 = 0 then
      some (.inl (c4, (c5 + 1), M))
    else
      some (.inr ((0, M)))
  else
    if wr c4 < wr c1 then
      if wr s0 = 0 then
        some (.inl (c4, (c5 + 1), M))
      else
        some (.inr ((0, M)))
    else
      if wr s0 = 1 then
        some (.inl (c4, (c5 + 1), M))
      else
        some (.inr ((0, M)))
set_option maxRecDepth 100000 in
set_option maxHeartbeats 4000000 in
theorem t_308_L80 {rom : xRom} {d : Nat} {c1 : Int} {c2 : Int} {c3 : Int} {c4 : Int} {c5 : Int} {s0 : Int} {M : xM} {r : (Int × Int × xM) ⊕ (Int × xM)} {out : Option xV × xH} (e : f_308_L80 M c1 c2 c3 c4 c5 s0 = some r) (hK : ((Sum.elim (fun s => Rn rom (d + 7) 113 (42, [some (vR 1), some (vI c1), some (vI c2), some (vI c3), some (vI s.1), some (vI s.2.1)], [], (G0, s.2.2)) out) (eIW out))) r) : Rn rom (d + 7) 113 (80, [some (vR 1), some (vI c1), some (vI c2), some (vI c3), some (vI c4), some (vI c5)], [vI s0], (G0, M)) out := by
  have hc : xkall.getD 113 [] = xk_113 := rfl
  unfold f_308_L80 at e
  refine Rn_ms (σ' := (81, [some (vR 1), some (vI c1), some (vI c2), some (vI c3), some (vI c4), some (vI c5)], [vI c1, vI s0], (G0, M))) hc 1 rfl ?_
  refine R_ite e (fun b21 e => ?_) (fun b21 e => ?_)
  · refine Rn_ifT (tgt := 94) hc rfl rfl (by decide) b21 ?_
    refine Rn_ms (σ' := (95, [some (vR 1), some (vI c1), some (vI c2), some (vI c3), some (vI c4), some (vI c5)], [vI 0, vI s0], (G0, M))) hc 1 rfl ?_
    refine R_ite e (fun b22 e => ?_) (fun b22 e => ?_)
    · refine Rn_icT (tgt := 100) hc rfl rfl (by decide) b22 ?_
      refine Rn_ms (σ' := (42, [some (vR 1), some (vI c1), some (vI c2), some (vI c3), some (vI c4), some (vI (c5 + 1))], [], (G0, M))) hc 2 rfl ?_
      cases e
      exact Rn_weak (xle_s (xle_s (xle_s (xle_s (xle_s (xle_s xle_0)))))) hK
    · refine Rn_icF hc rfl rfl (by decide) b22 ?_
      refine Rn_ms (σ' := (99, [some (vR 1), some (vI c1), some (vI c2), some (vI c3), some (vI c4), some (vI c5)], [vI 0], (G0, M))) hc 1 rfl ?_
      cases e
      exact R_end (Rn_iret hc rfl rfl (xretB rfl rfl (by decide))) hK
  · refine Rn_ifF hc rfl rfl (by decide) b21 ?_
    refine Rn_ms (σ' := (87, [some (vR 1), some (vI c1), some (vI c2), some (vI c3), some (vI c4), some (vI c5)], [vI c1, vI c4, vI s0], (G0, M))) hc 2 rfl ?_
    refine R_ite e (fun b23 e => ?_) (fun b23 e => ?_)
    · refine Rn_icT (tgt := 94) hc rfl rfl (by decide) b23 ?_
      refine Rn_ms (σ' := (95, [some (vR 1), some (vI c1), some (vI c2), some (vI c3), some (vI c4), some (vI c5)], [vI 0, vI s0], (G0, M))) hc 1 rfl ?_
      refine R_ite e (fun b24 e => ?_) (fun b24 e => ?_)
      · refine Rn_icT (tgt := 100) hc rfl rfl (by decide) b24 ?_
        refine Rn_ms (σ' := (42, [some (vR 1), some (vI c1), some (vI c2), some (vI c3), some (vI c4), some (vI (c5 + 1))], [], (G0, M))) hc 2 rfl ?_
        cases e
        exact Rn_weak (xle_s (xle_s (xle_s (xle_s (xle_s (xle_s xle_0)))))) hK
      · refine Rn_icF hc rfl rfl (by decide) b24 ?_
        refine Rn_ms (σ' := (99, [some (vR 1), some (vI c1), some (vI c2), some (vI c3), some (vI c4), some (vI c5)], [vI 0], (G0, M))) hc 1 rfl ?_
        cases e
        exact R_end (Rn_iret hc rfl rfl (xretB rfl rfl (by decide))) hK
    · refine Rn_icF hc rfl rfl (by decide) b23 ?_
      refine Rn_ms (σ' := (95, [some (vR 1), some (vI c1), some (vI c2), some (vI c3), some (vI c4), some (vI c5)], [vI 1, vI s0], (G0, M))) hc 2 rfl ?_
      refine R_ite e (fun b25 e => ?_) (fun b25 e => ?_)
      · refine Rn_icT (tgt := 100) hc rfl rfl (by decide) b25 ?_
        refine Rn_ms (σ' := (42, [some (vR 1), some (vI c1), some (vI c2), some (vI c3), some (vI c4), some (vI (c5 + 1))], [], (G0, M))) hc 2 rfl ?_
        cases e
        exact Rn_weak (xle_s (xle_s (xle_s (xle_s (xle_s (xle_s xle_0)))))) hK
      · refine Rn_icF hc rfl rfl (by decide) b25 ?_
        refine Rn_ms (σ' := (99, [some (vR 1), some (vI c1), some (vI c2), some (vI c3), some (vI c4), some (vI c5)], [vI 0], (G0, M))) hc 1 rfl ?_
        cases e
        exact R_end (Rn_iret hc rfl rfl (xretB rfl rfl (by decide))) hK
def f_308_L42b (c1 : Int) (c2 : Int) (c3 : Int) (v4 : Int) (v5 : Int) (M : xM) : Option ((Int × Int × xM) ⊕ (Int × xM)) :=
  if 396 ≤ wr v5 then
    (f_308_L106 M c1 c2 c3 v4).bind (fun o => some (.inr (o)))
  else
    if 3 ≤ wr v4 then
      (f_308_L106 M c1 c2 c3 v4).bind (fun o => some (.inr (o)))
    else
      (f_101 M 1).bind (fun k18 =>
      (f_116 k18.2).bind (fun k19 =>
      if wr k19.1 = (-4) then
        f_308_L80 k19.2 c1 c2 c3 (v4 + k18.1) v5 1
      else
        f_308_L80 k19.2 c1 c2 c3 (v4 + k18.1) v5 0
      ))
set_option maxRecDepth 100000 in
set_option maxHeartbeats 4000000 in
theorem t_308_L42b {rom : xRom} {d : Nat} {c1 : Int} {c2 : Int} {c3 : Int} {v4 : Int} {v5 : Int} {M : xM} {r : (Int × Int × xM) ⊕ (Int × xM)} {out : Option xV × xH} (e : f_308_L42b c1 c2 c3 v4 v5 M = some r) (hK : ((Sum.elim (fun s => Rn rom (d + 7) 113 (42, [some (vR 1), some (vI c1), some (vI c2), some (vI c3), some (vI s.1), some (vI s.2.1)], [], (G0, s.2.2)) out) (eIW out))) r) : Rn rom (d + 7) 113 (42, [some (vR 1), some (vI c1), some (vI c2), some (vI c3), some (vI v4), some (vI v5)], [], (G0, M)) out := by
  have hc : xkall.getD 113 [] = xk_113 := rfl
  unfold f_308_L42b at e
  refine Rn_ms (σ' := (47, [some (vR 1), some (vI c1), some (vI c2), some (vI c3), some (vI v4), some (vI v5)], [vI 396, vI v5], (G0, M))) hc 2 rfl ?_
  refine R_ite e (fun b8 e => ?_) (fun b8 e => ?_)
  · refine Rn_icT (tgt := 106) hc rfl rfl (by decide) b8 ?_
    show Rn rom (d + 7) 113 (106, [some (vR 1), some (vI c1), some (vI c2), some (vI c3), some (vI v4), some (vI v5)], [], (G0, M)) out
    refine R_bind e (fun o ho e => ?_)
    cases e
    exact Rn_weak (xle_s (xle_s (xle_s (xle_s (xle_s (xle_n xle_0)))))) (t_308_L106  ho hK)
  · refine Rn_icF hc rfl rfl (by decide) b8 ?_
    refine Rn_ms (σ' := (53, [some (vR 1), some (vI c1), some (vI c2), some (vI c3), some (vI v4), some (vI v5)], [vI 3, vI v4], (G0, M))) hc 2 rfl ?_
    refine R_ite e (fun b17 e => ?_) (fun b17 e => ?_)
    · refine Rn_icT (tgt := 106) hc rfl rfl (by decide) b17 ?_
      show Rn rom (d + 7) 113 (106, [some (vR 1), some (vI c1), some (vI c2), some (vI c3), some (vI v4), some (vI v5)], [], (G0, M)) out
      refine R_bind e (fun o ho e => ?_)
      cases e
      exact Rn_weak (xle_s (xle_s (xle_s (xle_s (xle_s (xle_n xle_0)))))) (t_308_L106  ho hK)
    · refine Rn_icF hc rfl rfl (by decide) b17 ?_
      refine Rn_ms (σ' := (60, [some (vR 1), some (vI c1), some (vI c2), some (vI c3), some (vI v4), some (vI v5)], [vI 1, vR 1, vI v4], (G0, M))) hc 3 rfl ?_
      refine R_bind e (fun k18 hk18 e => ?_)
      refine Rn_cv hc rfl rfl (by decide) (ii := xi_78) rfl rfl rfl (tgc_1 : Tg _ = 10) (by decide) rfl (le := [some (vR 1), some (vI 1)]) rfl (v := some (vI k18.1)) (M' := k18.2) (t_101  (d := d + 0) hk18 rfl) ?_
      refine Rn_ms (σ' := (67, [some (vR 1), some (vI c1), some (vI c2), some (vI c3), some (vI (v4 + k18.1)), some (vI v5)], [vR 1], (G0, k18.2))) hc 3 rfl ?_
      refine R_bind e (fun k19 hk19 e => ?_)
      refine Rn_cv hc rfl rfl (by decide) (ii := xi_88) rfl rfl rfl (tgc_1 : Tg _ = 10) (by decide) rfl (le := [some (vR 1)]) rfl (v := some (vI k19.1)) (M' := k19.2) (t_116  (d := d + 1) hk19 rfl) ?_
      refine Rn_ms (σ' := (72, [some (vR 1), some (vI c1), some (vI c2), some (vI c3), some (vI (v4 + k18.1)), some (vI v5)], [vI (-4), vI k19.1], (G0, k19.2))) hc 1 rfl ?_
      refine R_ite e (fun b20 e => ?_) (fun b20 e => ?_)
      · refine Rn_icF hc rfl rfl (by decide) (fun w => w b20) ?_
        refine Rn_ms (σ' := (80, [some (vR 1), some (vI c1), some (vI c2), some (vI c3), some (vI (v4 + k18.1)), some (vI v5)], [vI 1], (G0, k19.2))) hc 2 rfl ?_
        exact Rn_weak (xle_s (xle_s (xle_s (xle_s (xle_s (xle_s xle_0)))))) (t_308_L80  e hK)
      · refine Rn_icT (tgt := 79) hc rfl rfl (by decide) (fun w => b20 w) ?_
        refine Rn_ms (σ' := (80, [some (vR 1), some (vI c1), some (vI c2), some (vI c3), some (vI (v4 + k18.1)), some (vI v5)], [vI 0], (G0, k19.2))) hc 1 rfl ?_
        exact Rn_weak (xle_s (xle_s (xle_s (xle_s (xle_s (xle_s xle_0)))))) (t_308_L80  e hK)
def f_308_L42 (c1 : Int) (c2 : Int) (c3 : Int) (s : Int × Int × xM) : Option (Int × xM) := loop NF (fun s => f_308_L42b c1 c2 c3 s.1 s.2.1 s.2.2) s
set_option maxRecDepth 100000 in
set_option maxHeartbeats 4000000 in
theorem t_308_L42 {rom : xRom} {d : Nat} {c1 : Int} {c2 : Int} {c3 : Int} {s : Int × Int × xM} {r : Int × xM} {out : Option xV × xH} (e : f_308_L42 c1 c2 c3 s = some r) (hK : (eIW out) r) : Rn rom (d + 7) 113 (42, [some (vR 1), some (vI c1), some (vI c2), some (vI c3), some (vI s.1), some (vI s.2.1)], [], (G0, s.2.2)) out := by
  unfold f_308_L42 at e
  revert e hK
  exact R_loop (b := fun s => f_308_L42b c1 c2 c3 s.1 s.2.1 s.2.2) (G := fun s => Rn rom (d + 7) 113 (42, [some (vR 1), some (vI c1), some (vI c2), some (vI c3), some (vI s.1), some (vI s.2.1)], [], (G0, s.2.2)) out) (K := eIW out) (fun s r e hK => t_308_L42b  e hK) NF s r
/-- PedalLayersLaw.fadesSo -/
def f_308 (M : xM) : Option (Int × xM) :=
  (f_125 M).bind (fun k1 =>
  (f_119 M 1).bind (fun k2 =>
  (f_119 M 0).bind (fun k3 =>
  if wr k3 = 2 then
    if wr k1 = 0 then
      some (1, M)
    else
      if wr k1 ≤ 3 then
        (f_128 M).bind (fun k7 =>
        f_308_L42 k1 k2 k7.1 (0, 0, k7.2)
        )
      else
        some (1, M)
  else
    some (1, M)
  )))
set_option maxRecDepth 100000 in
set_option maxHeartbeats 4000000 in
theorem t_308 {rom : xRom} {d : Nat} {M : xM}  {r : Int × xM} {out : Option xV × xH} (e : f_308 M = some r) (hK : eIW out r) : Rn rom (d + 7) 113 (0, [some (vR 1), none, none, none, none, none], [], (G0, M)) out := by
  have hc : xkall.getD 113 [] = xk_113 := rfl
  unfold f_308 at e
  refine Rn_ms (σ' := (1, [some (vR 1), none, none, none, none, none], [vR 1], (G0, M))) hc 1 rfl ?_
  refine R_bind e (fun k1 hk1 e => ?_)
  refine Rn_cv hc rfl rfl (by decide) (ii := xi_95) rfl rfl rfl (tgc_1 : Tg _ = 10) (by decide) rfl (le := [some (vR 1), none, none]) rfl (v := some (vI k1)) (M' := M) (t_125  (d := d + 2) hk1 rfl) ?_
  refine Rn_ms (σ' := (7, [some (vR 1), some (vI k1), none, none, none, none], [vI 1, vR 1], (G0, M))) hc 3 rfl ?_
  refine R_bind e (fun k2 hk2 e => ?_)
  refine Rn_cv hc rfl rfl (by decide) (ii := xi_89) rfl rfl rfl (tgc_1 : Tg _ = 10) (by decide) rfl (le := [some (vR 1), some (vI 1)]) rfl (v := some (vI k2)) (M' := M) (t_119  (d := d + 3) hk2 rfl) ?_
  refine Rn_ms (σ' := (13, [some (vR 1), some (vI k1), some (vI k2), none, none, none], [vI 0, vR 1], (G0, M))) hc 3 rfl ?_
  refine R_bind e (fun k3 hk3 e => ?_)
  refine Rn_cv hc rfl rfl (by decide) (ii := xi_89) rfl rfl rfl (tgc_1 : Tg _ = 10) (by decide) rfl (le := [some (vR 1), some (vI 0)]) rfl (v := some (vI k3)) (M' := M) (t_119  (d := d + 3) hk3 rfl) ?_
  refine Rn_ms (σ' := (17, [some (vR 1), some (vI k1), some (vI k2), none, none, none], [vI 2, vI k3], (G0, M))) hc 1 rfl ?_
  refine R_ite e (fun b4 e => ?_) (fun b4 e => ?_)
  · refine Rn_icF hc rfl rfl (by decide) (fun w => w b4) ?_
    refine Rn_ms (σ' := (21, [some (vR 1), some (vI k1), some (vI k2), none, none, none], [vI k1], (G0, M))) hc 1 rfl ?_
    refine R_ite e (fun b5 e => ?_) (fun b5 e => ?_)
    · refine Rn_ifT (tgt := 29) hc rfl rfl (by decide) b5 ?_
      refine Rn_ms (σ' := (30, [some (vR 1), some (vI k1), some (vI k2), none, none, none], [vI 1], (G0, M))) hc 1 rfl ?_
      cases e
      exact R_end (Rn_iret hc rfl rfl (xretB rfl rfl (by decide))) hK
    · refine Rn_ifF hc rfl rfl (by decide) b5 ?_
      refine Rn_ms (σ' := (26, [some (vR 1), some (vI k1), some (vI k2), none, none, none], [vI 3, vI k1], (G0, M))) hc 2 rfl ?_
      refine R_ite e (fun b6 e => ?_) (fun b6 e => ?_)
      · refine Rn_icT (tgt := 31) hc rfl rfl (by decide) b6 ?_
        refine Rn_ms (σ' := (32, [some (vR 1), some (vI k1), some (vI k2), none, none, none], [vR 1], (G0, M))) hc 1 rfl ?_
        refine R_bind e (fun k7 hk7 e => ?_)
        refine Rn_cv hc rfl rfl (by decide) (ii := xi_98) rfl rfl rfl (tgc_1 : Tg _ = 10) (by decide) rfl (le := [some (vR 1)]) rfl (v := some (vI k7.1)) (M' := k7.2) (t_128  (d := d + 1) hk7 rfl) ?_
        refine Rn_ms (σ' := (42, [some (vR 1), some (vI k1), some (vI k2), some (vI k7.1), some (vI 0), some (vI 0)], [], (G0, k7.2))) hc 5 rfl ?_
        exact Rn_weak (xle_s (xle_s (xle_s (xle_s (xle_s (xle_s xle_0)))))) (t_308_L42  e hK)
      · refine Rn_icF hc rfl rfl (by decide) b6 ?_
        refine Rn_ms (σ' := (30, [some (vR 1), some (vI k1), some (vI k2), none, none, none], [vI 1], (G0, M))) hc 1 rfl ?_
        cases e
        exact R_end (Rn_iret hc rfl rfl (xretB rfl rfl (by decide))) hK
  · refine Rn_icT (tgt := 29) hc rfl rfl (by decide) (fun w => b4 w) ?_
    refine Rn_ms (σ' := (30, [some (vR 1), some (vI k1), some (vI k2), none, none, none], [vI 1], (G0, M))) hc 1 rfl ?_
    cases e
    exact R_end (Rn_iret hc rfl rfl (xretB rfl rfl (by decide))) hK
