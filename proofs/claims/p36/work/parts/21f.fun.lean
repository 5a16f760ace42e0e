/-! functions for methods, by program (wip/whole/gen/dec.py) -/
def f_309_L169 (rom : xRom) (M : xM) (s0 : Int) : Option (Int × xM) :=
  (f_97 M).bind (fun k10 =>
  if wr k10.1 = wr s0 then
    some (1, k10.2)
  else
    some (0, k10.2)
  )
set_option maxRecDepth 100000 in
set_option maxHeartbeats 4000000 in
theorem t_309_L169 {rom : xRom} {d : Nat} {s0 : Int} {M : xM} {r : Int × xM} {out : Option xV × xH} (e : f_309_L169 rom M s0 = some r) (hK : (eIW out) r) : Rn rom (d + 7) 114 (169, [some (vR 1), none, none, none, none, none, none, none, none, none, none, none, none, none, none, none, none], [vI s0], (G0, M)) out := by
  have hc : xkall.getD 114 [] = xk_114 := rfl
  unfold f_309_L169 at e
  refine Rn_ms (σ' := (172, [some (vR 1), none, none, none, none, none, some (vI s0), none, none, none, none, none, none, none, none, none, none], [vR 1], (G0, M))) hc 2 rfl ?_
  refine R_bind e (fun k10 hk10 e => ?_)
  refine Rn_cv hc rfl rfl (by decide) (ii := xi_74) rfl rfl rfl (tgc_1 : Tg _ = 10) (by decide) rfl (le := [some (vR 1)]) rfl (v := some (vI k10.1)) (M' := k10.2) (t_97  (d := d + 0) hk10 rfl) ?_
  refine Rn_ms (σ' := (177, [some (vR 1), none, none, none, none, none, some (vI s0), none, none, none, none, none, none, none, none, none, none], [vI s0, vI k10.1], (G0, k10.2))) hc 1 rfl ?_
  refine R_ite e (fun b11 e => ?_) (fun b11 e => ?_)
  · refine Rn_icF hc rfl rfl (by decide) (fun w => w b11) ?_
    refine Rn_ms (σ' := (185, [some (vR 1), none, none, none, none, none, some (vI s0), none, none, none, none, none, none, none, none, none, none], [vI 1], (G0, k10.2))) hc 2 rfl ?_
    cases e
    exact R_end (Rn_iret hc rfl rfl (xretB rfl rfl (by decide))) hK
  · refine Rn_icT (tgt := 184) hc rfl rfl (by decide) (fun w => b11 w) ?_
    refine Rn_ms (σ' := (185, [some (vR 1), none, none, none, none, none, some (vI s0), none, none, none, none, none, none, none, none, none, none], [vI 0], (G0, k10.2))) hc 1 rfl ?_
    cases e
    exact R_end (Rn_iret hc rfl rfl (xretB rfl rfl (by decide))) hK
def f_309_L151 (rom : xRom) (M : xM) (c2 : Int) : Option (Int × xM) :=
  if wr c2 = 0 then
    f_309_L169 rom M 1
  else
    if wr c2 = 2 then
      f_309_L169 rom M 3
    else
      f_309_L169 rom M 2
set_option maxRecDepth 100000 in
set_option maxHeartbeats 4000000 in
theorem t_309_L151 {rom : xRom} {d : Nat} {c2 : Int} {M : xM} {r : Int × xM} {out : Option xV × xH} (e : f_309_L151 rom M c2 = some r) (hK : (eIW out) r) : Rn rom (d + 7) 114 (151, [some (vR 1), none, some (vI c2), none, none, none, none, none, none, none, none, none, none, none, none, none, none], [], (G0, M)) out := by
  have hc : xkall.getD 114 [] = xk_114 := rfl
  unfold f_309_L151 at e
  refine Rn_ms (σ' := (152, [some (vR 1), none, some (vI c2), none, none, none, none, none, none, none, none, none, none, none, none, none, none], [vI c2], (G0, M))) hc 1 rfl ?_
  refine R_ite e (fun b12 e => ?_) (fun b12 e => ?_)
  · refine Rn_ifF hc rfl rfl (by decide) (fun w => w b12) ?_
    refine Rn_ms (σ' := (169, [some (vR 1), none, some (vI c2), none, none, none, none, none, none, none, none, none, none, none, none, none, none], [vI 1], (G0, M))) hc 2 rfl ?_
    exact Rn_weak (xle_s (xle_s (xle_n (xle_s (xle_s (xle_s (xle_s (xle_s (xle_s (xle_s (xle_s (xle_s (xle_s (xle_s (xle_s (xle_s (xle_s xle_0))))))))))))))))) (t_309_L169  e hK)
  · refine Rn_ifT (tgt := 159) hc rfl rfl (by decide) (fun w => b12 w) ?_
    refine Rn_ms (σ' := (161, [some (vR 1), none, some (vI c2), none, none, none, none, none, none, none, none, none, none, none, none, none, none], [vI 2, vI c2], (G0, M))) hc 2 rfl ?_
    refine R_ite e (fun b13 e => ?_) (fun b13 e => ?_)
    · refine Rn_icF hc rfl rfl (by decide) (fun w => w b13) ?_
      refine Rn_ms (σ' := (169, [some (vR 1), none, some (vI c2), none, none, none, none, none, none, none, none, none, none, none, none, none, none], [vI 3], (G0, M))) hc 2 rfl ?_
      exact Rn_weak (xle_s (xle_s (xle_n (xle_s (xle_s (xle_s (xle_s (xle_s (xle_s (xle_s (xle_s (xle_s (xle_s (xle_s (xle_s (xle_s (xle_s xle_0))))))))))))))))) (t_309_L169  e hK)
    · refine Rn_icT (tgt := 168) hc rfl rfl (by decide) (fun w => b13 w) ?_
      refine Rn_ms (σ' := (169, [some (vR 1), none, some (vI c2), none, none, none, none, none, none, none, none, none, none, none, none, none, none], [vI 2], (G0, M))) hc 1 rfl ?_
      exact Rn_weak (xle_s (xle_s (xle_n (xle_s (xle_s (xle_s (xle_s (xle_s (xle_s (xle_s (xle_s (xle_s (xle_s (xle_s (xle_s (xle_s (xle_s xle_0))))))))))))))))) (t_309_L169  e hK)
def f_309_L122 (rom : xRom) (M : xM) (c2 : Int) (c4 : Int) (s0 : Int) : Option (Int × xM) :=
  if wr s0 = 0 then
    if wr c2 = 2 then
      if wr c4 = 6 then
        f_309_L169 rom M (-3)
      else
        f_309_L151 rom M c2
    else
      f_309_L151 rom M c2
  else
    f_309_L169 rom M (-2)
set_option maxRecDepth 100000 in
set_option maxHeartbeats 4000000 in
theorem t_309_L122 {rom : xRom} {d : Nat} {c2 : Int} {c4 : Int} {s0 : Int} {M : xM} {r : Int × xM} {out : Option xV × xH} (e : f_309_L122 rom M c2 c4 s0 = some r) (hK : (eIW out) r) : Rn rom (d + 7) 114 (122, [some (vR 1), none, some (vI c2), none, some (vI c4), none, none, none, none, none, none, none, none, none, none, none, none], [vI s0], (G0, M)) out := by
  have hc : xkall.getD 114 [] = xk_114 := rfl
  unfold f_309_L122 at e
  refine Rn_ms (σ' := (126, [some (vR 1), none, some (vI c2), none, some (vI c4), some (vI s0), none, none, none, none, none, none, none, none, none, none, none], [vI s0], (G0, M))) hc 2 rfl ?_
  refine R_ite e (fun b7 e => ?_) (fun b7 e => ?_)
  · refine Rn_ifT (tgt := 134) hc rfl rfl (by decide) b7 ?_
    refine Rn_ms (σ' := (136, [some (vR 1), none, some (vI c2), none, some (vI c4), some (vI s0), none, none, none, none, none, none, none, none, none, none, none], [vI 2, vI c2], (G0, M))) hc 2 rfl ?_
    refine R_ite e (fun b8 e => ?_) (fun b8 e => ?_)
    · refine Rn_icF hc rfl rfl (by decide) (fun w => w b8) ?_
      refine Rn_ms (σ' := (143, [some (vR 1), none, some (vI c2), none, some (vI c4), some (vI s0), none, none, none, none, none, none, none, none, none, none, none], [vI 6, vI c4], (G0, M))) hc 2 rfl ?_
      refine R_ite e (fun b9 e => ?_) (fun b9 e => ?_)
      · refine Rn_icF hc rfl rfl (by decide) (fun w => w b9) ?_
        refine Rn_ms (σ' := (169, [some (vR 1), none, some (vI c2), none, some (vI c4), some (vI s0), none, none, none, none, none, none, none, none, none, none, none], [vI (-3)], (G0, M))) hc 2 rfl ?_
        exact Rn_weak (xle_s (xle_s (xle_n (xle_s (xle_n (xle_n (xle_s (xle_s (xle_s (xle_s (xle_s (xle_s (xle_s (xle_s (xle_s (xle_s (xle_s xle_0))))))))))))))))) (t_309_L169  e hK)
      · refine Rn_icT (tgt := 151) hc rfl rfl (by decide) (fun w => b9 w) ?_
        show Rn rom (d + 7) 114 (151, [some (vR 1), none, some (vI c2), none, some (vI c4), some (vI s0), none, none, none, none, none, none, none, none, none, none, none], [], (G0, M)) out
        exact Rn_weak (xle_s (xle_s (xle_s (xle_s (xle_n (xle_n (xle_s (xle_s (xle_s (xle_s (xle_s (xle_s (xle_s (xle_s (xle_s (xle_s (xle_s xle_0))))))))))))))))) (t_309_L151  e hK)
    · refine Rn_icT (tgt := 151) hc rfl rfl (by decide) (fun w => b8 w) ?_
      show Rn rom (d + 7) 114 (151, [some (vR 1), none, some (vI c2), none, some (vI c4), some (vI s0), none, none, none, none, none, none, none, none, none, none, none], [], (G0, M)) out
      exact Rn_weak (xle_s (xle_s (xle_s (xle_s (xle_n (xle_n (xle_s (xle_s (xle_s (xle_s (xle_s (xle_s (xle_s (xle_s (xle_s (xle_s (xle_s xle_0))))))))))))))))) (t_309_L151  e hK)
  · refine Rn_ifF hc rfl rfl (by decide) b7 ?_
    refine Rn_ms (σ' := (169, [some (vR 1), none, some (vI c2), none, some (vI c4), some (vI s0), none, none, none, none, none, none, none, none, none, none, none], [vI (-2)], (G0, M))) hc 2 rfl ?_
    exact Rn_weak (xle_s (xle_s (xle_n (xle_s (xle_n (xle_n (xle_s (xle_s (xle_s (xle_s (xle_s (xle_s (xle_s (xle_s (xle_s (xle_s (xle_s xle_0))))))))))))))))) (t_309_L169  e hK)
def f_309_L121 (rom : xRom) (M : xM) (c2 : Int) (c4 : Int) : Option (Int × xM) :=
  f_309_L122 rom M c2 c4 0
set_option maxRecDepth 100000 in
set_option maxHeartbeats 4000000 in
theorem t_309_L121 {rom : xRom} {d : Nat} {c2 : Int} {c4 : Int} {M : xM} {r : Int × xM} {out : Option xV × xH} (e : f_309_L121 rom M c2 c4 = some r) (hK : (eIW out) r) : Rn rom (d + 7) 114 (121, [some (vR 1), none, some (vI c2), none, some (vI c4), none, none, none, none, none, none, none, none, none, none, none, none], [], (G0, M)) out := by
  have hc : xkall.getD 114 [] = xk_114 := rfl
  unfold f_309_L121 at e
  refine Rn_ms (σ' := (122, [some (vR 1), none, some (vI c2), none, some (vI c4), none, none, none, none, none, none, none, none, none, none, none, none], [vI 0], (G0, M))) hc 1 rfl ?_
  exact Rn_weak (xle_s (xle_s (xle_s (xle_s (xle_s (xle_s (xle_s (xle_s (xle_s (xle_s (xle_s (xle_s (xle_s (xle_s (xle_s (xle_s (xle_s xle_0))))))))))))))))) (t_309_L122  e hK)
def f_309_L104 (rom : xRom) (M : xM) (c2 : Int) (c3 : Int) (c4 : Int) : Option (Int × xM) :=
  if wr c3 = 0 then
    f_309_L121 rom M c2 c4
  else
    (f_119 M 7).bind (fun k14 =>
    if wr k14 = 0 then
      f_309_L122 rom M c2 c4 1
    else
      f_309_L121 rom M c2 c4
    )
set_option maxRecDepth 100000 in
set_option maxHeartbeats 4000000 in
theorem t_309_L104 {rom : xRom} {d : Nat} {c2 : Int} {c3 : Int} {c4 : Int} {M : xM} {r : Int × xM} {out : Option xV × xH} (e : f_309_L104 rom M c2 c3 c4 = some r) (hK : (eIW out) r) : Rn rom (d + 7) 114 (104, [some (vR 1), none, some (vI c2), some (vI c3), some (vI c4), none, none, none, none, none, none, none, none, none, none, none, none], [], (G0, M)) out := by
  have hc : xkall.getD 114 [] = xk_114 := rfl
  unfold f_309_L104 at e
  refine Rn_ms (σ' := (105, [some (vR 1), none, some (vI c2), some (vI c3), some (vI c4), none, none, none, none, none, none, none, none, none, none, none, none], [vI c3], (G0, M))) hc 1 rfl ?_
  refine R_ite e (fun b6 e => ?_) (fun b6 e => ?_)
  · refine Rn_ifT (tgt := 121) hc rfl rfl (by decide) b6 ?_
    show Rn rom (d + 7) 114 (121, [some (vR 1), none, some (vI c2), some (vI c3), some (vI c4), none, none, none, none, none, none, none, none, none, none, none, none], [], (G0, M)) out
    exact Rn_weak (xle_s (xle_s (xle_s (xle_n (xle_s (xle_s (xle_s (xle_s (xle_s (xle_s (xle_s (xle_s (xle_s (xle_s (xle_s (xle_s (xle_s xle_0))))))))))))))))) (t_309_L121  e hK)
  · refine Rn_ifF hc rfl rfl (by decide) b6 ?_
    refine Rn_ms (σ' := (111, [some (vR 1), none, some (vI c2), some (vI c3), some (vI c4), none, none, none, none, none, none, none, none, none, none, none, none], [vI 7, vR 1], (G0, M))) hc 2 rfl ?_
    refine R_bind e (fun k14 hk14 e => ?_)
    refine Rn_cv hc rfl rfl (by decide) (ii := xi_89) rfl rfl rfl (tgc_1 : Tg _ = 10) (by decide) rfl (le := [some (vR 1), some (vI 7)]) rfl (v := some (vI k14)) (M' := M) (t_119  (d := d + 3) hk14 rfl) ?_
    show Rn rom (d + 7) 114 (114, [some (vR 1), none, some (vI c2), some (vI c3), some (vI c4), none, none, none, none, none, none, none, none, none, none, none, none], [vI k14], (G0, M)) out
    refine R_ite e (fun b15 e => ?_) (fun b15 e => ?_)
    · refine Rn_ifF hc rfl rfl (by decide) (fun w => w b15) ?_
      refine Rn_ms (σ' := (122, [some (vR 1), none, some (vI c2), some (vI c3), some (vI c4), none, none, none, none, none, none, none, none, none, none, none, none], [vI 1], (G0, M))) hc 2 rfl ?_
      exact Rn_weak (xle_s (xle_s (xle_s (xle_n (xle_s (xle_s (xle_s (xle_s (xle_s (xle_s (xle_s (xle_s (xle_s (xle_s (xle_s (xle_s (xle_s xle_0))))))))))))))))) (t_309_L122  e hK)
    · refine Rn_ifT (tgt := 121) hc rfl rfl (by decide) (fun w => b15 w) ?_
      show Rn rom (d + 7) 114 (121, [some (vR 1), none, some (vI c2), some (vI c3), some (vI c4), none, none, none, none, none, none, none, none, none, none, none, none], [], (G0, M)) out
      exact Rn_weak (xle_s (xle_s (xle_s (xle_n (xle_s (xle_s (xle_s (xle_s (xle_s (xle_s (xle_s (xle_s (xle_s (xle_s (xle_s (xle_s (xle_s xle_0))))))))))))))))) (t_309_L121  e hK)
def f_309_L255 (rom : xRom) (M : xM) (s0 : Int) (s1 : Int) : Option (Int × xM) :=
  if wr s0 = wr s1 then
    (f_119 M 3).bind (fun k33 =>
    (f_119 M 4).bind (fun k34 =>
    (f_119 M 0).bind (fun k35 =>
    if wr ((k33 + k34) + k35) = 0 then
      some (1, M)
    else
      some (0, M)
    )))
  else
    some (0, M)
set_option maxRecDepth 100000 in
set_option maxHeartbeats 4000000 in
theorem t_309_L255 {rom : xRom} {d : Nat} {s0 : Int} {s1 : Int} {M : xM} {r : Int × xM} {out : Option xV × xH} (e : f_309_L255 rom M s0 s1 = some r) (hK : (eIW out) r) : Rn rom (d + 7) 114 (255, [some (vR 1), none, none, none, none, none, none, none, none, none, none, none, none, none, none, none, none], [vI s1, vI s0], (G0, M)) out := by
  have hc : xkall.getD 114 [] = xk_114 := rfl
  unfold f_309_L255 at e
  refine R_ite e (fun b32 e => ?_) (fun b32 e => ?_)
  · refine Rn_icF hc rfl rfl (by decide) (fun w => w b32) ?_
    refine Rn_ms (σ' := (260, [some (vR 1), none, none, none, none, none, none, none, none, none, none, none, none, none, none, none, none], [vI 3, vR 1], (G0, M))) hc 2 rfl ?_
    refine R_bind e (fun k33 hk33 e => ?_)
    refine Rn_cv hc rfl rfl (by decide) (ii := xi_89) rfl rfl rfl (tgc_1 : Tg _ = 10) (by decide) rfl (le := [some (vR 1), some (vI 3)]) rfl (v := some (vI k33)) (M' := M) (t_119  (d := d + 3) hk33 rfl) ?_
    refine Rn_ms (σ' := (265, [some (vR 1), none, none, none, none, none, none, none, none, none, none, none, none, none, none, none, none], [vI 4, vR 1, vI k33], (G0, M))) hc 2 rfl ?_
    refine R_bind e (fun k34 hk34 e => ?_)
    refine Rn_cv hc rfl rfl (by decide) (ii := xi_89) rfl rfl rfl (tgc_1 : Tg _ = 10) (by decide) rfl (le := [some (vR 1), some (vI 4)]) rfl (v := some (vI k34)) (M' := M) (t_119  (d := d + 3) hk34 rfl) ?_
    refine Rn_ms (σ' := (271, [some (vR 1), none, none, none, none, none, none, none, none, none, none, none, none, none, none, none, none], [vI 0, vR 1, vI (k33 + k34)], (G0, M))) hc 3 rfl ?_
    refine R_bind e (fun k35 hk35 e => ?_)
    refine Rn_cv hc rfl rfl (by decide) (ii := xi_89) rfl rfl rfl (tgc_1 : Tg _ = 10) (by decide) rfl (le := [some (vR 1), some (vI 0)]) rfl (v := some (vI k35)) (M' := M) (t_119  (d := d + 3) hk35 rfl) ?_
    refine Rn_ms (σ' := (275, [some (vR 1), none, none, none, none, none, none, none, none, none, none, none, none, none, none, none, none], [vI ((k33 + k34) + k35)], (G0, M))) hc 1 rfl ?_
    refine R_ite e (fun b36 e => ?_) (fun b36 e => ?_)
    · refine Rn_ifF hc rfl rfl (by decide) (fun w => w b36) ?_
      refine Rn_ms (σ' := (283, [some (vR 1), none, none, none, none, none, none, none, none, none, none, none, none, none, none, none, none], [vI 1], (G0, M))) hc 2 rfl ?_
      cases e
      exact R_end (Rn_iret hc rfl rfl (xretB rfl rfl (by decide))) hK
    · refine Rn_ifT (tgt := 282) hc rfl rfl (by decide) (fun w => b36 w) ?_
      refine Rn_ms (σ' := (283, [some (vR 1), none, none, none, none, none, none, none, none, none, none, none, none, none, none, none, none], [vI 0], (G0, M))) hc 1 rfl ?_
      cases e
      exact R_end (Rn_iret hc rfl rfl (xretB rfl rfl (by decide))) hK
  · refine Rn_icT (tgt := 282) hc rfl rfl (by decide) (fun w => b32 w) ?_
    refine Rn_ms (σ' := (283, [some (vR 1), none, none, none, none, none, none, none, none, none, none, none, none, none, none, none, none], [vI 0], (G0, M))) hc 1 rfl ?_
    cases e
    exact R_end (Rn_iret hc rfl rfl (xretB rfl rfl (by decide))) hK
def f_309_L428 (rom : xRom) (M : xM) (c8 : Int) (s0 : Int) : Option (Int × xM) :=
  (f_119 M (10 + c8)).bind (fun k56 =>
  (f_106 rom M c8 s0).bind (fun k57 =>
  if wr k57.1 = wr k56 then
    (f_119 k57.2 (10 + c8)).bind (fun k59 =>
    if wr k59 = wr s0 then
      some (1, k57.2)
    else
      some (0, k57.2)
    )
  else
    some (0, k57.2)
  ))
set_option maxRecDepth 100000 in
set_option maxHeartbeats 4000000 in
theorem t_309_L428 {rom : xRom} {d : Nat} {c8 : Int} {s0 : Int} {M : xM} {r : Int × xM} {out : Option xV × xH} (e : f_309_L428 rom M c8 s0 = some r) (hK : (eIW out) r) : Rn rom (d + 7) 114 (428, [some (vR 1), none, none, none, none, none, none, none, some (vI c8), none, none, none, none, none, none, none, none], [vI s0], (G0, M)) out := by
  have hc : xkall.getD 114 [] = xk_114 := rfl
  unfold f_309_L428 at e
  refine Rn_ms (σ' := (436, [some (vR 1), none, none, none, none, none, none, none, some (vI c8), some (vI s0), none, none, none, none, none, none, none], [vI (10 + c8), vR 1], (G0, M))) hc 5 rfl ?_
  refine R_bind e (fun k56 hk56 e => ?_)
  refine Rn_cv hc rfl rfl (by decide) (ii := xi_89) rfl rfl rfl (tgc_1 : Tg _ = 10) (by decide) rfl (le := [some (vR 1), some (vI (10 + c8))]) rfl (v := some (vI k56)) (M' := M) (t_119  (d := d + 3) hk56 rfl) ?_
  refine Rn_ms (σ' := (446, [some (vR 1), none, none, none, none, none, none, none, some (vI c8), some (vI s0), some (vI k56), none, none, none, none, none, none], [vI s0, vI c8, vR 1], (G0, M))) hc 4 rfl ?_
  refine R_bind e (fun k57 hk57 e => ?_)
  refine Rn_cv hc rfl rfl (by decide) (ii := xi_83) rfl rfl rfl (tgc_1 : Tg _ = 10) (by decide) rfl (le := [some (vR 1), some (vI c8), some (vI s0)]) rfl (v := some (vI k57.1)) (M' := k57.2) (t_106  (d := d + 0) hk57 rfl) ?_
  refine Rn_ms (σ' := (451, [some (vR 1), none, none, none, none, none, none, none, some (vI c8), some (vI s0), some (vI k56), none, none, none, none, none, none], [vI k56, vI k57.1], (G0, k57.2))) hc 1 rfl ?_
  refine R_ite e (fun b58 e => ?_) (fun b58 e => ?_)
  · refine Rn_icF hc rfl rfl (by decide) (fun w => w b58) ?_
    refine Rn_ms (σ' := (460, [some (vR 1), none, none, none, none, none, none, none, some (vI c8), some (vI s0), some (vI k56), none, none, none, none, none, none], [vI (10 + c8), vR 1], (G0, k57.2))) hc 4 rfl ?_
    refine R_bind e (fun k59 hk59 e => ?_)
    refine Rn_cv hc rfl rfl (by decide) (ii := xi_89) rfl rfl rfl (tgc_1 : Tg _ = 10) (by decide) rfl (le := [some (vR 1), some (vI (10 + c8))]) rfl (v := some (vI k59)) (M' := k57.2) (t_119  (d := d + 3) hk59 rfl) ?_
    refine Rn_ms (σ' := (465, [some (vR 1), none, none, none, none, none, none, none, some (vI c8), some (vI s0), some (vI k56), none, none, none, none, none, none], [vI s0, vI k59], (G0, k57.2))) hc 1 rfl ?_
    refine R_ite e (fun b60 e => ?_) (fun b60 e => ?_)
    · refine Rn_icF hc rfl rfl (by decide) (fun w => w b60) ?_
      refine Rn_ms (σ' := (473, [some (vR 1), none, none, none, none, none, none, none, some (vI c8), some (vI s0), some (vI k56), none, none, none, none, none, none], [vI 1], (G0, k57.2))) hc 2 rfl ?_
      cases e
      exact R_end (Rn_iret hc rfl rfl (xretB rfl rfl (by decide))) hK
    · refine Rn_icT (tgt := 472) hc rfl rfl (by decide) (fun w => b60 w) ?_
      refine Rn_ms (σ' := (473, [some (vR 1), none, none, none, none, none, none, none, some (vI c8), some (vI s0), some (vI k56), none, none, none, none, none, none], [vI 0], (G0, k57.2))) hc 1 rfl ?_
      cases e
      exact R_end (Rn_iret hc rfl rfl (xretB rfl rfl (by decide))) hK
  · refine Rn_icT (tgt := 472) hc rfl rfl (by decide) (fun w => b58 w) ?_
    refine Rn_ms (σ' := (473, [some (vR 1), none, none, none, none, none, none, none, some (vI c8), some (vI s0), some (vI k56), none, none, none, none, none, none], [vI 0], (G0, k57.2))) hc 1 rfl ?_
    cases e
    exact R_end (Rn_iret hc rfl rfl (xretB rfl rfl (by decide))) hK
def f_309_L548 (rom : xRom) (M : xM) (c1 : Int) (c3 : Int) : Option (Int × xM) :=
  (f_119 M 8).bind (fun k80 =>
  (f_302 (xishr c1 5) 24).bind (fun k81 =>
  (f_302 (xishr c1 10) 99).bind (fun k82 =>
  (f_100 M k81 (1 + k82)).bind (fun k83 =>
  if wr c3 = 0 then
    if wr k83.1 = (-2) then
      some (1, k83.2)
    else
      some (0, k83.2)
  else
    if wr k83.1 ≤ 0 then
      some (0, k83.2)
    else
      if 100 ≤ wr k83.1 then
        some (0, k83.2)
      else
        (f_302 (xishr c1 10) 99).bind (fun k88 =>
        if wr k83.1 < wr (1 + k88) then
          some (0, k83.2)
        else
          (f_119 k83.2 8).bind (fun k90 =>
          if wr k90 < wr k80 then
            some (0, k83.2)
          else
            (f_119 k83.2 8).bind (fun k92 =>
            if wr (k80 + 1) < wr k92 then
              some (0, k83.2)
            else
              some (1, k83.2)
            )
          )
        )
  ))))
set_option maxRecDepth 100000 in
set_option maxHeartbeats 4000000 in
theorem t_309_L548 {rom : xRom} {d : Nat} {c1 : Int} {c3 : Int} {M : xM} {r : Int × xM} {out : Option xV × xH} (e : f_309_L548 rom M c1 c3 = some r) (hK : (eIW out) r) : Rn rom (d + 7) 114 (548, [some (vR 1), some (vI c1), none, some (vI c3), none, none, none, none, none, none, none, none, none, none, none, none, none], [], (G0, M)) out := by
  have hc : xkall.getD 114 [] = xk_114 := rfl
  unfold f_309_L548 at e
  refine Rn_ms (σ' := (551, [some (vR 1), some (vI c1), none, some (vI c3), none, none, none, none, none, none, none, none, none, none, none, none, none], [vI 8, vR 1], (G0, M))) hc 2 rfl ?_
  refine R_bind e (fun k80 hk80 e => ?_)
  refine Rn_cv hc rfl rfl (by decide) (ii := xi_89) rfl rfl rfl (tgc_1 : Tg _ = 10) (by decide) rfl (le := [some (vR 1), some (vI 8)]) rfl (v := some (vI k80)) (M' := M) (t_119  (d := d + 3) hk80 rfl) ?_
  refine Rn_ms (σ' := (560, [some (vR 1), some (vI c1), none, some (vI c3), none, none, none, none, none, none, none, none, none, some (vI k80), none, none, none], [vI (xishr c1 5), vR 1], (G0, M))) hc 5 rfl ?_
  refine Rn_ms (σ' := (562, [some (vR 1), some (vI c1), none, some (vI c3), none, none, none, none, none, none, none, none, none, some (vI k80), none, none, none], [vI 24, vI (xishr c1 5), vR 1], (G0, M))) hc 1 rfl ?_
  refine R_bind e (fun k81 hk81 e => ?_)
  refine Rn_cs hc rfl rfl (by decide) (ii := xi_107) rfl rfl rfl (le := [some (vI (xishr c1 5)), some (vI 24)]) rfl (v := some (vI k81)) (M' := M) (t_302  (d := d + 6) hk81 rfl) ?_
  refine Rn_ms (σ' := (572, [some (vR 1), some (vI c1), none, some (vI c3), none, none, none, none, none, none, none, none, none, some (vI k80), none, none, none], [vI 99, vI (xishr c1 10), vI 1, vI k81, vR 1], (G0, M))) hc 5 rfl ?_
  refine R_bind e (fun k82 hk82 e => ?_)
  refine Rn_cs hc rfl rfl (by decide) (ii := xi_107) rfl rfl rfl (le := [some (vI (xishr c1 10)), some (vI 99)]) rfl (v := some (vI k82)) (M' := M) (t_302  (d := d + 6) hk82 rfl) ?_
  refine Rn_ms (σ' := (576, [some (vR 1), some (vI c1), none, some (vI c3), none, none, none, none, none, none, none, none, none, some (vI k80), none, none, none], [vI (1 + k82), vI k81, vR 1], (G0, M))) hc 1 rfl ?_
  refine R_bind e (fun k83 hk83 e => ?_)
  refine Rn_cv hc rfl rfl (by decide) (ii := xi_77) rfl rfl rfl (tgc_1 : Tg _ = 10) (by decide) rfl (le := [some (vR 1), some (vI k81), some (vI (1 + k82))]) rfl (v := some (vI k83.1)) (M' := k83.2) (t_100  (d := d + 0) hk83 rfl) ?_
  refine Rn_ms (σ' := (582, [some (vR 1), some (vI c1), none, some (vI c3), none, none, none, none, none, none, none, none, none, some (vI k80), some (vI k83.1), none, none], [vI c3], (G0, k83.2))) hc 2 rfl ?_
  refine R_ite e (fun b84 e => ?_) (fun b84 e => ?_)
  · refine Rn_ifF hc rfl rfl (by decide) (fun w => w b84) ?_
    refine Rn_ms (σ' := (589, [some (vR 1), some (vI c1), none, some (vI c3), none, none, none, none, none, none, none, none, none, some (vI k80), some (vI k83.1), none, none], [vI (-2), vI k83.1], (G0, k83.2))) hc 2 rfl ?_
    refine R_ite e (fun b85 e => ?_) (fun b85 e => ?_)
    · refine Rn_icF hc rfl rfl (by decide) (fun w => w b85) ?_
      refine Rn_ms (σ' := (657, [some (vR 1), some (vI c1), none, some (vI c3), none, none, none, none, none, none, none, none, none, some (vI k80), some (vI k83.1), none, none], [vI 1], (G0, k83.2))) hc 2 rfl ?_
      cases e
      exact R_end (Rn_iret hc rfl rfl (xretB rfl rfl (by decide))) hK
    · refine Rn_icT (tgt := 596) hc rfl rfl (by decide) (fun w => b85 w) ?_
      refine Rn_ms (σ' := (657, [some (vR 1), some (vI c1), none, some (vI c3), none, none, none, none, none, none, none, none, none, some (vI k80), some (vI k83.1), none, none], [vI 0], (G0, k83.2))) hc 2 rfl ?_
      cases e
      exact R_end (Rn_iret hc rfl rfl (xretB rfl rfl (by decide))) hK
  · refine Rn_ifT (tgt := 600) hc rfl rfl (by decide) (fun w => b84 w) ?_
    refine Rn_ms (σ' := (602, [some (vR 1), some (vI c1), none, some (vI c3), none, none, none, none, none, none, none, none, none, some (vI k80), some (vI k83.1), none, none], [vI k83.1], (G0, k83.2))) hc 1 rfl ?_
    refine R_ite e (fun b86 e => ?_) (fun b86 e => ?_)
    · refine Rn_ifT (tgt := 656) hc rfl rfl (by decide) b86 ?_
      refine Rn_ms (σ' := (657, [some (vR 1), some (vI c1), none, some (vI c3), none, none, none, none, none, none, none, none, none, some (vI k80), some (vI k83.1), none, none], [vI 0], (G0, k83.2))) hc 1 rfl ?_
      cases e
      exact R_end (Rn_iret hc rfl rfl (xretB rfl rfl (by decide))) hK
    · refine Rn_ifF hc rfl rfl (by decide) b86 ?_
      refine Rn_ms (σ' := (609, [some (vR 1), some (vI c1), none, some (vI c3), none, none, none, none, none, none, none, none, none, some (vI k80), some (vI k83.1), none, none], [vI 100, vI k83.1], (G0, k83.2))) hc 2 rfl ?_
      refine R_ite e (fun b87 e => ?_) (fun b87 e => ?_)
      · refine Rn_icT (tgt := 656) hc rfl rfl (by decide) b87 ?_
        refine Rn_ms (σ' := (657, [some (vR 1), some (vI c1), none, some (vI c3), none, none, none, none, none, none, none, none, none, some (vI k80), some (vI k83.1), none, none], [vI 0], (G0, k83.2))) hc 1 rfl ?_
        cases e
        exact R_end (Rn_iret hc rfl rfl (xretB rfl rfl (by decide))) hK
      · refine Rn_icF hc rfl rfl (by decide) b87 ?_
        refine Rn_ms (σ' := (619, [some (vR 1), some (vI c1), none, some (vI c3), none, none, none, none, none, none, none, none, none, some (vI k80), some (vI k83.1), none, none], [vI (xishr c1 10), vI 1, vI k83.1], (G0, k83.2))) hc 5 rfl ?_
        refine Rn_ms (σ' := (621, [some (vR 1), some (vI c1), none, some (vI c3), none, none, none, none, none, none, none, none, none, some (vI k80), some (vI k83.1), none, none], [vI 99, vI (xishr c1 10), vI 1, vI k83.1], (G0, k83.2))) hc 1 rfl ?_
        refine R_bind e (fun k88 hk88 e => ?_)
        refine Rn_cs hc rfl rfl (by decide) (ii := xi_107) rfl rfl rfl (le := [some (vI (xishr c1 10)), some (vI 99)]) rfl (v := some (vI k88)) (M' := k83.2) (t_302  (d := d + 6) hk88 rfl) ?_
        refine Rn_ms (σ' := (625, [some (vR 1), some (vI c1), none, some (vI c3), none, none, none, none, none, none, none, none, none, some (vI k80), some (vI k83.1), none, none], [vI (1 + k88), vI k83.1], (G0, k83.2))) hc 1 rfl ?_
        refine R_ite e (fun b89 e => ?_) (fun b89 e => ?_)
        · refine Rn_icT (tgt := 656) hc rfl rfl (by decide) b89 ?_
          refine Rn_ms (σ' := (657, [some (vR 1), some (vI c1), none, some (vI c3), none, none, none, none, none, none, none, none, none, some (vI k80), some (vI k83.1), none, none], [vI 0], (G0, k83.2))) hc 1 rfl ?_
          cases e
          exact R_end (Rn_iret hc rfl rfl (xretB rfl rfl (by decide))) hK
        · refine Rn_icF hc rfl rfl (by decide) b89 ?_
          refine Rn_ms (σ' := (631, [some (vR 1), some (vI c1), none, some (vI c3), none, none, none, none, none, none, none, none, none, some (vI k80), some (vI k83.1), none, none], [vI 8, vR 1], (G0, k83.2))) hc 2 rfl ?_
          refine R_bind e (fun k90 hk90 e => ?_)
          refine Rn_cv hc rfl rfl (by decide) (ii := xi_89) rfl rfl rfl (tgc_1 : Tg _ = 10) (by decide) rfl (le := [some (vR 1), some (vI 8)]) rfl (v := some (vI k90)) (M' := k83.2) (t_119  (d := d + 3) hk90 rfl) ?_
          refine Rn_ms (σ' := (636, [some (vR 1), some (vI c1), none, some (vI c3), none, none, none, none, none, none, none, none, none, some (vI k80), some (vI k83.1), none, none], [vI k80, vI k90], (G0, k83.2))) hc 1 rfl ?_
          refine R_ite e (fun b91 e => ?_) (fun b91 e => ?_)
          · refine Rn_icT (tgt := 656) hc rfl rfl (by decide) b91 ?_
            refine Rn_ms (σ' := (657, [some (vR 1), some (vI c1), none, some (vI c3), none, none, none, none, none, none, none, none, none, some (vI k80), some (vI k83.1), none, none], [vI 0], (G0, k83.2))) hc 1 rfl ?_
            cases e
            exact R_end (Rn_iret hc rfl rfl (xretB rfl rfl (by decide))) hK
          · refine Rn_icF hc rfl rfl (by decide) b91 ?_
            refine Rn_ms (σ' := (642, [some (vR 1), some (vI c1), none, some (vI c3), none, none, none, none, none, none, none, none, none, some (vI k80), some (vI k83.1), none, none], [vI 8, vR 1], (G0, k83.2))) hc 2 rfl ?_
            refine R_bind e (fun k92 hk92 e => ?_)
            refine Rn_cv hc rfl rfl (by decide) (ii := xi_89) rfl rfl rfl (tgc_1 : Tg _ = 10) (by decide) rfl (le := [some (vR 1), some (vI 8)]) rfl (v := some (vI k92)) (M' := k83.2) (t_119  (d := d + 3) hk92 rfl) ?_
            refine Rn_ms (σ' := (649, [some (vR 1), some (vI c1), none, some (vI c3), none, none, none, none, none, none, none, none, none, some (vI k80), some (vI k83.1), none, none], [vI (k80 + 1), vI k92], (G0, k83.2))) hc 3 rfl ?_
            refine R_ite e (fun b93 e => ?_) (fun b93 e => ?_)
            · refine Rn_icT (tgt := 656) hc rfl rfl (by decide) b93 ?_
              refine Rn_ms (σ' := (657, [some (vR 1), some (vI c1), none, some (vI c3), none, none, none, none, none, none, none, none, none, some (vI k80), some (vI k83.1), none, none], [vI 0], (G0, k83.2))) hc 1 rfl ?_
              cases e
              exact R_end (Rn_iret hc rfl rfl (xretB rfl rfl (by decide))) hK
            · refine Rn_icF hc rfl rfl (by decide) b93 ?_
              refine Rn_ms (σ' := (657, [some (vR 1), some (vI c1), none, some (vI c3), none, none, none, none, none, none, none, none, none, some (vI k80), some (vI k83.1), none, none], [vI 1], (G0, k83.2))) hc 2 rfl ?_
              cases e
              exact R_end (Rn_iret hc rfl rfl (xretB rfl rfl (by decide))) hK
def f_309_L730 (rom : xRom) (M : xM) (c15 : Int) : Option (Int × xM) :=
  (f_119 M 15).bind (fun k107 =>
  if wr (c15 + 1) < wr k107 then
    some (0, M)
  else
    some (1, M)
  )
set_option maxRecDepth 100000 in
set_option maxHeartbeats 4000000 in
theorem t_309_L730 {rom : xRom} {d : Nat} {c15 : Int} {M : xM} {r : Int × xM} {out : Option xV × xH} (e : f_309_L730 rom M c15 = some r) (hK : (eIW out) r) : Rn rom (d + 7) 114 (730, [some (vR 1), none, none, none, none, none, none, none, none, none, none, none, none, none, none, some (vI c15), none], [], (G0, M)) out := by
  have hc : xkall.getD 114 [] = xk_114 := rfl
  unfold f_309_L730 at e
  refine Rn_ms (σ' := (733, [some (vR 1), none, none, none, none, none, none, none, none, none, none, none, none, none, none, some (vI c15), none], [vI 15, vR 1], (G0, M))) hc 2 rfl ?_
  refine R_bind e (fun k107 hk107 e => ?_)
  refine Rn_cv hc rfl rfl (by decide) (ii := xi_89) rfl rfl rfl (tgc_1 : Tg _ = 10) (by decide) rfl (le := [some (vR 1), some (vI 15)]) rfl (v := some (vI k107)) (M' := M) (t_119  (d := d + 3) hk107 rfl) ?_
  refine Rn_ms (σ' := (740, [some (vR 1), none, none, none, none, none, none, none, none, none, none, none, none, none, none, some (vI c15), none], [vI (c15 + 1), vI k107], (G0, M))) hc 3 rfl ?_
  refine R_ite e (fun b108 e => ?_) (fun b108 e => ?_)
  · refine Rn_icT (tgt := 747) hc rfl rfl (by decide) b108 ?_
    refine Rn_ms (σ' := (748, [some (vR 1), none, none, none, none, none, none, none, none, none, none, none, none, none, none, some (vI c15), none], [vI 0], (G0, M))) hc 1 rfl ?_
    cases e
    exact R_end (Rn_iret hc rfl rfl (xretB rfl rfl (by decide))) hK
  · refine Rn_icF hc rfl rfl (by decide) b108 ?_
    refine Rn_ms (σ' := (748, [some (vR 1), none, none, none, none, none, none, none, none, none, none, none, none, none, none, some (vI c15), none], [vI 1], (G0, M))) hc 2 rfl ?_
    cases e
    exact R_end (Rn_iret hc rfl rfl (xretB rfl rfl (by decide))) hK
def f_309_L715 (rom : xRom) (M : xM) (c3 : Int) (c15 : Int) : Option (Int × xM) :=
  if wr c3 = 0 then
    (f_119 M 15).bind (fun k105 =>
    if wr k105 = wr c15 then
      f_309_L730 rom M c15
    else
      some (0, M)
    )
  else
    f_309_L730 rom M c15
set_option maxRecDepth 100000 in
set_option maxHeartbeats 4000000 in
theorem t_309_L715 {rom : xRom} {d : Nat} {c3 : Int} {c15 : Int} {M : xM} {r : Int × xM} {out : Option xV × xH} (e : f_309_L715 rom M c3 c15 = some r) (hK : (eIW out) r) : Rn rom (d + 7) 114 (715, [some (vR 1), none, none, some (vI c3), none, none, none, none, none, none, none, none, none, none, none, some (vI c15), none], [], (G0, M)) out := by
  have hc : xkall.getD 114 [] = xk_114 := rfl
  unfold f_309_L715 at e
  refine Rn_ms (σ' := (716, [some (vR 1), none, none, some (vI c3), none, none, none, none, none, none, none, none, none, none, none, some (vI c15), none], [vI c3], (G0, M))) hc 1 rfl ?_
  refine R_ite e (fun b104 e => ?_) (fun b104 e => ?_)
  · refine Rn_ifF hc rfl rfl (by decide) (fun w => w b104) ?_
    refine Rn_ms (σ' := (722, [some (vR 1), none, none, some (vI c3), none, none, none, none, none, none, none, none, none, none, none, some (vI c15), none], [vI 15, vR 1], (G0, M))) hc 2 rfl ?_
    refine R_bind e (fun k105 hk105 e => ?_)
    refine Rn_cv hc rfl rfl (by decide) (ii := xi_89) rfl rfl rfl (tgc_1 : Tg _ = 10) (by decide) rfl (le := [some (vR 1), some (vI 15)]) rfl (v := some (vI k105)) (M' := M) (t_119  (d := d + 3) hk105 rfl) ?_
    refine Rn_ms (σ' := (727, [some (vR 1), none, none, some (vI c3), none, none, none, none, none, none, none, none, none, none, none, some (vI c15), none], [vI c15, vI k105], (G0, M))) hc 1 rfl ?_
    refine R_ite e (fun b106 e => ?_) (fun b106 e => ?_)
    · refine Rn_icF hc rfl rfl (by decide) (fun w => w b106) ?_
      show Rn rom (d + 7) 114 (730, [some (vR 1), none, none, some (vI c3), none, none, none, none, none, none, none, none, none, none, none, some (vI c15), none], [], (G0, M)) out
      exact Rn_weak (xle_s (xle_s (xle_s (xle_n (xle_s (xle_s (xle_s (xle_s (xle_s (xle_s (xle_s (xle_s (xle_s (xle_s (xle_s (xle_s (xle_s xle_0))))))))))))))))) (t_309_L730  e hK)
    · refine Rn_icT (tgt := 747) hc rfl rfl (by decide) (fun w => b106 w) ?_
      refine Rn_ms (σ' := (748, [some (vR 1), none, none, some (vI c3), none, none, none, none, none, none, none, none, none, none, none, some (vI c15), none], [vI 0], (G0, M))) hc 1 rfl ?_
      cases e
      exact R_end (Rn_iret hc rfl rfl (xretB rfl rfl (by decide))) hK
  · refine Rn_ifT (tgt := 730) hc rfl rfl (by decide) (fun w => b104 w) ?_
    show Rn rom (d + 7) 114 (730, [some (vR 1), none, none, some (vI c3), none, none, none, none, none, none, none, none, none, none, none, some (vI c15), none], [], (G0, M)) out
    exact Rn_weak (xle_s (xle_s (xle_s (xle_n (xle_s (xle_s (xle_s (xle_s (xle_s (xle_s (xle_s (xle_s (xle_s (xle_s (xle_s (xle_s (xle_s xle_0))))))))))))))))) (t_309_L730  e hK)
def f_309_L710 (rom : xRom) (M : xM) (c3 : Int) (c15 : Int) (c16 : Int) : Option (Int × xM) :=
  if wr c16 = 0 then
    f_309_L715 rom M c3 c15
  else
    some (0, M)
set_option maxRecDepth 100000 in
set_option maxHeartbeats 4000000 in
theorem t_309_L710 {rom : xRom} {d : Nat} {c3 : Int} {c15 : Int} {c16 : Int} {M : xM} {r : Int × xM} {out : Option xV × xH} (e : f_309_L710 rom M c3 c15 c16 = some r) (hK : (eIW out) r) : Rn rom (d + 7) 114 (710, [some (vR 1), none, none, some (vI c3), none, none, none, none, none, none, none, none, none, none, none, some (vI c15), some (vI c16)], [], (G0, M)) out := by
  have hc : xkall.getD 114 [] = xk_114 := rfl
  unfold f_309_L710 at e
  refine Rn_ms (σ' := (712, [some (vR 1), none, none, some (vI c3), none, none, none, none, none, none, none, none, none, none, none, some (vI c15), some (vI c16)], [vI c16], (G0, M))) hc 1 rfl ?_
  refine R_ite e (fun b103 e => ?_) (fun b103 e => ?_)
  · refine Rn_ifF hc rfl rfl (by decide) (fun w => w b103) ?_
    show Rn rom (d + 7) 114 (715, [some (vR 1), none, none, some (vI c3), none, none, none, none, none, none, none, none, none, none, none, some (vI c15), some (vI c16)], [], (G0, M)) out
    exact Rn_weak (xle_s (xle_s (xle_s (xle_s (xle_s (xle_s (xle_s (xle_s (xle_s (xle_s (xle_s (xle_s (xle_s (xle_s (xle_s (xle_s (xle_n xle_0))))))))))))))))) (t_309_L715  e hK)
  · refine Rn_ifT (tgt := 747) hc rfl rfl (by decide) (fun w => b103 w) ?_
    refine Rn_ms (σ' := (748, [some (vR 1), none, none, some (vI c3), none, none, none, none, none, none, none, none, none, none, none, some (vI c15), some (vI c16)], [vI 0], (G0, M))) hc 1 rfl ?_
    cases e
    exact R_end (Rn_iret hc rfl rfl (xretB rfl rfl (by decide))) hK
def f_309_L687 (rom : xRom) (M : xM) (c2 : Int) (c3 : Int) (c15 : Int) (s1 : Int) (s2 : Int) (s3 : Int) : Option (Int × xM) :=
  (f_302 s2 s3).bind (fun k99 =>
  (f_101 M (s1 + k99)).bind (fun k100 =>
  if wr k100.1 < 0 then
    some (0, k100.2)
  else
    if wr c2 ≤ 0 then
      f_309_L710 rom k100.2 c3 c15 k100.1
    else
      if wr c2 < 4 then
        f_309_L715 rom k100.2 c3 c15
      else
        f_309_L710 rom k100.2 c3 c15 k100.1
  ))
set_option maxRecDepth 100000 in
set_option maxHeartbeats 4000000 in
theorem t_309_L687 {rom : xRom} {d : Nat} {c2 : Int} {c3 : Int} {c15 : Int} {s1 : Int} {s2 : Int} {s3 : Int} {M : xM} {r : Int × xM} {out : Option xV × xH} (e : f_309_L687 rom M c2 c3 c15 s1 s2 s3 = some r) (hK : (eIW out) r) : Rn rom (d + 7) 114 (687, [some (vR 1), none, some (vI c2), some (vI c3), none, none, none, none, none, none, none, none, none, none, none, some (vI c15), none], [vI s3, vI s2, vI s1, vR 1], (G0, M)) out := by
  have hc : xkall.getD 114 [] = xk_114 := rfl
  unfold f_309_L687 at e
  refine R_bind e (fun k99 hk99 e => ?_)
  refine Rn_cs hc rfl rfl (by decide) (ii := xi_107) rfl rfl rfl (le := [some (vI s2), some (vI s3)]) rfl (v := some (vI k99)) (M' := M) (t_302  (d := d + 6) hk99 rfl) ?_
  refine Rn_ms (σ' := (691, [some (vR 1), none, some (vI c2), some (vI c3), none, none, none, none, none, none, none, none, none, none, none, some (vI c15), none], [vI (s1 + k99), vR 1], (G0, M))) hc 1 rfl ?_
  refine R_bind e (fun k100 hk100 e => ?_)
  refine Rn_cv hc rfl rfl (by decide) (ii := xi_78) rfl rfl rfl (tgc_1 : Tg _ = 10) (by decide) rfl (le := [some (vR 1), some (vI (s1 + k99))]) rfl (v := some (vI k100.1)) (M' := k100.2) (t_101  (d := d + 0) hk100 rfl) ?_
  refine Rn_ms (σ' := (698, [some (vR 1), none, some (vI c2), some (vI c3), none, none, none, none, none, none, none, none, none, none, none, some (vI c15), some (vI k100.1)], [vI k100.1], (G0, k100.2))) hc 2 rfl ?_
  refine R_ite e (fun b101 e => ?_) (fun b101 e => ?_)
  · refine Rn_ifT (tgt := 747) hc rfl rfl (by decide) b101 ?_
    refine Rn_ms (σ' := (748, [some (vR 1), none, some (vI c2), some (vI c3), none, none, none, none, none, none, none, none, none, none, none, some (vI c15), some (vI k100.1)], [vI 0], (G0, k100.2))) hc 1 rfl ?_
    cases e
    exact R_end (Rn_iret hc rfl rfl (xretB rfl rfl (by decide))) hK
  · refine Rn_ifF hc rfl rfl (by decide) b101 ?_
    refine Rn_ms (σ' := (702, [some (vR 1), none, some (vI c2), some (vI c3), none, none, none, none, none, none, none, none, none, none, none, some (vI c15), some (vI k100.1)], [vI c2], (G0, k100.2))) hc 1 rfl ?_
    refine R_ite e (fun b102 e => ?_) (fun b102 e => ?_)
    · refine Rn_ifT (tgt := 710) hc rfl rfl (by decide) b102 ?_
      show Rn rom (d + 7) 114 (710, [some (vR 1), none, some (vI c2), some (vI c3), none, none, none, none, none, none, none, none, none, none, none, some (vI c15), some (vI k100.1)], [], (G0, k100.2)) out
      exact Rn_weak (xle_s (xle_s (xle_n (xle_s (xle_s (xle_s (xle_s (xle_s (xle_s (xle_s (xle_s (xle_s (xle_s (xle_s (xle_s (xle_s (xle_s xle_0))))))))))))))))) (t_309_L710  e hK)
    · refine Rn_ifF hc rfl rfl (by decide) b102 ?_
      refine Rn_ms (σ' := (707, [some (vR 1), none, some (vI c2), some (vI c3), none, none, none, none, none, none, none, none, none, none, none, some (vI c15), some (vI k100.1)], [vI 4, vI c2], (G0, k100.2))) hc 2 rfl ?_
      refine R_ite e (fun b109 e => ?_) (fun b109 e => ?_)
      · refine Rn_icT (tgt := 715) hc rfl rfl (by decide) b109 ?_
        show Rn rom (d + 7) 114 (715, [some (vR 1), none, some (vI c2), some (vI c3), none, none, none, none, none, none, none, none, none, none, none, some (vI c15), some (vI k100.1)], [], (G0, k100.2)) out
        exact Rn_weak (xle_s (xle_s (xle_n (xle_s (xle_s (xle_s (xle_s (xle_s (xle_s (xle_s (xle_s (xle_s (xle_s (xle_s (xle_s (xle_s (xle_n xle_0))))))))))))))))) (t_309_L715  e hK)
      · refine Rn_icF hc rfl rfl (by decide) b109 ?_
        show Rn rom (d + 7) 114 (710, [some (vR 1), none, some (vI c2), some (vI c3), none, none, none, none, none, none, none, none, none, none, none, some (vI c15), some (vI k100.1)], [], (G0, k100.2)) out
        exact Rn_weak (xle_s (xle_s (xle_n (xle_s (xle_s (xle_s (xle_s (xle_s (xle_s (xle_s (xle_s (xle_s (xle_s (xle_s (xle_s (xle_s (xle_s xle_0))))))))))))))))) (t_309_L710  e hK)
def f_309_L21 (rom : xRom) (M : xM) (c1 : Int) (c2 : Int) (s0 : Int) : Option (Int × xM) :=
  (f_119 M 3).bind (fun k3 =>
  (f_302 c1 18).bind (fun k4 =>
  if wr k4 = 0 then
    f_309_L104 rom M c2 s0 k3
  else
  if wr k4 = 1 then
    f_309_L104 rom M c2 s0 k3
  else
  if wr k4 = 2 then
    f_309_L104 rom M c2 s0 k3
  else
  if wr k4 = 3 then
    if wr (xand (xishr c1 5) 3) = 0 then
      (f_98 M).bind (fun k20 =>
      if wr c2 = 0 then
        if wr k20.1 = (-2) then
          some (1, k20.2)
        else
          some (0, k20.2)
      else
        if wr c2 = 4 then
          if wr k20.1 = (-2) then
            some (1, k20.2)
          else
            some (0, k20.2)
        else
          if wr c2 = 1 then
            if wr k20.1 = 0 then
              some (1, k20.2)
            else
              some (0, k20.2)
          else
            if wr k20.1 = 4 then
              some (1, k20.2)
            else
              some (0, k20.2)
      )
    else
      some (1, M)
  else
  if wr k4 = 4 then
    if wr (xand (xishr c1 5) 7) = 0 then
      (f_99 M).bind (fun k30 =>
      if wr c2 = 0 then
        f_309_L255 rom k30.2 k30.1 (-2)
      else
        f_309_L255 rom k30.2 k30.1 k3
      )
    else
      some (1, M)
  else
  if wr k4 = 5 then
    (f_302 (xishr c1 5) 6).bind (fun k38 =>
    (f_104 M k38).bind (fun k39 =>
    (f_302 (xishr c1 5) 6).bind (fun k40 =>
    if wr k40 < wr k3 then
      (f_302 (xishr c1 5) 6).bind (fun k42 =>
      (f_112 k39.2 k42 4).bind (fun k43 =>
      if wr k39.1 = wr k43 then
        some (1, k39.2)
      else
        some (0, k39.2)
      ))
    else
      if wr k39.1 = (-1) then
        some (1, k39.2)
      else
        some (0, k39.2)
    )))
  else
  if wr k4 = 6 then
    (f_119 M 9).bind (fun k47 =>
    (f_105 M).bind (fun k48 =>
    if wr k48.1 = wr (1 - k47) then
      (f_119 k48.2 9).bind (fun k50 =>
      if wr k50 = wr (1 - k47) then
        some (1, k48.2)
      else
        some (0, k48.2)
      )
    else
      some (0, k48.2)
    ))
  else
  if wr k4 = 7 then
    (f_302 (xishr c1 5) 3).bind (fun k53 =>
    if wr k53 = 0 then
      (f_302 (xishr c1 7) 15).bind (fun k55 =>
      f_309_L428 rom M k53 (2 + k55)
      )
    else
      if wr k53 = 1 then
        (f_302 (xishr c1 7) 9).bind (fun k62 =>
        f_309_L428 rom M k53 k62
        )
      else
        (f_302 (xishr c1 7) 101).bind (fun k63 =>
        f_309_L428 rom M k53 k63
        )
    )
  else
  if wr k4 = 8 then
    (f_102 M).bind (fun k65 =>
    if wr s0 = 0 then
      if 2 ≤ wr k3 then
        if wr k65.1 = wr (k3 - 1) then
          some (1, k65.2)
        else
          some (0, k65.2)
      else
        if wr k65.1 = (-2) then
          some (1, k65.2)
        else
          some (0, k65.2)
    else
      if wr k65.1 = (-2) then
        some (1, k65.2)
      else
        some (0, k65.2)
    )
  else
  if wr k4 = 9 then
    (f_119 M 4).bind (fun k72 =>
    (f_103 M).bind (fun k73 =>
    if wr s0 = 0 then
      if wr k72 = 0 then
        if wr k73.1 = (-2) then
          some (1, k73.2)
        else
          some (0, k73.2)
      else
        if wr k73.1 = wr (k3 + 1) then
          some (1, k73.2)
        else
          some (0, k73.2)
    else
      if wr k73.1 = (-2) then
        some (1, k73.2)
      else
        some (0, k73.2)
    ))
  else
  if wr k4 = 10 then
    f_309_L548 rom M c1 s0
  else
  if wr k4 = 11 then
    f_309_L548 rom M c1 s0
  else
  if wr k4 = 12 then
    f_309_L548 rom M c1 s0
  else
  if wr k4 = 13 then
    f_309_L548 rom M c1 s0
  else
  (f_119 M 15).bind (fun k97 =>
  if wr (xand (xishr c1 9) 3) = 0 then
    f_309_L687 rom M c2 s0 k97 1 (xishr c1 5) 60
  else
    f_309_L687 rom M c2 s0 k97 1 (xishr c1 5) 9
  )
  ))
set_option maxRecDepth 100000 in
set_option maxHeartbeats 4000000 in
theorem t_309_L21 {rom : xRom} {d : Nat} {c1 : Int} {c2 : Int} {s0 : Int} {M : xM} {r : Int × xM} {out : Option xV × xH} (e : f_309_L21 rom M c1 c2 s0 = some r) (hK : (eIW out) r) : Rn rom (d + 7) 114 (21, [some (vR 1), some (vI c1), some (vI c2), none, none, none, none, none, none, none, none, none, none, none, none, none, none], [vI s0], (G0, M)) out := by
  have hc : xkall.getD 114 [] = xk_114 := rfl
  unfold f_309_L21 at e
  refine Rn_ms (σ' := (24, [some (vR 1), some (vI c1), some (vI c2), some (vI s0), none, none, none, none, none, none, none, none, none, none, none, none, none], [vI 3, vR 1], (G0, M))) hc 3 rfl ?_
  refine R_bind e (fun k3 hk3 e => ?_)
  refine Rn_cv hc rfl rfl (by decide) (ii := xi_89) rfl rfl rfl (tgc_1 : Tg _ = 10) (by decide) rfl (le := [some (vR 1), some (vI 3)]) rfl (v := some (vI k3)) (M' := M) (t_119  (d := d + 3) hk3 rfl) ?_
  refine Rn_ms (σ' := (32, [some (vR 1), some (vI c1), some (vI c2), some (vI s0), some (vI k3), none, none, none, none, none, none, none, none, none, none, none, none], [vI 18, vI c1], (G0, M))) hc 3 rfl ?_
  refine R_bind e (fun k4 hk4 e => ?_)
  refine Rn_cs hc rfl rfl (by decide) (ii := xi_107) rfl rfl rfl (le := [some (vI c1), some (vI 18)]) rfl (v := some (vI k4)) (M' := M) (t_302  (d := d + 6) hk4 rfl) ?_
  show Rn rom (d + 7) 114 (35, [some (vR 1), some (vI c1), some (vI c2), some (vI s0), some (vI k3), none, none, none, none, none, none, none, none, none, none, none, none], [vI k4], (G0, M)) out
  refine R_ite e (fun b5 e => ?_) (fun b5 e => ?_)
  · refine Rn_tsw (off := 69) (tgt := 104) hc rfl rfl (xsw_at b5 (by decide) (by decide) (by decide) rfl) rfl ?_
    show Rn rom (d + 7) 114 (104, [some (vR 1), some (vI c1), some (vI c2), some (vI s0), some (vI k3), none, none, none, none, none, none, none, none, none, none, none, none], [], (G0, M)) out
    exact Rn_weak (xle_s (xle_n (xle_s (xle_s (xle_s (xle_s (xle_s (xle_s (xle_s (xle_s (xle_s (xle_s (xle_s (xle_s (xle_s (xle_s (xle_s xle_0))))))))))))))))) (t_309_L104  e hK)
  refine R_ite e (fun b16 e => ?_) (fun b16 e => ?_)
  · refine Rn_tsw (off := 69) (tgt := 104) hc rfl rfl (xsw_at b16 (by decide) (by decide) (by decide) rfl) rfl ?_
    show Rn rom (d + 7) 114 (104, [some (vR 1), some (vI c1), some (vI c2), some (vI s0), some (vI k3), none, none, none, none, none, none, none, none, none, none, none, none], [], (G0, M)) out
    exact Rn_weak (xle_s (xle_n (xle_s (xle_s (xle_s (xle_s (xle_s (xle_s (xle_s (xle_s (xle_s (xle_s (xle_s (xle_s (xle_s (xle_s (xle_s xle_0))))))))))))))))) (t_309_L104  e hK)
  refine R_ite e (fun b17 e => ?_) (fun b17 e => ?_)
  · refine Rn_tsw (off := 69) (tgt := 104) hc rfl rfl (xsw_at b17 (by decide) (by decide) (by decide) rfl) rfl ?_
    show Rn rom (d + 7) 114 (104, [some (vR 1), some (vI c1), some (vI c2), some (vI s0), some (vI k3), none, none, none, none, none, none, none, none, none, none, none, none], [], (G0, M)) out
    exact Rn_weak (xle_s (xle_n (xle_s (xle_s (xle_s (xle_s (xle_s (xle_s (xle_s (xle_s (xle_s (xle_s (xle_s (xle_s (xle_s (xle_s (xle_s xle_0))))))))))))))))) (t_309_L104  e hK)
  refine R_ite e (fun b18 e => ?_) (fun b18 e => ?_)
  · refine Rn_tsw (off := 151) (tgt := 186) hc rfl rfl (xsw_at b18 (by decide) (by decide) (by decide) rfl) rfl ?_
    refine Rn_ms (σ' := (191, [some (vR 1), some (vI c1), some (vI c2), some (vI s0), some (vI k3), none, none, none, none, none, none, none, none, none, none, none, none], [vI (xand (xishr c1 5) 3)], (G0, M))) hc 5 rfl ?_
    refine R_ite e (fun b19 e => ?_) (fun b19 e => ?_)
    · refine Rn_ifF hc rfl rfl (by decide) (fun w => w b19) ?_
      refine Rn_ms (σ' := (195, [some (vR 1), some (vI c1), some (vI c2), some (vI s0), some (vI k3), none, none, none, none, none, none, none, none, none, none, none, none], [vR 1], (G0, M))) hc 1 rfl ?_
      refine R_bind e (fun k20 hk20 e => ?_)
      refine Rn_cv hc rfl rfl (by decide) (ii := xi_75) rfl rfl rfl (tgc_1 : Tg _ = 10) (by decide) rfl (le := [some (vR 1)]) rfl (v := some (vI k20.1)) (M' := k20.2) (t_98  (d := d + 0) hk20 rfl) ?_
      refine Rn_ms (σ' := (199, [some (vR 1), some (vI c1), some (vI c2), some (vI s0), some (vI k3), none, none, none, none, none, none, none, none, none, none, none, none], [vI c2, vI k20.1], (G0, k20.2))) hc 1 rfl ?_
      refine R_ite e (fun b21 e => ?_) (fun b21 e => ?_)
      · refine Rn_ifT (tgt := 207) hc rfl rfl (by decide) b21 ?_
        refine Rn_ms (σ' := (222, [some (vR 1), some (vI c1), some (vI c2), some (vI s0), some (vI k3), none, none, none, none, none, none, none, none, none, none, none, none], [vI (-2), vI k20.1], (G0, k20.2))) hc 2 rfl ?_
        refine R_ite e (fun b22 e => ?_) (fun b22 e => ?_)
        · refine Rn_icF hc rfl rfl (by decide) (fun w => w b22) ?_
          refine Rn_ms (σ' := (230, [some (vR 1), some (vI c1), some (vI c2), some (vI s0), some (vI k3), none, none, none, none, none, none, none, none, none, none, none, none], [vI 1], (G0, k20.2))) hc 2 rfl ?_
          cases e
          exact R_end (Rn_iret hc rfl rfl (xretB rfl rfl (by decide))) hK
        · refine Rn_icT (tgt := 229) hc rfl rfl (by decide) (fun w => b22 w) ?_
          refine Rn_ms (σ' := (230, [some (vR 1), some (vI c1), some (vI c2), some (vI s0), some (vI k3), none, none, none, none, none, none, none, none, none, none, none, none], [vI 0], (G0, k20.2))) hc 1 rfl ?_
          cases e
          exact R_end (Rn_iret hc rfl rfl (xretB rfl rfl (by decide))) hK
      · refine Rn_ifF hc rfl rfl (by decide) b21 ?_
        refine Rn_ms (σ' := (204, [some (vR 1), some (vI c1), some (vI c2), some (vI s0), some (vI k3), none, none, none, none, none, none, none, none, none, none, none, none], [vI 4, vI c2, vI k20.1], (G0, k20.2))) hc 2 rfl ?_
        refine R_ite e (fun b23 e => ?_) (fun b23 e => ?_)
        · refine Rn_icF hc rfl rfl (by decide) (fun w => w b23) ?_
          refine Rn_ms (σ' := (222, [some (vR 1), some (vI c1), some (vI c2), some (vI s0), some (vI k3), none, none, none, none, none, none, none, none, none, none, none, none], [vI (-2), vI k20.1], (G0, k20.2))) hc 2 rfl ?_
          refine R_ite e (fun b24 e => ?_) (fun b24 e => ?_)
          · refine Rn_icF hc rfl rfl (by decide) (fun w => w b24) ?_
            refine Rn_ms (σ' := (230, [some (vR 1), some (vI c1), some (vI c2), some (vI s0), some (vI k3), none, none, none, none, none, none, none, none, none, none, none, none], [vI 1], (G0, k20.2))) hc 2 rfl ?_
            cases e
            exact R_end (Rn_iret hc rfl rfl (xretB rfl rfl (by decide))) hK
          · refine Rn_icT (tgt := 229) hc rfl rfl (by decide) (fun w => b24 w) ?_
            refine Rn_ms (σ' := (230, [some (vR 1), some (vI c1), some (vI c2), some (vI s0), some (vI k3), none, none, none, none, none, none, none, none, none, none, none, none], [vI 0], (G0, k20.2))) hc 1 rfl ?_
            cases e
            exact R_end (Rn_iret hc rfl rfl (xretB rfl rfl (by decide))) hK
        · refine Rn_icT (tgt := 212) hc rfl rfl (by decide) (fun w => b23 w) ?_
          refine Rn_ms (σ' := (214, [some (vR 1), some (vI c1), some (vI c2), some (vI s0), some (vI k3), none, none, none, none, none, none, none, none, none, none, none, none], [vI 1, vI c2, vI k20.1], (G0, k20.2))) hc 2 rfl ?_
          refine R_ite e (fun b25 e => ?_) (fun b25 e => ?_)
          · refine Rn_icF hc rfl rfl (by decide) (fun w => w b25) ?_
            refine Rn_ms (σ' := (222, [some (vR 1), some (vI c1), some (vI c2), some (vI s0), some (vI k3), none, none, none, none, none, none, none, none, none, none, none, none], [vI 0, vI k20.1], (G0, k20.2))) hc 2 rfl ?_
            refine R_ite e (fun b26 e => ?_) (fun b26 e => ?_)
            · refine Rn_icF hc rfl rfl (by decide) (fun w => w b26) ?_
              refine Rn_ms (σ' := (230, [some (vR 1), some (vI c1), some (vI c2), some (vI s0), some (vI k3), none, none, none, none, none, none, none, none, none, none, none, none], [vI 1], (G0, k20.2))) hc 2 rfl ?_
              cases e
              exact R_end (Rn_iret hc rfl rfl (xretB rfl rfl (by decide))) hK
            · refine Rn_icT (tgt := 229) hc rfl rfl (by decide) (fun w => b26 w) ?_
              refine Rn_ms (σ' := (230, [some (vR 1), some (vI c1), some (vI c2), some (vI s0), some (vI k3), none, none, none, none, none, none, none, none, none, none, none, none], [vI 0], (G0, k20.2))) hc 1 rfl ?_
              cases e
              exact R_end (Rn_iret hc rfl rfl (xretB rfl rfl (by decide))) hK
          · refine Rn_icT (tgt := 221) hc rfl rfl (by decide) (fun w => b25 w) ?_
            refine Rn_ms (σ' := (222, [some (vR 1), some (vI c1), some (vI c2), some (vI s0), some (vI k3), none, none, none, none, none, none, none, none, none, none, none, none], [vI 4, vI k20.1], (G0, k20.2))) hc 1 rfl ?_
            refine R_ite e (fun b27 e => ?_) (fun b27 e => ?_)
            · refine Rn_icF hc rfl rfl (by decide) (fun w => w b27) ?_
              refine Rn_ms (σ' := (230, [some (vR 1), some (vI c1), some (vI c2), some (vI s0), some (vI k3), none, none, none, none, none, none, none, none, none, none, none, none], [vI 1], (G0, k20.2))) hc 2 rfl ?_
              cases e
              exact R_end (Rn_iret hc rfl rfl (xretB rfl rfl (by decide))) hK
            · refine Rn_icT (tgt := 229) hc rfl rfl (by decide) (fun w => b27 w) ?_
              refine Rn_ms (σ' := (230, [some (vR 1), some (vI c1), some (vI c2), some (vI s0), some (vI k3), none, none, none, none, none, none, none, none, none, none, none, none], [vI 0], (G0, k20.2))) hc 1 rfl ?_
              cases e
              exact R_end (Rn_iret hc rfl rfl (xretB rfl rfl (by decide))) hK
    · refine Rn_ifT (tgt := 225) hc rfl rfl (by decide) (fun w => b19 w) ?_
      refine Rn_ms (σ' := (230, [some (vR 1), some (vI c1), some (vI c2), some (vI s0), some (vI k3), none, none, none, none, none, none, none, none, none, none, none, none], [vI 1], (G0, M))) hc 2 rfl ?_
      cases e
      exact R_end (Rn_iret hc rfl rfl (xretB rfl rfl (by decide))) hK
  refine R_ite e (fun b28 e => ?_) (fun b28 e => ?_)
  · refine Rn_tsw (off := 196) (tgt := 231) hc rfl rfl (xsw_at b28 (by decide) (by decide) (by decide) rfl) rfl ?_
    refine Rn_ms (σ' := (237, [some (vR 1), some (vI c1), some (vI c2), some (vI s0), some (vI k3), none, none, none, none, none, none, none, none, none, none, none, none], [vI (xand (xishr c1 5) 7)], (G0, M))) hc 5 rfl ?_
    refine R_ite e (fun b29 e => ?_) (fun b29 e => ?_)
    · refine Rn_ifF hc rfl rfl (by decide) (fun w => w b29) ?_
      refine Rn_ms (σ' := (241, [some (vR 1), some (vI c1), some (vI c2), some (vI s0), some (vI k3), none, none, none, none, none, none, none, none, none, none, none, none], [vR 1], (G0, M))) hc 1 rfl ?_
      refine R_bind e (fun k30 hk30 e => ?_)
      refine Rn_cv hc rfl rfl (by decide) (ii := xi_76) rfl rfl rfl (tgc_1 : Tg _ = 10) (by decide) rfl (le := [some (vR 1)]) rfl (v := some (vI k30.1)) (M' := k30.2) (t_99  (d := d + 0) hk30 rfl) ?_
      refine Rn_ms (σ' := (245, [some (vR 1), some (vI c1), some (vI c2), some (vI s0), some (vI k3), none, none, none, none, none, none, none, none, none, none, none, none], [vI c2, vI k30.1], (G0, k30.2))) hc 1 rfl ?_
      refine R_ite e (fun b31 e => ?_) (fun b31 e => ?_)
      · refine Rn_ifF hc rfl rfl (by decide) (fun w => w b31) ?_
        refine Rn_ms (σ' := (255, [some (vR 1), some (vI c1), some (vI c2), some (vI s0), some (vI k3), none, none, none, none, none, none, none, none, none, none, none, none], [vI (-2), vI k30.1], (G0, k30.2))) hc 2 rfl ?_
        exact Rn_weak (xle_s (xle_n (xle_n (xle_n (xle_n (xle_s (xle_s (xle_s (xle_s (xle_s (xle_s (xle_s (xle_s (xle_s (xle_s (xle_s (xle_s xle_0))))))))))))))))) (t_309_L255  e hK)
      · refine Rn_ifT (tgt := 253) hc rfl rfl (by decide) (fun w => b31 w) ?_
        refine Rn_ms (σ' := (255, [some (vR 1), some (vI c1), some (vI c2), some (vI s0), some (vI k3), none, none, none, none, none, none, none, none, none, none, none, none], [vI k3, vI k30.1], (G0, k30.2))) hc 1 rfl ?_
        exact Rn_weak (xle_s (xle_n (xle_n (xle_n (xle_n (xle_s (xle_s (xle_s (xle_s (xle_s (xle_s (xle_s (xle_s (xle_s (xle_s (xle_s (xle_s xle_0))))))))))))))))) (t_309_L255  e hK)
    · refine Rn_ifT (tgt := 278) hc rfl rfl (by decide) (fun w => b29 w) ?_
      refine Rn_ms (σ' := (283, [some (vR 1), some (vI c1), some (vI c2), some (vI s0), some (vI k3), none, none, none, none, none, none, none, none, none, none, none, none], [vI 1], (G0, M))) hc 2 rfl ?_
      cases e
      exact R_end (Rn_iret hc rfl rfl (xretB rfl rfl (by decide))) hK
  refine R_ite e (fun b37 e => ?_) (fun b37 e => ?_)
  · refine Rn_tsw (off := 249) (tgt := 284) hc rfl rfl (xsw_at b37 (by decide) (by decide) (by decide) rfl) rfl ?_
    refine Rn_ms (σ' := (290, [some (vR 1), some (vI c1), some (vI c2), some (vI s0), some (vI k3), none, none, none, none, none, none, none, none, none, none, none, none], [vI 6, vI (xishr c1 5), vR 1], (G0, M))) hc 5 rfl ?_
    refine R_bind e (fun k38 hk38 e => ?_)
    refine Rn_cs hc rfl rfl (by decide) (ii := xi_107) rfl rfl rfl (le := [some (vI (xishr c1 5)), some (vI 6)]) rfl (v := some (vI k38)) (M' := M) (t_302  (d := d + 6) hk38 rfl) ?_
    show Rn rom (d + 7) 114 (293, [some (vR 1), some (vI c1), some (vI c2), some (vI s0), some (vI k3), none, none, none, none, none, none, none, none, none, none, none, none], [vI k38, vR 1], (G0, M)) out
    refine R_bind e (fun k39 hk39 e => ?_)
    refine Rn_cv hc rfl rfl (by decide) (ii := xi_81) rfl rfl rfl (tgc_1 : Tg _ = 10) (by decide) rfl (le := [some (vR 1), some (vI k38)]) rfl (v := some (vI k39.1)) (M' := k39.2) (t_104  (d := d + 0) hk39 rfl) ?_
    refine Rn_ms (σ' := (301, [some (vR 1), some (vI c1), some (vI c2), some (vI s0), some (vI k3), none, none, none, none, none, none, none, none, none, none, none, none], [vI 6, vI (xishr c1 5), vI k39.1], (G0, k39.2))) hc 4 rfl ?_
    refine R_bind e (fun k40 hk40 e => ?_)
    refine Rn_cs hc rfl rfl (by decide) (ii := xi_107) rfl rfl rfl (le := [some (vI (xishr c1 5)), some (vI 6)]) rfl (v := some (vI k40)) (M' := k39.2) (t_302  (d := d + 6) hk40 rfl) ?_
    refine Rn_ms (σ' := (306, [some (vR 1), some (vI c1), some (vI c2), some (vI s0), some (vI k3), none, none, none, none, none, none, none, none, none, none, none, none], [vI k3, vI k40, vI k39.1], (G0, k39.2))) hc 1 rfl ?_
    refine R_ite e (fun b41 e => ?_) (fun b41 e => ?_)
    · refine Rn_icT (tgt := 313) hc rfl rfl (by decide) b41 ?_
      refine Rn_ms (σ' := (319, [some (vR 1), some (vI c1), some (vI c2), some (vI s0), some (vI k3), none, none, none, none, none, none, none, none, none, none, none, none], [vI 6, vI (xishr c1 5), vR 1, vI k39.1], (G0, k39.2))) hc 5 rfl ?_
      refine R_bind e (fun k42 hk42 e => ?_)
      refine Rn_cs hc rfl rfl (by decide) (ii := xi_107) rfl rfl rfl (le := [some (vI (xishr c1 5)), some (vI 6)]) rfl (v := some (vI k42)) (M' := k39.2) (t_302  (d := d + 6) hk42 rfl) ?_
      refine Rn_ms (σ' := (323, [some (vR 1), some (vI c1), some (vI c2), some (vI s0), some (vI k3), none, none, none, none, none, none, none, none, none, none, none, none], [vI 4, vI k42, vR 1, vI k39.1], (G0, k39.2))) hc 1 rfl ?_
      refine R_bind e (fun k43 hk43 e => ?_)
      refine Rn_cv hc rfl rfl (by decide) (ii := xi_84) rfl rfl rfl (tgc_1 : Tg _ = 10) (by decide) rfl (le := [some (vR 1), some (vI k42), some (vI 4), none]) rfl (v := some (vI k43)) (M' := k39.2) (t_112  (d := d + 3) hk43 rfl) ?_
      show Rn rom (d + 7) 114 (326, [some (vR 1), some (vI c1), some (vI c2), some (vI s0), some (vI k3), none, none, none, none, none, none, none, none, none, none, none, none], [vI k43, vI k39.1], (G0, k39.2)) out
      refine R_ite e (fun b44 e => ?_) (fun b44 e => ?_)
      · refine Rn_icF hc rfl rfl (by decide) (fun w => w b44) ?_
        refine Rn_ms (σ' := (334, [some (vR 1), some (vI c1), some (vI c2), some (vI s0), some (vI k3), none, none, none, none, none, none, none, none, none, none, none, none], [vI 1], (G0, k39.2))) hc 2 rfl ?_
        cases e
        exact R_end (Rn_iret hc rfl rfl (xretB rfl rfl (by decide))) hK
      · refine Rn_icT (tgt := 333) hc rfl rfl (by decide) (fun w => b44 w) ?_
        refine Rn_ms (σ' := (334, [some (vR 1), some (vI c1), some (vI c2), some (vI s0), some (vI k3), none, none, none, none, none, none, none, none, none, none, none, none], [vI 0], (G0, k39.2))) hc 1 rfl ?_
        cases e
        exact R_end (Rn_iret hc rfl rfl (xretB rfl rfl (by decide))) hK
    · refine Rn_icF hc rfl rfl (by decide) b41 ?_
      refine Rn_ms (σ' := (326, [some (vR 1), some (vI c1), some (vI c2), some (vI s0), some (vI k3), none, none, none, none, none, none, none, none, none, none, none, none], [vI (-1), vI k39.1], (G0, k39.2))) hc 2 rfl ?_
      refine R_ite e (fun b45 e => ?_) (fun b45 e => ?_)
      · refine Rn_icF hc rfl rfl (by decide) (fun w => w b45) ?_
        refine Rn_ms (σ' := (334, [some (vR 1), some (vI c1), some (vI c2), some (vI s0), some (vI k3), none, none, none, none, none, none, none, none, none, none, none, none], [vI 1], (G0, k39.2))) hc 2 rfl ?_
        cases e
        exact R_end (Rn_iret hc rfl rfl (xretB rfl rfl (by decide))) hK
      · refine Rn_icT (tgt := 333) hc rfl rfl (by decide) (fun w => b45 w) ?_
        refine Rn_ms (σ' := (334, [some (vR 1), some (vI c1), some (vI c2), some (vI s0), some (vI k3), none, none, none, none, none, none, none, none, none, none, none, none], [vI 0], (G0, k39.2))) hc 1 rfl ?_
        cases e
        exact R_end (Rn_iret hc rfl rfl (xretB rfl rfl (by decide))) hK
  refine R_ite e (fun b46 e => ?_) (fun b46 e => ?_)
  · refine Rn_tsw (off := 300) (tgt := 335) hc rfl rfl (xsw_at b46 (by decide) (by decide) (by decide) rfl) rfl ?_
    refine Rn_ms (σ' := (338, [some (vR 1), some (vI c1), some (vI c2), some (vI s0), some (vI k3), none, none, none, none, none, none, none, none, none, none, none, none], [vI 9, vR 1], (G0, M))) hc 2 rfl ?_
    refine R_bind e (fun k47 hk47 e => ?_)
    refine Rn_cv hc rfl rfl (by decide) (ii := xi_89) rfl rfl rfl (tgc_1 : Tg _ = 10) (by decide) rfl (le := [some (vR 1), some (vI 9)]) rfl (v := some (vI k47)) (M' := M) (t_119  (d := d + 3) hk47 rfl) ?_
    refine Rn_ms (σ' := (344, [some (vR 1), some (vI c1), some (vI c2), some (vI s0), some (vI k3), none, none, some (vI k47), none, none, none, none, none, none, none, none, none], [vR 1], (G0, M))) hc 2 rfl ?_
    refine R_bind e (fun k48 hk48 e => ?_)
    refine Rn_cv hc rfl rfl (by decide) (ii := xi_82) rfl rfl rfl (tgc_1 : Tg _ = 10) (by decide) rfl (le := [some (vR 1)]) rfl (v := some (vI k48.1)) (M' := k48.2) (t_105  (d := d + 0) hk48 rfl) ?_
    refine Rn_ms (σ' := (351, [some (vR 1), some (vI c1), some (vI c2), some (vI s0), some (vI k3), none, none, some (vI k47), none, none, none, none, none, none, none, none, none], [vI (1 - k47), vI k48.1], (G0, k48.2))) hc 3 rfl ?_
    refine R_ite e (fun b49 e => ?_) (fun b49 e => ?_)
    · refine Rn_icF hc rfl rfl (by decide) (fun w => w b49) ?_
      refine Rn_ms (σ' := (357, [some (vR 1), some (vI c1), some (vI c2), some (vI s0), some (vI k3), none, none, some (vI k47), none, none, none, none, none, none, none, none, none], [vI 9, vR 1], (G0, k48.2))) hc 2 rfl ?_
      refine R_bind e (fun k50 hk50 e => ?_)
      refine Rn_cv hc rfl rfl (by decide) (ii := xi_89) rfl rfl rfl (tgc_1 : Tg _ = 10) (by decide) rfl (le := [some (vR 1), some (vI 9)]) rfl (v := some (vI k50)) (M' := k48.2) (t_119  (d := d + 3) hk50 rfl) ?_
      refine Rn_ms (σ' := (364, [some (vR 1), some (vI c1), some (vI c2), some (vI s0), some (vI k3), none, none, some (vI k47), none, none, none, none, none, none, none, none, none], [vI (1 - k47), vI k50], (G0, k48.2))) hc 3 rfl ?_
      refine R_ite e (fun b51 e => ?_) (fun b51 e => ?_)
      · refine Rn_icF hc rfl rfl (by decide) (fun w => w b51) ?_
        refine Rn_ms (σ' := (372, [some (vR 1), some (vI c1), some (vI c2), some (vI s0), some (vI k3), none, none, some (vI k47), none, none, none, none, none, none, none, none, none], [vI 1], (G0, k48.2))) hc 2 rfl ?_
        cases e
        exact R_end (Rn_iret hc rfl rfl (xretB rfl rfl (by decide))) hK
      · refine Rn_icT (tgt := 371) hc rfl rfl (by decide) (fun w => b51 w) ?_
        refine Rn_ms (σ' := (372, [some (vR 1), some (vI c1), some (vI c2), some (vI s0), some (vI k3), none, none, some (vI k47), none, none, none, none, none, none, none, none, none], [vI 0], (G0, k48.2))) hc 1 rfl ?_
        cases e
        exact R_end (Rn_iret hc rfl rfl (xretB rfl rfl (by decide))) hK
    · refine Rn_icT (tgt := 371) hc rfl rfl (by decide) (fun w => b49 w) ?_
      refine Rn_ms (σ' := (372, [some (vR 1), some (vI c1), some (vI c2), some (vI s0), some (vI k3), none, none, some (vI k47), none, none, none, none, none, none, none, none, none], [vI 0], (G0, k48.2))) hc 1 rfl ?_
      cases e
      exact R_end (Rn_iret hc rfl rfl (xretB rfl rfl (by decide))) hK
  refine R_ite e (fun b52 e => ?_) (fun b52 e => ?_)
  · refine Rn_tsw (off := 338) (tgt := 373) hc rfl rfl (xsw_at b52 (by decide) (by decide) (by decide) rfl) rfl ?_
    refine Rn_ms (σ' := (377, [some (vR 1), some (vI c1), some (vI c2), some (vI s0), some (vI k3), none, none, none, none, none, none, none, none, none, none, none, none], [vI 3, vI (xishr c1 5)], (G0, M))) hc 4 rfl ?_
    refine R_bind e (fun k53 hk53 e => ?_)
    refine Rn_cs hc rfl rfl (by decide) (ii := xi_107) rfl rfl rfl (le := [some (vI (xishr c1 5)), some (vI 3)]) rfl (v := some (vI k53)) (M' := M) (t_302  (d := d + 6) hk53 rfl) ?_
    refine Rn_ms (σ' := (384, [some (vR 1), some (vI c1), some (vI c2), some (vI s0), some (vI k3), none, none, none, some (vI k53), none, none, none, none, none, none, none, none], [vI k53], (G0, M))) hc 2 rfl ?_
    refine R_ite e (fun b54 e => ?_) (fun b54 e => ?_)
    · refine Rn_ifF hc rfl rfl (by decide) (fun w => w b54) ?_
      refine Rn_ms (σ' := (394, [some (vR 1), some (vI c1), some (vI c2), some (vI s0), some (vI k3), none, none, none, some (vI k53), none, none, none, none, none, none, none, none], [vI 15, vI (xishr c1 7), vI 2], (G0, M))) hc 5 rfl ?_
      refine R_bind e (fun k55 hk55 e => ?_)
      refine Rn_cs hc rfl rfl (by decide) (ii := xi_107) rfl rfl rfl (le := [some (vI (xishr c1 7)), some (vI 15)]) rfl (v := some (vI k55)) (M' := M) (t_302  (d := d + 6) hk55 rfl) ?_
      refine Rn_ms (σ' := (428, [some (vR 1), some (vI c1), some (vI c2), some (vI s0), some (vI k3), none, none, none, some (vI k53), none, none, none, none, none, none, none, none], [vI (2 + k55)], (G0, M))) hc 2 rfl ?_
      exact Rn_weak (xle_s (xle_n (xle_n (xle_n (xle_n (xle_s (xle_s (xle_s (xle_s (xle_s (xle_s (xle_s (xle_s (xle_s (xle_s (xle_s (xle_s xle_0))))))))))))))))) (t_309_L428  e hK)
    · refine Rn_ifT (tgt := 401) hc rfl rfl (by decide) (fun w => b54 w) ?_
      refine Rn_ms (σ' := (404, [some (vR 1), some (vI c1), some (vI c2), some (vI s0), some (vI k3), none, none, none, some (vI k53), none, none, none, none, none, none, none, none], [vI 1, vI k53], (G0, M))) hc 2 rfl ?_
      refine R_ite e (fun b61 e => ?_) (fun b61 e => ?_)
      · refine Rn_icF hc rfl rfl (by decide) (fun w => w b61) ?_
        refine Rn_ms (σ' := (413, [some (vR 1), some (vI c1), some (vI c2), some (vI s0), some (vI k3), none, none, none, some (vI k53), none, none, none, none, none, none, none, none], [vI 9, vI (xishr c1 7)], (G0, M))) hc 4 rfl ?_
        refine R_bind e (fun k62 hk62 e => ?_)
        refine Rn_cs hc rfl rfl (by decide) (ii := xi_107) rfl rfl rfl (le := [some (vI (xishr c1 7)), some (vI 9)]) rfl (v := some (vI k62)) (M' := M) (t_302  (d := d + 6) hk62 rfl) ?_
        refine Rn_ms (σ' := (428, [some (vR 1), some (vI c1), some (vI c2), some (vI s0), some (vI k3), none, none, none, some (vI k53), none, none, none, none, none, none, none, none], [vI k62], (G0, M))) hc 1 rfl ?_
        exact Rn_weak (xle_s (xle_n (xle_n (xle_n (xle_n (xle_s (xle_s (xle_s (xle_s (xle_s (xle_s (xle_s (xle_s (xle_s (xle_s (xle_s (xle_s xle_0))))))))))))))))) (t_309_L428  e hK)
      · refine Rn_icT (tgt := 419) hc rfl rfl (by decide) (fun w => b61 w) ?_
        refine Rn_ms (σ' := (425, [some (vR 1), some (vI c1), some (vI c2), some (vI s0), some (vI k3), none, none, none, some (vI k53), none, none, none, none, none, none, none, none], [vI 101, vI (xishr c1 7)], (G0, M))) hc 4 rfl ?_
        refine R_bind e (fun k63 hk63 e => ?_)
        refine Rn_cs hc rfl rfl (by decide) (ii := xi_107) rfl rfl rfl (le := [some (vI (xishr c1 7)), some (vI 101)]) rfl (v := some (vI k63)) (M' := M) (t_302  (d := d + 6) hk63 rfl) ?_
        show Rn rom (d + 7) 114 (428, [some (vR 1), some (vI c1), some (vI c2), some (vI s0), some (vI k3), none, none, none, some (vI k53), none, none, none, none, none, none, none, none], [vI k63], (G0, M)) out
        exact Rn_weak (xle_s (xle_n (xle_n (xle_n (xle_n (xle_s (xle_s (xle_s (xle_s (xle_s (xle_s (xle_s (xle_s (xle_s (xle_s (xle_s (xle_s xle_0))))))))))))))))) (t_309_L428  e hK)
  refine R_ite e (fun b64 e => ?_) (fun b64 e => ?_)
  · refine Rn_tsw (off := 439) (tgt := 474) hc rfl rfl (xsw_at b64 (by decide) (by decide) (by decide) rfl) rfl ?_
    refine Rn_ms (σ' := (475, [some (vR 1), some (vI c1), some (vI c2), some (vI s0), some (vI k3), none, none, none, none, none, none, none, none, none, none, none, none], [vR 1], (G0, M))) hc 1 rfl ?_
    refine R_bind e (fun k65 hk65 e => ?_)
    refine Rn_cv hc rfl rfl (by decide) (ii := xi_79) rfl rfl rfl (tgc_1 : Tg _ = 10) (by decide) rfl (le := [some (vR 1)]) rfl (v := some (vI k65.1)) (M' := k65.2) (t_102  (d := d + 0) hk65 rfl) ?_
    refine Rn_ms (σ' := (483, [some (vR 1), some (vI c1), some (vI c2), some (vI s0), some (vI k3), none, none, none, none, none, none, some (vI k65.1), none, none, none, none, none], [vI s0, vI k65.1], (G0, k65.2))) hc 3 rfl ?_
    refine R_ite e (fun b66 e => ?_) (fun b66 e => ?_)
    · refine Rn_ifF hc rfl rfl (by decide) (fun w => w b66) ?_
      refine Rn_ms (σ' := (489, [some (vR 1), some (vI c1), some (vI c2), some (vI s0), some (vI k3), none, none, none, none, none, none, some (vI k65.1), none, none, none, none, none], [vI 2, vI k3, vI k65.1], (G0, k65.2))) hc 2 rfl ?_
      refine R_ite e (fun b67 e => ?_) (fun b67 e => ?_)
      · refine Rn_icT (tgt := 497) hc rfl rfl (by decide) b67 ?_
        refine Rn_ms (σ' := (501, [some (vR 1), some (vI c1), some (vI c2), some (vI s0), some (vI k3), none, none, none, none, none, none, some (vI k65.1), none, none, none, none, none], [vI (k3 - 1), vI k65.1], (G0, k65.2))) hc 3 rfl ?_
        refine R_ite e (fun b68 e => ?_) (fun b68 e => ?_)
        · refine Rn_icF hc rfl rfl (by decide) (fun w => w b68) ?_
          refine Rn_ms (σ' := (509, [some (vR 1), some (vI c1), some (vI c2), some (vI s0), some (vI k3), none, none, none, none, none, none, some (vI k65.1), none, none, none, none, none], [vI 1], (G0, k65.2))) hc 2 rfl ?_
          cases e
          exact R_end (Rn_iret hc rfl rfl (xretB rfl rfl (by decide))) hK
        · refine Rn_icT (tgt := 508) hc rfl rfl (by decide) (fun w => b68 w) ?_
          refine Rn_ms (σ' := (509, [some (vR 1), some (vI c1), some (vI c2), some (vI s0), some (vI k3), none, none, none, none, none, none, some (vI k65.1), none, none, none, none, none], [vI 0], (G0, k65.2))) hc 1 rfl ?_
          cases e
          exact R_end (Rn_iret hc rfl rfl (xretB rfl rfl (by decide))) hK
      · refine Rn_icF hc rfl rfl (by decide) b67 ?_
        refine Rn_ms (σ' := (501, [some (vR 1), some (vI c1), some (vI c2), some (vI s0), some (vI k3), none, none, none, none, none, none, some (vI k65.1), none, none, none, none, none], [vI (-2), vI k65.1], (G0, k65.2))) hc 2 rfl ?_
        refine R_ite e (fun b69 e => ?_) (fun b69 e => ?_)
        · refine Rn_icF hc rfl rfl (by decide) (fun w => w b69) ?_
          refine Rn_ms (σ' := (509, [some (vR 1), some (vI c1), some (vI c2), some (vI s0), some (vI k3), none, none, none, none, none, none, some (vI k65.1), none, none, none, none, none], [vI 1], (G0, k65.2))) hc 2 rfl ?_
          cases e
          exact R_end (Rn_iret hc rfl rfl (xretB rfl rfl (by decide))) hK
        · refine Rn_icT (tgt := 508) hc rfl rfl (by decide) (fun w => b69 w) ?_
          refine Rn_ms (σ' := (509, [some (vR 1), some (vI c1), some (vI c2), some (vI s0), some (vI k3), none, none, none, none, none, none, some (vI k65.1), none, none, none, none, none], [vI 0], (G0, k65.2))) hc 1 rfl ?_
          cases e
          exact R_end (Rn_iret hc rfl rfl (xretB rfl rfl (by decide))) hK
    · refine Rn_ifT (tgt := 492) hc rfl rfl (by decide) (fun w => b66 w) ?_
      refine Rn_ms (σ' := (501, [some (vR 1), some (vI c1), some (vI c2), some (vI s0), some (vI k3), none, none, none, none, none, none, some (vI k65.1), none, none, none, none, none], [vI (-2), vI k65.1], (G0, k65.2))) hc 2 rfl ?_
      refine R_ite e (fun b70 e => ?_) (fun b70 e => ?_)
      · refine Rn_icF hc rfl rfl (by decide) (fun w => w b70) ?_
        refine Rn_ms (σ' := (509, [some (vR 1), some (vI c1), some (vI c2), some (vI s0), some (vI k3), none, none, none, none, none, none, some (vI k65.1), none, none, none, none, none], [vI 1], (G0, k65.2))) hc 2 rfl ?_
        cases e
        exact R_end (Rn_iret hc rfl rfl (xretB rfl rfl (by decide))) hK
      · refine Rn_icT (tgt := 508) hc rfl rfl (by decide) (fun w => b70 w) ?_
        refine Rn_ms (σ' := (509, [some (vR 1), some (vI c1), some (vI c2), some (vI s0), some (vI k3), none, none, none, none, none, none, some (vI k65.1), none, none, none, none, none], [vI 0], (G0, k65.2))) hc 1 rfl ?_
        cases e
        exact R_end (Rn_iret hc rfl rfl (xretB rfl rfl (by decide))) hK
  refine R_ite e (fun b71 e => ?_) (fun b71 e => ?_)
  · refine Rn_tsw (off := 475) (tgt := 510) hc rfl rfl (xsw_at b71 (by decide) (by decide) (by decide) rfl) rfl ?_
    refine Rn_ms (σ' := (512, [some (vR 1), some (vI c1), some (vI c2), some (vI s0), some (vI k3), none, none, none, none, none, none, none, none, none, none, none, none], [vI 4, vR 1], (G0, M))) hc 2 rfl ?_
    refine R_bind e (fun k72 hk72 e => ?_)
    refine Rn_cv hc rfl rfl (by decide) (ii := xi_89) rfl rfl rfl (tgc_1 : Tg _ = 10) (by decide) rfl (le := [some (vR 1), some (vI 4)]) rfl (v := some (vI k72)) (M' := M) (t_119  (d := d + 3) hk72 rfl) ?_
    refine Rn_ms (σ' := (518, [some (vR 1), some (vI c1), some (vI c2), some (vI s0), some (vI k3), none, none, none, none, none, none, none, some (vI k72), none, none, none, none], [vR 1], (G0, M))) hc 2 rfl ?_
    refine R_bind e (fun k73 hk73 e => ?_)
    refine Rn_cv hc rfl rfl (by decide) (ii := xi_80) rfl rfl rfl (tgc_1 : Tg _ = 10) (by decide) rfl (le := [some (vR 1)]) rfl (v := some (vI k73.1)) (M' := k73.2) (t_103  (d := d + 0) hk73 rfl) ?_
    refine Rn_ms (σ' := (522, [some (vR 1), some (vI c1), some (vI c2), some (vI s0), some (vI k3), none, none, none, none, none, none, none, some (vI k72), none, none, none, none], [vI s0, vI k73.1], (G0, k73.2))) hc 1 rfl ?_
    refine R_ite e (fun b74 e => ?_) (fun b74 e => ?_)
    · refine Rn_ifF hc rfl rfl (by decide) (fun w => w b74) ?_
      refine Rn_ms (σ' := (527, [some (vR 1), some (vI c1), some (vI c2), some (vI s0), some (vI k3), none, none, none, none, none, none, none, some (vI k72), none, none, none, none], [vI k72, vI k73.1], (G0, k73.2))) hc 1 rfl ?_
      refine R_ite e (fun b75 e => ?_) (fun b75 e => ?_)
      · refine Rn_ifF hc rfl rfl (by decide) (fun w => w b75) ?_
        refine Rn_ms (σ' := (539, [some (vR 1), some (vI c1), some (vI c2), some (vI s0), some (vI k3), none, none, none, none, none, none, none, some (vI k72), none, none, none, none], [vI (-2), vI k73.1], (G0, k73.2))) hc 2 rfl ?_
        refine R_ite e (fun b76 e => ?_) (fun b76 e => ?_)
        · refine Rn_icF hc rfl rfl (by decide) (fun w => w b76) ?_
          refine Rn_ms (σ' := (547, [some (vR 1), some (vI c1), some (vI c2), some (vI s0), some (vI k3), none, none, none, none, none, none, none, some (vI k72), none, none, none, none], [vI 1], (G0, k73.2))) hc 2 rfl ?_
          cases e
          exact R_end (Rn_iret hc rfl rfl (xretB rfl rfl (by decide))) hK
        · refine Rn_icT (tgt := 546) hc rfl rfl (by decide) (fun w => b76 w) ?_
          refine Rn_ms (σ' := (547, [some (vR 1), some (vI c1), some (vI c2), some (vI s0), some (vI k3), none, none, none, none, none, none, none, some (vI k72), none, none, none, none], [vI 0], (G0, k73.2))) hc 1 rfl ?_
          cases e
          exact R_end (Rn_iret hc rfl rfl (xretB rfl rfl (by decide))) hK
      · refine Rn_ifT (tgt := 535) hc rfl rfl (by decide) (fun w => b75 w) ?_
        refine Rn_ms (σ' := (539, [some (vR 1), some (vI c1), some (vI c2), some (vI s0), some (vI k3), none, none, none, none, none, none, none, some (vI k72), none, none, none, none], [vI (k3 + 1), vI k73.1], (G0, k73.2))) hc 3 rfl ?_
        refine R_ite e (fun b77 e => ?_) (fun b77 e => ?_)
        · refine Rn_icF hc rfl rfl (by decide) (fun w => w b77) ?_
          refine Rn_ms (σ' := (547, [some (vR 1), some (vI c1), some (vI c2), some (vI s0), some (vI k3), none, none, none, none, none, none, none, some (vI k72), none, none, none, none], [vI 1], (G0, k73.2))) hc 2 rfl ?_
          cases e
          exact R_end (Rn_iret hc rfl rfl (xretB rfl rfl (by decide))) hK
        · refine Rn_icT (tgt := 546) hc rfl rfl (by decide) (fun w => b77 w) ?_
          refine Rn_ms (σ' := (547, [some (vR 1), some (vI c1), some (vI c2), some (vI s0), some (vI k3), none, none, none, none, none, none, none, some (vI k72), none, none, none, none], [vI 0], (G0, k73.2))) hc 1 rfl ?_
          cases e
          exact R_end (Rn_iret hc rfl rfl (xretB rfl rfl (by decide))) hK
    · refine Rn_ifT (tgt := 530) hc rfl rfl (by decide) (fun w => b74 w) ?_
      refine Rn_ms (σ' := (539, [some (vR 1), some (vI c1), some (vI c2), some (vI s0), some (vI k3), none, none, none, none, none, none, none, some (vI k72), none, none, none, none], [vI (-2), vI k73.1], (G0, k73.2))) hc 2 rfl ?_
      refine R_ite e (fun b78 e => ?_) (fun b78 e => ?_)
      · refine Rn_icF hc rfl rfl (by decide) (fun w => w b78) ?_
        refine Rn_ms (σ' := (547, [some (vR 1), some (vI c1), some (vI c2), some (vI s0), some (vI k3), none, none, none, none, none, none, none, some (vI k72), none, none, none, none], [vI 1], (G0, k73.2))) hc 2 rfl ?_
        cases e
        exact R_end (Rn_iret hc rfl rfl (xretB rfl rfl (by decide))) hK
      · refine Rn_icT (tgt := 546) hc rfl rfl (by decide) (fun w => b78 w) ?_
        refine Rn_ms (σ' := (547, [some (vR 1), some (vI c1), some (vI c2), some (vI s0), some (vI k3), none, none, none, none, none, none, none, some (vI k72), none, none, none, none], [vI 0], (G0, k73.2))) hc 1 rfl ?_
        cases e
        exact R_end (Rn_iret hc rfl rfl (xretB rfl rfl (by decide))) hK
  refine R_ite e (fun b79 e => ?_) (fun b79 e => ?_)
  · refine Rn_tsw (off := 513) (tgt := 548) hc rfl rfl (xsw_at b79 (by decide) (by decide) (by decide) rfl) rfl ?_
    show Rn rom (d + 7) 114 (548, [some (vR 1), some (vI c1), some (vI c2), some (vI s0), some (vI k3), none, none, none, none, none, none, none, none, none, none, none, none], [], (G0, M)) out
    exact Rn_weak (xle_s (xle_s (xle_n (xle_s (xle_n (xle_s (xle_s (xle_s (xle_s (xle_s (xle_s (xle_s (xle_s (xle_s (xle_s (xle_s (xle_s xle_0))))))))))))))))) (t_309_L548  e hK)
  refine R_ite e (fun b94 e => ?_) (fun b94 e => ?_)
  · refine Rn_tsw (off := 513) (tgt := 548) hc rfl rfl (xsw_at b94 (by decide) (by decide) (by decide) rfl) rfl ?_
    show Rn rom (d + 7) 114 (548, [some (vR 1), some (vI c1), some (vI c2), some (vI s0), some (vI k3), none, none, none, none, none, none, none, none, none, none, none, none], [], (G0, M)) out
    exact Rn_weak (xle_s (xle_s (xle_n (xle_s (xle_n (xle_s (xle_s (xle_s (xle_s (xle_s (xle_s (xle_s (xle_s (xle_s (xle_s (xle_s (xle_s xle_0))))))))))))))))) (t_309_L548  e hK)
  refine R_ite e (fun b95 e => ?_) (fun b95 e => ?_)
  · refine Rn_tsw (off := 513) (tgt := 548) hc rfl rfl (xsw_at b95 (by decide) (by decide) (by decide) rfl) rfl ?_
    show Rn rom (d + 7) 114 (548, [some (vR 1), some (vI c1), some (vI c2), some (vI s0), some (vI k3), none, none, none, none, none, none, none, none, none, none, none, none], [], (G0, M)) out
    exact Rn_weak (xle_s (xle_s (xle_n (xle_s (xle_n (xle_s (xle_s (xle_s (xle_s (xle_s (xle_s (xle_s (xle_s (xle_s (xle_s (xle_s (xle_s xle_0))))))))))))))))) (t_309_L548  e hK)
  refine R_ite e (fun b96 e => ?_) (fun b96 e => ?_)
  · refine Rn_tsw (off := 513) (tgt := 548) hc rfl rfl (xsw_at b96 (by decide) (by decide) (by decide) rfl) rfl ?_
    show Rn rom (d + 7) 114 (548, [some (vR 1), some (vI c1), some (vI c2), some (vI s0), some (vI k3), none, none, none, none, none, none, none, none, none, none, none, none], [], (G0, M)) out
    exact Rn_weak (xle_s (xle_s (xle_n (xle_s (xle_n (xle_s (xle_s (xle_s (xle_s (xle_s (xle_s (xle_s (xle_s (xle_s (xle_s (xle_s (xle_s xle_0))))))))))))))))) (t_309_L548  e hK)
  refine Rn_tsw (off := 623) (tgt := 658) hc rfl rfl (xsw_df (by omega)) rfl ?_
  refine Rn_ms (σ' := (661, [some (vR 1), some (vI c1), some (vI c2), some (vI s0), some (vI k3), none, none, none, none, none, none, none, none, none, none, none, none], [vI 15, vR 1], (G0, M))) hc 2 rfl ?_
  refine R_bind e (fun k97 hk97 e => ?_)
  refine Rn_cv hc rfl rfl (by decide) (ii := xi_89) rfl rfl rfl (tgc_1 : Tg _ = 10) (by decide) rfl (le := [some (vR 1), some (vI 15)]) rfl (v := some (vI k97)) (M' := M) (t_119  (d := d + 3) hk97 rfl) ?_
  refine Rn_ms (σ' := (670, [some (vR 1), some (vI c1), some (vI c2), some (vI s0), some (vI k3), none, none, none, none, none, none, none, none, none, none, some (vI k97), none], [vI 5, vI c1, vI 1, vR 1], (G0, M))) hc 5 rfl ?_
  refine Rn_ms (σ' := (676, [some (vR 1), some (vI c1), some (vI c2), some (vI s0), some (vI k3), none, none, none, none, none, none, none, none, none, none, some (vI k97), none], [vI 3, vI (xishr c1 9), vI (xishr c1 5), vI 1, vR 1], (G0, M))) hc 5 rfl ?_
  refine Rn_ms (σ' := (677, [some (vR 1), some (vI c1), some (vI c2), some (vI s0), some (vI k3), none, none, none, none, none, none, none, none, none, none, some (vI k97), none], [vI (xand (xishr c1 9) 3), vI (xishr c1 5), vI 1, vR 1], (G0, M))) hc 1 rfl ?_
  refine R_ite e (fun b98 e => ?_) (fun b98 e => ?_)
  · refine Rn_ifF hc rfl rfl (by decide) (fun w => w b98) ?_
    refine Rn_ms (σ' := (687, [some (vR 1), some (vI c1), some (vI c2), some (vI s0), some (vI k3), none, none, none, none, none, none, none, none, none, none, some (vI k97), none], [vI 60, vI (xishr c1 5), vI 1, vR 1], (G0, M))) hc 2 rfl ?_
    exact Rn_weak (xle_s (xle_n (xle_s (xle_s (xle_n (xle_s (xle_s (xle_s (xle_s (xle_s (xle_s (xle_s (xle_s (xle_s (xle_s (xle_s (xle_s xle_0))))))))))))))))) (t_309_L687  e hK)
  · refine Rn_ifT (tgt := 685) hc rfl rfl (by decide) (fun w => b98 w) ?_
    refine Rn_ms (σ' := (687, [some (vR 1), some (vI c1), some (vI c2), some (vI s0), some (vI k3), none, none, none, none, none, none, none, none, none, none, some (vI k97), none], [vI 9, vI (xishr c1 5), vI 1, vR 1], (G0, M))) hc 1 rfl ?_
    exact Rn_weak (xle_s (xle_n (xle_s (xle_s (xle_n (xle_s (xle_s (xle_s (xle_s (xle_s (xle_s (xle_s (xle_s (xle_s (xle_s (xle_s (xle_s xle_0))))))))))))))))) (t_309_L687  e hK)
def f_309_L16 (rom : xRom) (M : xM) (c1 : Int) (c2 : Int) : Option (Int × xM) :=
  f_309_L21 rom M c1 c2 1
set_option maxRecDepth 100000 in
set_option maxHeartbeats 4000000 in
theorem t_309_L16 {rom : xRom} {d : Nat} {c1 : Int} {c2 : Int} {M : xM} {r : Int × xM} {out : Option xV × xH} (e : f_309_L16 rom M c1 c2 = some r) (hK : (eIW out) r) : Rn rom (d + 7) 114 (16, [some (vR 1), some (vI c1), some (vI c2), none, none, none, none, none, none, none, none, none, none, none, none, none, none], [], (G0, M)) out := by
  have hc : xkall.getD 114 [] = xk_114 := rfl
  unfold f_309_L16 at e
  refine Rn_ms (σ' := (21, [some (vR 1), some (vI c1), some (vI c2), none, none, none, none, none, none, none, none, none, none, none, none, none, none], [vI 1], (G0, M))) hc 2 rfl ?_
  exact Rn_weak (xle_s (xle_s (xle_s (xle_s (xle_s (xle_s (xle_s (xle_s (xle_s (xle_s (xle_s (xle_s (xle_s (xle_s (xle_s (xle_s (xle_s xle_0))))))))))))))))) (t_309_L21  e hK)
/-- PedalLayersLaw.does -/
def f_309 (rom : xRom) (M : xM) (a1 : Int) : Option (Int × xM) :=
  (f_119 M 0).bind (fun k1 =>
  if wr k1 = 1 then
    f_309_L16 rom M a1 k1
  else
    if wr k1 = 3 then
      f_309_L16 rom M a1 k1
    else
      f_309_L21 rom M a1 k1 0
  )
set_option maxRecDepth 100000 in
set_option maxHeartbeats 4000000 in
theorem t_309 {rom : xRom} {d : Nat} {M : xM} {a1 : Int} {r : Int × xM} {out : Option xV × xH} (e : f_309 rom M a1 = some r) (hK : eIW out r) : Rn rom (d + 7) 114 (0, [some (vR 1), some (vI a1), none, none, none, none, none, none, none, none, none, none, none, none, none, none, none], [], (G0, M)) out := by
  have hc : xkall.getD 114 [] = xk_114 := rfl
  unfold f_309 at e
  refine Rn_ms (σ' := (2, [some (vR 1), some (vI a1), none, none, none, none, none, none, none, none, none, none, none, none, none, none, none], [vI 0, vR 1], (G0, M))) hc 2 rfl ?_
  refine R_bind e (fun k1 hk1 e => ?_)
  refine Rn_cv hc rfl rfl (by decide) (ii := xi_89) rfl rfl rfl (tgc_1 : Tg _ = 10) (by decide) rfl (le := [some (vR 1), some (vI 0)]) rfl (v := some (vI k1)) (M' := M) (t_119  (d := d + 3) hk1 rfl) ?_
  refine Rn_ms (σ' := (8, [some (vR 1), some (vI a1), some (vI k1), none, none, none, none, none, none, none, none, none, none, none, none, none, none], [vI 1, vI k1], (G0, M))) hc 3 rfl ?_
  refine R_ite e (fun b2 e => ?_) (fun b2 e => ?_)
  · refine Rn_icT (tgt := 16) hc rfl rfl (by decide) b2 ?_
    show Rn rom (d + 7) 114 (16, [some (vR 1), some (vI a1), some (vI k1), none, none, none, none, none, none, none, none, none, none, none, none, none, none], [], (G0, M)) out
    exact Rn_weak (xle_s (xle_s (xle_s (xle_s (xle_s (xle_s (xle_s (xle_s (xle_s (xle_s (xle_s (xle_s (xle_s (xle_s (xle_s (xle_s (xle_s xle_0))))))))))))))))) (t_309_L16  e hK)
  · refine Rn_icF hc rfl rfl (by decide) b2 ?_
    refine Rn_ms (σ' := (13, [some (vR 1), some (vI a1), some (vI k1), none, none, none, none, none, none, none, none, none, none, none, none, none, none], [vI 3, vI k1], (G0, M))) hc 2 rfl ?_
    refine R_ite e (fun b110 e => ?_) (fun b110 e => ?_)
    · refine Rn_icF hc rfl rfl (by decide) (fun w => w b110) ?_
      show Rn rom (d + 7) 114 (16, [some (vR 1), some (vI a1), some (vI k1), none, none, none, none, none, none, none, none, none, none, none, none, none, none], [], (G0, M)) out
      exact Rn_weak (xle_s (xle_s (xle_s (xle_s (xle_s (xle_s (xle_s (xle_s (xle_s (xle_s (xle_s (xle_s (xle_s (xle_s (xle_s (xle_s (xle_s xle_0))))))))))))))))) (t_309_L16  e hK)
    · refine Rn_icT (tgt := 20) hc rfl rfl (by decide) (fun w => b110 w) ?_
      refine Rn_ms (σ' := (21, [some (vR 1), some (vI a1), some (vI k1), none, none, none, none, none, none, none, none, none, none, none, none, none, none], [vI 0], (G0, M))) hc 1 rfl ?_
      exact Rn_weak (xle_s (xle_s (xle_s (xle_s (xle_s (xle_s (xle_s (xle_s (xle_s (xle_s (xle_s (xle_s (xle_s (xle_s (xle_s (xle_s (xle_s xle_0))))))))))))))))) (t_309_L21  e hK)
def f_310_L198 (rom : xRom) (M : xM) (c2 : Int) : Option ((Int × xM) ⊕ (Int × xM)) :=
  if wr ((wr c2).tmod 12) = 9 then
    (f_308 M).bind (fun k50 =>
    if wr k50.1 = 0 then
      some (.inr ((0, k50.2)))
    else
      some (.inl ((c2 + 1), k50.2))
    )
  else
    some (.inl ((c2 + 1), M))
set_option maxRecDepth 100000 in
set_option maxHeartbeats 4000000 in
theorem t_310_L198 {rom : xRom} {d : Nat} {c2 : Int} {M : xM} {r : (Int × xM) ⊕ (Int × xM)} {out : Option xV × xH} (e : f_310_L198 rom M c2 = some r) (hK : ((Sum.elim (fun s => Rn rom (d + 8) 115 (67, [some (vS 2), some (vR 1), some (vI s.1), none, none, none], [], (G0, s.2)) out) (eIW out))) r) : Rn rom (d + 8) 115 (198, [some (vS 2), some (vR 1), some (vI c2), none, none, none], [], (G0, M)) out := by
  have hc : xkall.getD 115 [] = xk_115 := rfl
  unfold f_310_L198 at e
  refine Rn_ms (σ' := (201, [some (vS 2), some (vR 1), some (vI c2), none, none, none], [vI 12, vI c2], (G0, M))) hc 2 rfl ?_
  refine Rn_rem hc rfl ⟨rfl, rfl⟩ (z' := 12) (by decide) (by decide) ?_
  refine Rn_ms (σ' := (204, [some (vS 2), some (vR 1), some (vI c2), none, none, none], [vI 9, vI ((wr c2).tmod 12)], (G0, M))) hc 1 rfl ?_
  refine R_ite e (fun b49 e => ?_) (fun b49 e => ?_)
  · refine Rn_icF hc rfl rfl (by decide) (fun w => w b49) ?_
    refine Rn_ms (σ' := (208, [some (vS 2), some (vR 1), some (vI c2), none, none, none], [vR 1], (G0, M))) hc 1 rfl ?_
    refine R_bind e (fun k50 hk50 e => ?_)
    refine Rn_cs hc rfl rfl (by decide) (ii := xi_113) rfl rfl rfl (le := [some (vR 1), none, none, none, none, none]) rfl (v := some (vI k50.1)) (M' := k50.2) (t_308  (d := d + 0) hk50 rfl) ?_
    show Rn rom (d + 8) 115 (211, [some (vS 2), some (vR 1), some (vI c2), none, none, none], [vI k50.1], (G0, k50.2)) out
    refine R_ite e (fun b51 e => ?_) (fun b51 e => ?_)
    · refine Rn_ifF hc rfl rfl (by decide) (fun w => w b51) ?_
      refine Rn_ms (σ' := (215, [some (vS 2), some (vR 1), some (vI c2), none, none, none], [vI 0], (G0, k50.2))) hc 1 rfl ?_
      cases e
      exact R_end (Rn_iret hc rfl rfl (xretB rfl rfl (by decide))) hK
    · refine Rn_ifT (tgt := 216) hc rfl rfl (by decide) (fun w => b51 w) ?_
      refine Rn_ms (σ' := (67, [some (vS 2), some (vR 1), some (vI (c2 + 1)), none, none, none], [], (G0, k50.2))) hc 2 rfl ?_
      cases e
      exact Rn_weak (xle_s (xle_s (xle_s (xle_s (xle_s (xle_s xle_0)))))) hK
  · refine Rn_icT (tgt := 216) hc rfl rfl (by decide) (fun w => b49 w) ?_
    refine Rn_ms (σ' := (67, [some (vS 2), some (vR 1), some (vI (c2 + 1)), none, none, none], [], (G0, M))) hc 2 rfl ?_
    cases e
    exact Rn_weak (xle_s (xle_s (xle_s (xle_s (xle_s (xle_s xle_0)))))) hK
def f_310_L183 (rom : xRom) (M : xM) (c2 : Int) : Option ((Int × xM) ⊕ (Int × xM)) :=
  if wr ((wr c2).tmod 6) = 4 then
    (f_307 M).bind (fun k47 =>
    if wr k47.1 = 0 then
      some (.inr ((0, k47.2)))
    else
      f_310_L198 rom k47.2 c2
    )
  else
    f_310_L198 rom M c2
set_option maxRecDepth 100000 in
set_option maxHeartbeats 4000000 in
theorem t_310_L183 {rom : xRom} {d : Nat} {c2 : Int} {M : xM} {r : (Int × xM) ⊕ (Int × xM)} {out : Option xV × xH} (e : f_310_L183 rom M c2 = some r) (hK : ((Sum.elim (fun s => Rn rom (d + 8) 115 (67, [some (vS 2), some (vR 1), some (vI s.1), none, none, none], [], (G0, s.2)) out) (eIW out))) r) : Rn rom (d + 8) 115 (183, [some (vS 2), some (vR 1), some (vI c2), none, none, none], [], (G0, M)) out := by
  have hc : xkall.getD 115 [] = xk_115 := rfl
  unfold f_310_L183 at e
  refine Rn_ms (σ' := (186, [some (vS 2), some (vR 1), some (vI c2), none, none, none], [vI 6, vI c2], (G0, M))) hc 2 rfl ?_
  refine Rn_rem hc rfl ⟨rfl, rfl⟩ (z' := 6) (by decide) (by decide) ?_
  refine Rn_ms (σ' := (188, [some (vS 2), some (vR 1), some (vI c2), none, none, none], [vI 4, vI ((wr c2).tmod 6)], (G0, M))) hc 1 rfl ?_
  refine R_ite e (fun b46 e => ?_) (fun b46 e => ?_)
  · refine Rn_icF hc rfl rfl (by decide) (fun w => w b46) ?_
    refine Rn_ms (σ' := (192, [some (vS 2), some (vR 1), some (vI c2), none, none, none], [vR 1], (G0, M))) hc 1 rfl ?_
    refine R_bind e (fun k47 hk47 e => ?_)
    refine Rn_cs hc rfl rfl (by decide) (ii := xi_112) rfl rfl rfl (le := [some (vR 1), none, none, none, none, none, none, none, none, none, none]) rfl (v := some (vI k47.1)) (M' := k47.2) (t_307  (d := d + 0) hk47 rfl) ?_
    show Rn rom (d + 8) 115 (195, [some (vS 2), some (vR 1), some (vI c2), none, none, none], [vI k47.1], (G0, k47.2)) out
    refine R_ite e (fun b48 e => ?_) (fun b48 e => ?_)
    · refine Rn_ifT (tgt := 214) hc rfl rfl (by decide) b48 ?_
      refine Rn_ms (σ' := (215, [some (vS 2), some (vR 1), some (vI c2), none, none, none], [vI 0], (G0, k47.2))) hc 1 rfl ?_
      cases e
      exact R_end (Rn_iret hc rfl rfl (xretB rfl rfl (by decide))) hK
    · refine Rn_ifF hc rfl rfl (by decide) b48 ?_
      show Rn rom (d + 8) 115 (198, [some (vS 2), some (vR 1), some (vI c2), none, none, none], [], (G0, k47.2)) out
      exact Rn_weak (xle_s (xle_s (xle_s (xle_s (xle_s (xle_s xle_0)))))) (t_310_L198  e hK)
  · refine Rn_icT (tgt := 198) hc rfl rfl (by decide) (fun w => b46 w) ?_
    show Rn rom (d + 8) 115 (198, [some (vS 2), some (vR 1), some (vI c2), none, none, none], [], (G0, M)) out
    exact Rn_weak (xle_s (xle_s (xle_s (xle_s (xle_s (xle_s xle_0)))))) (t_310_L198  e hK)
def f_310_L154 (rom : xRom) (M : xM) (c2 : Int) (c3 : Int) (s0 : Int) : Option ((Int × xM) ⊕ (Int × xM)) :=
  if wr s0 = 0 then
    some (.inr ((0, M)))
  else
    if wr ((wr c2).tmod 5) = 2 then
      (f_302 (xishr c3 3) 100).bind (fun k43 =>
      (f_306 M k43).bind (fun k44 =>
      if wr k44 = 0 then
        some (.inr ((0, M)))
      else
        f_310_L183 rom M c2
      ))
    else
      f_310_L183 rom M c2
set_option maxRecDepth 100000 in
set_option maxHeartbeats 4000000 in
theorem t_310_L154 {rom : xRom} {d : Nat} {c2 : Int} {c3 : Int} {s0 : Int} {M : xM} {r : (Int × xM) ⊕ (Int × xM)} {out : Option xV × xH} (e : f_310_L154 rom M c2 c3 s0 = some r) (hK : ((Sum.elim (fun s => Rn rom (d + 8) 115 (67, [some (vS 2), some (vR 1), some (vI s.1), none, none, none], [], (G0, s.2)) out) (eIW out))) r) : Rn rom (d + 8) 115 (154, [some (vS 2), some (vR 1), some (vI c2), some (vI c3), none, none], [vI s0], (G0, M)) out := by
  have hc : xkall.getD 115 [] = xk_115 := rfl
  unfold f_310_L154 at e
  refine Rn_ms (σ' := (158, [some (vS 2), some (vR 1), some (vI c2), some (vI c3), none, some (vI s0)], [vI s0], (G0, M))) hc 2 rfl ?_
  refine R_ite e (fun b41 e => ?_) (fun b41 e => ?_)
  · refine Rn_ifT (tgt := 214) hc rfl rfl (by decide) b41 ?_
    refine Rn_ms (σ' := (215, [some (vS 2), some (vR 1), some (vI c2), some (vI c3), none, some (vI s0)], [vI 0], (G0, M))) hc 1 rfl ?_
    cases e
    exact R_end (Rn_iret hc rfl rfl (xretB rfl rfl (by decide))) hK
  · refine Rn_ifF hc rfl rfl (by decide) b41 ?_
    refine Rn_ms (σ' := (163, [some (vS 2), some (vR 1), some (vI c2), some (vI c3), none, some (vI s0)], [vI 5, vI c2], (G0, M))) hc 2 rfl ?_
    refine Rn_rem hc rfl ⟨rfl, rfl⟩ (z' := 5) (by decide) (by decide) ?_
    refine Rn_ms (σ' := (165, [some (vS 2), some (vR 1), some (vI c2), some (vI c3), none, some (vI s0)], [vI 2, vI ((wr c2).tmod 5)], (G0, M))) hc 1 rfl ?_
    refine R_ite e (fun b42 e => ?_) (fun b42 e => ?_)
    · refine Rn_icF hc rfl rfl (by decide) (fun w => w b42) ?_
      refine Rn_ms (σ' := (174, [some (vS 2), some (vR 1), some (vI c2), some (vI c3), none, some (vI s0)], [vI 100, vI (xishr c3 3), vR 1], (G0, M))) hc 5 rfl ?_
      refine R_bind e (fun k43 hk43 e => ?_)
      refine Rn_cs hc rfl rfl (by decide) (ii := xi_107) rfl rfl rfl (le := [some (vI (xishr c3 3)), some (vI 100)]) rfl (v := some (vI k43)) (M' := M) (t_302  (d := d + 7) hk43 rfl) ?_
      show Rn rom (d + 8) 115 (177, [some (vS 2), some (vR 1), some (vI c2), some (vI c3), none, some (vI s0)], [vI k43, vR 1], (G0, M)) out
      refine R_bind e (fun k44 hk44 e => ?_)
      refine Rn_cs hc rfl rfl (by decide) (ii := xi_111) rfl rfl rfl (le := [some (vR 1), some (vI k43), none, none, none, none, none, none]) rfl (v := some (vI k44)) (M' := M) (t_306  (d := d + 3) hk44 rfl) ?_
      show Rn rom (d + 8) 115 (180, [some (vS 2), some (vR 1), some (vI c2), some (vI c3), none, some (vI s0)], [vI k44], (G0, M)) out
      refine R_ite e (fun b45 e => ?_) (fun b45 e => ?_)
      · refine Rn_ifT (tgt := 214) hc rfl rfl (by decide) b45 ?_
        refine Rn_ms (σ' := (215, [some (vS 2), some (vR 1), some (vI c2), some (vI c3), none, some (vI s0)], [vI 0], (G0, M))) hc 1 rfl ?_
        cases e
        exact R_end (Rn_iret hc rfl rfl (xretB rfl rfl (by decide))) hK
      · refine Rn_ifF hc rfl rfl (by decide) b45 ?_
        show Rn rom (d + 8) 115 (183, [some (vS 2), some (vR 1), some (vI c2), some (vI c3), none, some (vI s0)], [], (G0, M)) out
        exact Rn_weak (xle_s (xle_s (xle_s (xle_n (xle_s (xle_n xle_0)))))) (t_310_L183  e hK)
    · refine Rn_icT (tgt := 183) hc rfl rfl (by decide) (fun w => b42 w) ?_
      show Rn rom (d + 8) 115 (183, [some (vS 2), some (vR 1), some (vI c2), some (vI c3), none, some (vI s0)], [], (G0, M)) out
      exact Rn_weak (xle_s (xle_s (xle_s (xle_n (xle_s (xle_n xle_0)))))) (t_310_L183  e hK)
def f_310_L149 (rom : xRom) (M : xM) (c2 : Int) (c3 : Int) : Option ((Int × xM) ⊕ (Int × xM)) :=
  f_310_L154 rom M c2 c3 1
set_option maxRecDepth 100000 in
set_option maxHeartbeats 4000000 in
theorem t_310_L149 {rom : xRom} {d : Nat} {c2 : Int} {c3 : Int} {M : xM} {r : (Int × xM) ⊕ (Int × xM)} {out : Option xV × xH} (e : f_310_L149 rom M c2 c3 = some r) (hK : ((Sum.elim (fun s => Rn rom (d + 8) 115 (67, [some (vS 2), some (vR 1), some (vI s.1), none, none, none], [], (G0, s.2)) out) (eIW out))) r) : Rn rom (d + 8) 115 (149, [some (vS 2), some (vR 1), some (vI c2), some (vI c3), none, none], [], (G0, M)) out := by
  have hc : xkall.getD 115 [] = xk_115 := rfl
  unfold f_310_L149 at e
  refine Rn_ms (σ' := (154, [some (vS 2), some (vR 1), some (vI c2), some (vI c3), none, none], [vI 1], (G0, M))) hc 2 rfl ?_
  exact Rn_weak (xle_s (xle_s (xle_s (xle_s (xle_s (xle_s xle_0)))))) (t_310_L154  e hK)
def f_310_L153 (rom : xRom) (M : xM) (c2 : Int) (c3 : Int) : Option ((Int × xM) ⊕ (Int × xM)) :=
  f_310_L154 rom M c2 c3 0
set_option maxRecDepth 100000 in
set_option maxHeartbeats 4000000 in
theorem t_310_L153 {rom : xRom} {d : Nat} {c2 : Int} {c3 : Int} {M : xM} {r : (Int × xM) ⊕ (Int × xM)} {out : Option xV × xH} (e : f_310_L153 rom M c2 c3 = some r) (hK : ((Sum.elim (fun s => Rn rom (d + 8) 115 (67, [some (vS 2), some (vR 1), some (vI s.1), none, none, none], [], (G0, s.2)) out) (eIW out))) r) : Rn rom (d + 8) 115 (153, [some (vS 2), some (vR 1), some (vI c2), some (vI c3), none, none], [], (G0, M)) out := by
  have hc : xkall.getD 115 [] = xk_115 := rfl
  unfold f_310_L153 at e
  refine Rn_ms (σ' := (154, [some (vS 2), some (vR 1), some (vI c2), some (vI c3), none, none], [vI 0], (G0, M))) hc 1 rfl ?_
  exact Rn_weak (xle_s (xle_s (xle_s (xle_s (xle_s (xle_s xle_0)))))) (t_310_L154  e hK)
def f_310_L67b (rom : xRom) (v2 : Int) (M : xM) : Option ((Int × xM) ⊕ (Int × xM)) :=
  if 60 ≤ wr v2 then
    (f_100 M 24 1).bind (fun k14 =>
    if wr k14.1 = (-1) then
      (f_100 k14.2 0 0).bind (fun k16 =>
      if wr k16.1 = (-1) then
        (f_101 k16.2 0).bind (fun k18 =>
        if wr k18.1 = (-1) then
          (f_101 k18.2 100).bind (fun k20 =>
          if wr k20.1 = (-1) then
            (f_106 rom k20.2 3 1).bind (fun k22 =>
            if wr k22.1 = (-1) then
              (f_106 rom k22.2 0 1).bind (fun k24 =>
              if wr k24.1 = (-1) then
                (f_119 k24.2 16).bind (fun k26 =>
                if wr k26 = (-1) then
                  (f_122 k24.2 100).bind (fun k28 =>
                  if wr k28 = (-1) then
                    (f_124 k24.2 0).bind (fun k30 =>
                    if wr k30 = (-1) then
                      (f_124 k24.2 25).bind (fun k32 =>
                      if wr k32 = (-1) then
                        some (.inr ((1, k24.2)))
                      else
                        some (.inr ((0, k24.2)))
                      )
                    else
                      some (.inr ((0, k24.2)))
                    )
                  else
                    some (.inr ((0, k24.2)))
                  )
                else
                  some (.inr ((0, k24.2)))
                )
              else
                some (.inr ((0, k24.2)))
              )
            else
              some (.inr ((0, k22.2)))
            )
          else
            some (.inr ((0, k20.2)))
          )
        else
          some (.inr ((0, k18.2)))
        )
      else
        some (.inr ((0, k16.2)))
      )
    else
      some (.inr ((0, k14.2)))
    )
  else
    (f_301 rom M v2).bind (fun k34 =>
    (f_309 rom M k34).bind (fun k35 =>
    if wr k35.1 = 0 then
      some (.inr ((0, k35.2)))
    else
      (f_305 k35.2).bind (fun k37 =>
      if wr k37.1 = 0 then
        some (.inr ((0, k37.2)))
      else
        (f_119 k37.2 3).bind (fun k39 =>
        if wr k39 = 0 then
          f_310_L149 rom k37.2 v2 k34
        else
          if wr ((wr v2).tmod 3) = 1 then
            (f_302 (xishr k34 4) k39).bind (fun k53 =>
            (f_303 k37.2 k53).bind (fun k54 =>
            if wr k54 = 0 then
              f_310_L153 rom k37.2 v2 k34
            else
              (f_119 k37.2 1).bind (fun k56 =>
              (f_302 (xishr k34 6) k56).bind (fun k57 =>
              (f_304 k37.2 k57).bind (fun k58 =>
              if wr k58.1 = 0 then
                f_310_L153 rom k58.2 v2 k34
              else
                f_310_L149 rom k58.2 v2 k34
              )))
            ))
          else
            f_310_L149 rom k37.2 v2 k34
        )
      )
    ))
set_option maxRecDepth 100000 in
set_option maxHeartbeats 4000000 in
theorem t_310_L67b {rom : xRom} {d : Nat} {v2 : Int} {M : xM} {r : (Int × xM) ⊕ (Int × xM)} {out : Option xV × xH} (e : f_310_L67b rom v2 M = some r) (hK : ((Sum.elim (fun s => Rn rom (d + 8) 115 (67, [some (vS 2), some (vR 1), some (vI s.1), none, none, none], [], (G0, s.2)) out) (eIW out))) r) : Rn rom (d + 8) 115 (67, [some (vS 2), some (vR 1), some (vI v2), none, none, none], [], (G0, M)) out := by
  have hc : xkall.getD 115 [] = xk_115 := rfl
  unfold f_310_L67b at e
  refine Rn_ms (σ' := (70, [some (vS 2), some (vR 1), some (vI v2), none, none, none], [vI 60, vI v2], (G0, M))) hc 2 rfl ?_
  refine R_ite e (fun b13 e => ?_) (fun b13 e => ?_)
  · refine Rn_icT (tgt := 222) hc rfl rfl (by decide) b13 ?_
    refine Rn_ms (σ' := (226, [some (vS 2), some (vR 1), some (vI v2), none, none, none], [vI 1, vI 24, vR 1], (G0, M))) hc 3 rfl ?_
    refine R_bind e (fun k14 hk14 e => ?_)
    refine Rn_cv hc rfl rfl (by decide) (ii := xi_77) rfl rfl rfl (tgc_1 : Tg _ = 10) (by decide) rfl (le := [some (vR 1), some (vI 24), some (vI 1)]) rfl (v := some (vI k14.1)) (M' := k14.2) (t_100  (d := d + 1) hk14 rfl) ?_
    refine Rn_ms (σ' := (230, [some (vS 2), some (vR 1), some (vI v2), none, none, none], [vI (-1), vI k14.1], (G0, k14.2))) hc 1 rfl ?_
    refine R_ite e (fun b15 e => ?_) (fun b15 e => ?_)
    · refine Rn_icF hc rfl rfl (by decide) (fun w => w b15) ?_
      refine Rn_ms (σ' := (236, [some (vS 2), some (vR 1), some (vI v2), none, none, none], [vI 0, vI 0, vR 1], (G0, k14.2))) hc 3 rfl ?_
      refine R_bind e (fun k16 hk16 e => ?_)
      refine Rn_cv hc rfl rfl (by decide) (ii := xi_77) rfl rfl rfl (tgc_1 : Tg _ = 10) (by decide) rfl (le := [some (vR 1), some (vI 0), some (vI 0)]) rfl (v := some (vI k16.1)) (M' := k16.2) (t_100  (d := d + 1) hk16 rfl) ?_
      refine Rn_ms (σ' := (240, [some (vS 2), some (vR 1), some (vI v2), none, none, none], [vI (-1), vI k16.1], (G0, k16.2))) hc 1 rfl ?_
      refine R_ite e (fun b17 e => ?_) (fun b17 e => ?_)
      · refine Rn_icF hc rfl rfl (by decide) (fun w => w b17) ?_
        refine Rn_ms (σ' := (245, [some (vS 2), some (vR 1), some (vI v2), none, none, none], [vI 0, vR 1], (G0, k16.2))) hc 2 rfl ?_
        refine R_bind e (fun k18 hk18 e => ?_)
        refine Rn_cv hc rfl rfl (by decide) (ii := xi_78) rfl rfl rfl (tgc_1 : Tg _ = 10) (by decide) rfl (le := [some (vR 1), some (vI 0)]) rfl (v := some (vI k18.1)) (M' := k18.2) (t_101  (d := d + 1) hk18 rfl) ?_
        refine Rn_ms (σ' := (249, [some (vS 2), some (vR 1), some (vI v2), none, none, none], [vI (-1), vI k18.1], (G0, k18.2))) hc 1 rfl ?_
        refine R_ite e (fun b19 e => ?_) (fun b19 e => ?_)
        · refine Rn_icF hc rfl rfl (by decide) (fun w => w b19) ?_
          refine Rn_ms (σ' := (255, [some (vS 2), some (vR 1), some (vI v2), none, none, none], [vI 100, vR 1], (G0, k18.2))) hc 2 rfl ?_
          refine R_bind e (fun k20 hk20 e => ?_)
          refine Rn_cv hc rfl rfl (by decide) (ii := xi_78) rfl rfl rfl (tgc_1 : Tg _ = 10) (by decide) rfl (le := [some (vR 1), some (vI 100)]) rfl (v := some (vI k20.1)) (M' := k20.2) (t_101  (d := d + 1) hk20 rfl) ?_
          refine Rn_ms (σ' := (259, [some (vS 2), some (vR 1), some (vI v2), none, none, none], [vI (-1), vI k20.1], (G0, k20.2))) hc 1 rfl ?_
          refine R_ite e (fun b21 e => ?_) (fun b21 e => ?_)
          · refine Rn_icF hc rfl rfl (by decide) (fun w => w b21) ?_
            refine Rn_ms (σ' := (265, [some (vS 2), some (vR 1), some (vI v2), none, none, none], [vI 1, vI 3, vR 1], (G0, k20.2))) hc 3 rfl ?_
            refine R_bind e (fun k22 hk22 e => ?_)
            refine Rn_cv hc rfl rfl (by decide) (ii := xi_83) rfl rfl rfl (tgc_1 : Tg _ = 10) (by decide) rfl (le := [some (vR 1), some (vI 3), some (vI 1)]) rfl (v := some (vI k22.1)) (M' := k22.2) (t_106  (d := d + 1) hk22 rfl) ?_
            refine Rn_ms (σ' := (269, [some (vS 2), some (vR 1), some (vI v2), none, none, none], [vI (-1), vI k22.1], (G0, k22.2))) hc 1 rfl ?_
            refine R_ite e (fun b23 e => ?_) (fun b23 e => ?_)
            · refine Rn_icF hc rfl rfl (by decide) (fun w => w b23) ?_
              refine Rn_ms (σ' := (275, [some (vS 2), some (vR 1), some (vI v2), none, none, none], [vI 1, vI 0, vR 1], (G0, k22.2))) hc 3 rfl ?_
              refine R_bind e (fun k24 hk24 e => ?_)
              refine Rn_cv hc rfl rfl (by decide) (ii := xi_83) rfl rfl rfl (tgc_1 : Tg _ = 10) (by decide) rfl (le := [some (vR 1), some (vI 0), some (vI 1)]) rfl (v := some (vI k24.1)) (M' := k24.2) (t_106  (d := d + 1) hk24 rfl) ?_
              refine Rn_ms (σ' := (279, [some (vS 2), some (vR 1), some (vI v2), none, none, none], [vI (-1), vI k24.1], (G0, k24.2))) hc 1 rfl ?_
              refine R_ite e (fun b25 e => ?_) (fun b25 e => ?_)
              · refine Rn_icF hc rfl rfl (by decide) (fun w => w b25) ?_
                refine Rn_ms (σ' := (285, [some (vS 2), some (vR 1), some (vI v2), none, none, none], [vI 16, vR 1], (G0, k24.2))) hc 2 rfl ?_
                refine R_bind e (fun k26 hk26 e => ?_)
                refine Rn_cv hc rfl rfl (by decide) (ii := xi_89) rfl rfl rfl (tgc_1 : Tg _ = 10) (by decide) rfl (le := [some (vR 1), some (vI 16)]) rfl (v := some (vI k26)) (M' := k24.2) (t_119  (d := d + 4) hk26 rfl) ?_
                refine Rn_ms (σ' := (289, [some (vS 2), some (vR 1), some (vI v2), none, none, none], [vI (-1), vI k26], (G0, k24.2))) hc 1 rfl ?_
                refine R_ite e (fun b27 e => ?_) (fun b27 e => ?_)
                · refine Rn_icF hc rfl rfl (by decide) (fun w => w b27) ?_
                  refine Rn_ms (σ' := (295, [some (vS 2), some (vR 1), some (vI v2), none, none, none], [vI 100, vR 1], (G0, k24.2))) hc 2 rfl ?_
                  refine R_bind e (fun k28 hk28 e => ?_)
                  refine Rn_cv hc rfl rfl (by decide) (ii := xi_92) rfl rfl rfl (tgc_1 : Tg _ = 10) (by decide) rfl (le := [some (vR 1), some (vI 100), none, none]) rfl (v := some (vI k28)) (M' := k24.2) (t_122  (d := d + 5) hk28 rfl) ?_
                  refine Rn_ms (σ' := (299, [some (vS 2), some (vR 1), some (vI v2), none, none, none], [vI (-1), vI k28], (G0, k24.2))) hc 1 rfl ?_
                  refine R_ite e (fun b29 e => ?_) (fun b29 e => ?_)
                  · refine Rn_icF hc rfl rfl (by decide) (fun w => w b29) ?_
                    refine Rn_ms (σ' := (304, [some (vS 2), some (vR 1), some (vI v2), none, none, none], [vI 0, vR 1], (G0, k24.2))) hc 2 rfl ?_
                    refine R_bind e (fun k30 hk30 e => ?_)
                    refine Rn_cv hc rfl rfl (by decide) (ii := xi_94) rfl rfl rfl (tgc_1 : Tg _ = 10) (by decide) rfl (le := [some (vR 1), some (vI 0)]) rfl (v := some (vI k30)) (M' := k24.2) (t_124  (d := d + 5) hk30 rfl) ?_
                    refine Rn_ms (σ' := (308, [some (vS 2), some (vR 1), some (vI v2), none, none, none], [vI (-1), vI k30], (G0, k24.2))) hc 1 rfl ?_
                    refine R_ite e (fun b31 e => ?_) (fun b31 e => ?_)
                    · refine Rn_icF hc rfl rfl (by decide) (fun w => w b31) ?_
                      refine Rn_ms (σ' := (314, [some (vS 2), some (vR 1), some (vI v2), none, none, none], [vI 25, vR 1], (G0, k24.2))) hc 2 rfl ?_
                      refine R_bind e (fun k32 hk32 e => ?_)
                      refine Rn_cv hc rfl rfl (by decide) (ii := xi_94) rfl rfl rfl (tgc_1 : Tg _ = 10) (by decide) rfl (le := [some (vR 1), some (vI 25)]) rfl (v := some (vI k32)) (M' := k24.2) (t_124  (d := d + 5) hk32 rfl) ?_
                      refine Rn_ms (σ' := (318, [some (vS 2), some (vR 1), some (vI v2), none, none, none], [vI (-1), vI k32], (G0, k24.2))) hc 1 rfl ?_
                      refine R_ite e (fun b33 e => ?_) (fun b33 e => ?_)
                      · refine Rn_icF hc rfl rfl (by decide) (fun w => w b33) ?_
                        refine Rn_ms (σ' := (326, [some (vS 2), some (vR 1), some (vI v2), none, none, none], [vI 1], (G0, k24.2))) hc 2 rfl ?_
                        cases e
                        exact R_end (Rn_iret hc rfl rfl (xretB rfl rfl (by decide))) hK
                      · refine Rn_icT (tgt := 325) hc rfl rfl (by decide) (fun w => b33 w) ?_
                        refine Rn_ms (σ' := (326, [some (vS 2), some (vR 1), some (vI v2), none, none, none], [vI 0], (G0, k24.2))) hc 1 rfl ?_
                        cases e
                        exact R_end (Rn_iret hc rfl rfl (xretB rfl rfl (by decide))) hK
                    · refine Rn_icT (tgt := 325) hc rfl rfl (by decide) (fun w => b31 w) ?_
                      refine Rn_ms (σ' := (326, [some (vS 2), some (vR 1), some (vI v2), none, none, none], [vI 0], (G0, k24.2))) hc 1 rfl ?_
                      cases e
                      exact R_end (Rn_iret hc rfl rfl (xretB rfl rfl (by decide))) hK
                  · refine Rn_icT (tgt := 325) hc rfl rfl (by decide) (fun w => b29 w) ?_
                    refine Rn_ms (σ' := (326, [some (vS 2), some (vR 1), some (vI v2), none, none, none], [vI 0], (G0, k24.2))) hc 1 rfl ?_
                    cases e
                    exact R_end (Rn_iret hc rfl rfl (xretB rfl rfl (by decide))) hK
                · refine Rn_icT (tgt := 325) hc rfl rfl (by decide) (fun w => b27 w) ?_
                  refine Rn_ms (σ' := (326, [some (vS 2), some (vR 1), some (vI v2), none, none, none], [vI 0], (G0, k24.2))) hc 1 rfl ?_
                  cases e
                  exact R_end (Rn_iret hc rfl rfl (xretB rfl rfl (by decide))) hK
              · refine Rn_icT (tgt := 325) hc rfl rfl (by decide) (fun w => b25 w) ?_
                refine Rn_ms (σ' := (326, [some (vS 2), some (vR 1), some (vI v2), none, none, none], [vI 0], (G0, k24.2))) hc 1 rfl ?_
                cases e
                exact R_end (Rn_iret hc rfl rfl (xretB rfl rfl (by decide))) hK
            · refine Rn_icT (tgt := 325) hc rfl rfl (by decide) (fun w => b23 w) ?_
              refine Rn_ms (σ' := (326, [some (vS 2), some (vR 1), some (vI v2), none, none, none], [vI 0], (G0, k22.2))) hc 1 rfl ?_
              cases e
              exact R_end (Rn_iret hc rfl rfl (xretB rfl rfl (by decide))) hK
          · refine Rn_icT (tgt := 325) hc rfl rfl (by decide) (fun w => b21 w) ?_
            refine Rn_ms (σ' := (326, [some (vS 2), some (vR 1), some (vI v2), none, none, none], [vI 0], (G0, k20.2))) hc 1 rfl ?_
            cases e
            exact R_end (Rn_iret hc rfl rfl (xretB rfl rfl (by decide))) hK
        · refine Rn_icT (tgt := 325) hc rfl rfl (by decide) (fun w => b19 w) ?_
          refine Rn_ms (σ' := (326, [some (vS 2), some (vR 1), some (vI v2), none, none, none], [vI 0], (G0, k18.2))) hc 1 rfl ?_
          cases e
          exact R_end (Rn_iret hc rfl rfl (xretB rfl rfl (by decide))) hK
      · refine Rn_icT (tgt := 325) hc rfl rfl (by decide) (fun w => b17 w) ?_
        refine Rn_ms (σ' := (326, [some (vS 2), some (vR 1), some (vI v2), none, none, none], [vI 0], (G0, k16.2))) hc 1 rfl ?_
        cases e
        exact R_end (Rn_iret hc rfl rfl (xretB rfl rfl (by decide))) hK
    · refine Rn_icT (tgt := 325) hc rfl rfl (by decide) (fun w => b15 w) ?_
      refine Rn_ms (σ' := (326, [some (vS 2), some (vR 1), some (vI v2), none, none, none], [vI 0], (G0, k14.2))) hc 1 rfl ?_
      cases e
      exact R_end (Rn_iret hc rfl rfl (xretB rfl rfl (by decide))) hK
  · refine Rn_icF hc rfl rfl (by decide) b13 ?_
    refine Rn_ms (σ' := (75, [some (vS 2), some (vR 1), some (vI v2), none, none, none], [vI v2, vS 2], (G0, M))) hc 2 rfl ?_
    refine R_bind e (fun k34 hk34 e => ?_)
    refine Rn_cs hc rfl rfl (by decide) (ii := xi_106) rfl rfl rfl (le := [some (vS 2), some (vI v2)]) rfl (v := some (vI k34)) (M' := M) (t_301  (d := d + 7) hk34 rfl) ?_
    refine Rn_ms (σ' := (81, [some (vS 2), some (vR 1), some (vI v2), some (vI k34), none, none], [vI k34, vR 1], (G0, M))) hc 3 rfl ?_
    refine R_bind e (fun k35 hk35 e => ?_)
    refine Rn_cs hc rfl rfl (by decide) (ii := xi_114) rfl rfl rfl (le := [some (vR 1), some (vI k34), none, none, none, none, none, none, none, none, none, none, none, none, none, none, none]) rfl (v := some (vI k35.1)) (M' := k35.2) (t_309  (d := d + 0) hk35 rfl) ?_
    show Rn rom (d + 8) 115 (84, [some (vS 2), some (vR 1), some (vI v2), some (vI k34), none, none], [vI k35.1], (G0, k35.2)) out
    refine R_ite e (fun b36 e => ?_) (fun b36 e => ?_)
    · refine Rn_ifT (tgt := 94) hc rfl rfl (by decide) b36 ?_
      refine Rn_ms (σ' := (95, [some (vS 2), some (vR 1), some (vI v2), some (vI k34), none, none], [vI 0], (G0, k35.2))) hc 1 rfl ?_
      cases e
      exact R_end (Rn_iret hc rfl rfl (xretB rfl rfl (by decide))) hK
    · refine Rn_ifF hc rfl rfl (by decide) b36 ?_
      refine Rn_ms (σ' := (88, [some (vS 2), some (vR 1), some (vI v2), some (vI k34), none, none], [vR 1], (G0, k35.2))) hc 1 rfl ?_
      refine R_bind e (fun k37 hk37 e => ?_)
      refine Rn_cs hc rfl rfl (by decide) (ii := xi_110) rfl rfl rfl (le := [some (vR 1), none, none, none, none, none, none, none, none, none, none, none]) rfl (v := some (vI k37.1)) (M' := k37.2) (t_305  (d := d + 1) hk37 rfl) ?_
      show Rn rom (d + 8) 115 (91, [some (vS 2), some (vR 1), some (vI v2), some (vI k34), none, none], [vI k37.1], (G0, k37.2)) out
      refine R_ite e (fun b38 e => ?_) (fun b38 e => ?_)
      · refine Rn_ifF hc rfl rfl (by decide) (fun w => w b38) ?_
        refine Rn_ms (σ' := (95, [some (vS 2), some (vR 1), some (vI v2), some (vI k34), none, none], [vI 0], (G0, k37.2))) hc 1 rfl ?_
        cases e
        exact R_end (Rn_iret hc rfl rfl (xretB rfl rfl (by decide))) hK
      · refine Rn_ifT (tgt := 96) hc rfl rfl (by decide) (fun w => b38 w) ?_
        refine Rn_ms (σ' := (98, [some (vS 2), some (vR 1), some (vI v2), some (vI k34), none, none], [vI 3, vR 1], (G0, k37.2))) hc 2 rfl ?_
        refine R_bind e (fun k39 hk39 e => ?_)
        refine Rn_cv hc rfl rfl (by decide) (ii := xi_89) rfl rfl rfl (tgc_1 : Tg _ = 10) (by decide) rfl (le := [some (vR 1), some (vI 3)]) rfl (v := some (vI k39)) (M' := k37.2) (t_119  (d := d + 4) hk39 rfl) ?_
        refine Rn_ms (σ' := (105, [some (vS 2), some (vR 1), some (vI v2), some (vI k34), some (vI k39), none], [vI k39], (G0, k37.2))) hc 2 rfl ?_
        refine R_ite e (fun b40 e => ?_) (fun b40 e => ?_)
        · refine Rn_ifT (tgt := 149) hc rfl rfl (by decide) b40 ?_
          show Rn rom (d + 8) 115 (149, [some (vS 2), some (vR 1), some (vI v2), some (vI k34), some (vI k39), none], [], (G0, k37.2)) out
          exact Rn_weak (xle_s (xle_s (xle_s (xle_s (xle_n (xle_s xle_0)))))) (t_310_L149  e hK)
        · refine Rn_ifF hc rfl rfl (by decide) b40 ?_
          refine Rn_ms (σ' := (110, [some (vS 2), some (vR 1), some (vI v2), some (vI k34), some (vI k39), none], [vI 3, vI v2], (G0, k37.2))) hc 2 rfl ?_
          refine Rn_rem hc rfl ⟨rfl, rfl⟩ (z' := 3) (by decide) (by decide) ?_
          refine Rn_ms (σ' := (112, [some (vS 2), some (vR 1), some (vI v2), some (vI k34), some (vI k39), none], [vI 1, vI ((wr v2).tmod 3)], (G0, k37.2))) hc 1 rfl ?_
          refine R_ite e (fun b52 e => ?_) (fun b52 e => ?_)
          · refine Rn_icF hc rfl rfl (by decide) (fun w => w b52) ?_
            refine Rn_ms (σ' := (121, [some (vS 2), some (vR 1), some (vI v2), some (vI k34), some (vI k39), none], [vI k39, vI (xishr k34 4), vR 1], (G0, k37.2))) hc 5 rfl ?_
            refine R_bind e (fun k53 hk53 e => ?_)
            refine Rn_cs hc rfl rfl (by decide) (ii := xi_107) rfl rfl rfl (le := [some (vI (xishr k34 4)), some (vI k39)]) rfl (v := some (vI k53)) (M' := k37.2) (t_302  (d := d + 7) hk53 rfl) ?_
            show Rn rom (d + 8) 115 (124, [some (vS 2), some (vR 1), some (vI v2), some (vI k34), some (vI k39), none], [vI k53, vR 1], (G0, k37.2)) out
            refine R_bind e (fun k54 hk54 e => ?_)
            refine Rn_cs hc rfl rfl (by decide) (ii := xi_108) rfl rfl rfl (le := [some (vR 1), some (vI k53), none, none, none, none, none, none]) rfl (v := some (vI k54)) (M' := k37.2) (t_303  (d := d + 3) hk54 rfl) ?_
            show Rn rom (d + 8) 115 (127, [some (vS 2), some (vR 1), some (vI v2), some (vI k34), some (vI k39), none], [vI k54], (G0, k37.2)) out
            refine R_ite e (fun b55 e => ?_) (fun b55 e => ?_)
            · refine Rn_ifT (tgt := 153) hc rfl rfl (by decide) b55 ?_
              show Rn rom (d + 8) 115 (153, [some (vS 2), some (vR 1), some (vI v2), some (vI k34), some (vI k39), none], [], (G0, k37.2)) out
              exact Rn_weak (xle_s (xle_s (xle_s (xle_s (xle_n (xle_s xle_0)))))) (t_310_L153  e hK)
            · refine Rn_ifF hc rfl rfl (by decide) b55 ?_
              refine Rn_ms (σ' := (136, [some (vS 2), some (vR 1), some (vI v2), some (vI k34), some (vI k39), none], [vR 1, vI (xishr k34 6), vR 1], (G0, k37.2))) hc 5 rfl ?_
              refine Rn_ms (σ' := (137, [some (vS 2), some (vR 1), some (vI v2), some (vI k34), some (vI k39), none], [vI 1, vR 1, vI (xishr k34 6), vR 1], (G0, k37.2))) hc 1 rfl ?_
              refine R_bind e (fun k56 hk56 e => ?_)
              refine Rn_cv hc rfl rfl (by decide) (ii := xi_89) rfl rfl rfl (tgc_1 : Tg _ = 10) (by decide) rfl (le := [some (vR 1), some (vI 1)]) rfl (v := some (vI k56)) (M' := k37.2) (t_119  (d := d + 4) hk56 rfl) ?_
              show Rn rom (d + 8) 115 (140, [some (vS 2), some (vR 1), some (vI v2), some (vI k34), some (vI k39), none], [vI k56, vI (xishr k34 6), vR 1], (G0, k37.2)) out
              refine R_bind e (fun k57 hk57 e => ?_)
              refine Rn_cs hc rfl rfl (by decide) (ii := xi_107) rfl rfl rfl (le := [some (vI (xishr k34 6)), some (vI k56)]) rfl (v := some (vI k57)) (M' := k37.2) (t_302  (d := d + 7) hk57 rfl) ?_
              show Rn rom (d + 8) 115 (143, [some (vS 2), some (vR 1), some (vI v2), some (vI k34), some (vI k39), none], [vI k57, vR 1], (G0, k37.2)) out
              refine R_bind e (fun k58 hk58 e => ?_)
              refine Rn_cs hc rfl rfl (by decide) (ii := xi_109) rfl rfl rfl (le := [some (vR 1), some (vI k57), none, none, none, none, none, none, none, none, none, none]) rfl (v := some (vI k58.1)) (M' := k58.2) (t_304  (d := d + 2) hk58 rfl) ?_
              show Rn rom (d + 8) 115 (146, [some (vS 2), some (vR 1), some (vI v2), some (vI k34), some (vI k39), none], [vI k58.1], (G0, k58.2)) out
              refine R_ite e (fun b59 e => ?_) (fun b59 e => ?_)
              · refine Rn_ifT (tgt := 153) hc rfl rfl (by decide) b59 ?_
                show Rn rom (d + 8) 115 (153, [some (vS 2), some (vR 1), some (vI v2), some (vI k34), some (vI k39), none], [], (G0, k58.2)) out
                exact Rn_weak (xle_s (xle_s (xle_s (xle_s (xle_n (xle_s xle_0)))))) (t_310_L153  e hK)
              · refine Rn_ifF hc rfl rfl (by decide) b59 ?_
                show Rn rom (d + 8) 115 (149, [some (vS 2), some (vR 1), some (vI v2), some (vI k34), some (vI k39), none], [], (G0, k58.2)) out
                exact Rn_weak (xle_s (xle_s (xle_s (xle_s (xle_n (xle_s xle_0)))))) (t_310_L149  e hK)
          · refine Rn_icT (tgt := 149) hc rfl rfl (by decide) (fun w => b52 w) ?_
            show Rn rom (d + 8) 115 (149, [some (vS 2), some (vR 1), some (vI v2), some (vI k34), some (vI k39), none], [], (G0, k37.2)) out
            exact Rn_weak (xle_s (xle_s (xle_s (xle_s (xle_n (xle_s xle_0)))))) (t_310_L149  e hK)
def f_310_L67 (rom : xRom) (s : Int × xM) : Option (Int × xM) := loop NF (fun s => f_310_L67b rom s.1 s.2) s
set_option maxRecDepth 100000 in
set_option maxHeartbeats 4000000 in
theorem t_310_L67 {rom : xRom} {d : Nat}  {s : Int × xM} {r : Int × xM} {out : Option xV × xH} (e : f_310_L67 rom s = some r) (hK : (eIW out) r) : Rn rom (d + 8) 115 (67, [some (vS 2), some (vR 1), some (vI s.1), none, none, none], [], (G0, s.2)) out := by
  unfold f_310_L67 at e
  revert e hK
  exact R_loop (b := fun s => f_310_L67b rom s.1 s.2) (G := fun s => Rn rom (d + 8) 115 (67, [some (vS 2), some (vR 1), some (vI s.1), none, none, none], [], (G0, s.2)) out) (K := eIW out) (fun s r e hK => t_310_L67b  e hK) NF s r
/-- PedalLayersLaw.law -/
def f_310 (rom : xRom) (M : xM) : Option (Int × xM) :=
  (f_119 M 10).bind (fun k1 =>
  if wr k1 = 8 then
    (f_119 M 11).bind (fun k3 =>
    if wr k3 = 1 then
      (f_119 M 12).bind (fun k5 =>
      if wr k5 = 0 then
        (f_127 M).bind (fun k7 =>
        if wr k7.1 = (-2) then
          (f_129 k7.2).bind (fun k9 =>
          if wr k9.1 = (-2) then
            (f_305 k9.2).bind (fun k11 =>
            if wr k11.1 = 0 then
              some (0, k11.2)
            else
              f_310_L67 rom (0, k11.2)
            )
          else
            some (0, k9.2)
          )
        else
          some (0, k7.2)
        )
      else
        some (0, M)
      )
    else
      some (0, M)
    )
  else
    some (0, M)
  )
set_option maxRecDepth 100000 in
set_option maxHeartbeats 4000000 in
theorem t_310 {rom : xRom} {d : Nat} {M : xM}  {r : Int × xM} {out : Option xV × xH} (e : f_310 rom M = some r) (hK : eIW out r) : Rn rom (d + 8) 115 (8, [some (vS 2), some (vR 1), none, none, none, none], [], (G0, M)) out := by
  have hc : xkall.getD 115 [] = xk_115 := rfl
  unfold f_310 at e
  refine Rn_ms (σ' := (11, [some (vS 2), some (vR 1), none, none, none, none], [vI 10, vR 1], (G0, M))) hc 2 rfl ?_
  refine R_bind e (fun k1 hk1 e => ?_)
  refine Rn_cv hc rfl rfl (by decide) (ii := xi_89) rfl rfl rfl (tgc_1 : Tg _ = 10) (by decide) rfl (le := [some (vR 1), some (vI 10)]) rfl (v := some (vI k1)) (M' := M) (t_119  (d := d + 4) hk1 rfl) ?_
  refine Rn_ms (σ' := (16, [some (vS 2), some (vR 1), none, none, none, none], [vI 8, vI k1], (G0, M))) hc 1 rfl ?_
  refine R_ite e (fun b2 e => ?_) (fun b2 e => ?_)
  · refine Rn_icF hc rfl rfl (by decide) (fun w => w b2) ?_
    refine Rn_ms (σ' := (22, [some (vS 2), some (vR 1), none, none, none, none], [vI 11, vR 1], (G0, M))) hc 2 rfl ?_
    refine R_bind e (fun k3 hk3 e => ?_)
    refine Rn_cv hc rfl rfl (by decide) (ii := xi_89) rfl rfl rfl (tgc_1 : Tg _ = 10) (by decide) rfl (le := [some (vR 1), some (vI 11)]) rfl (v := some (vI k3)) (M' := M) (t_119  (d := d + 4) hk3 rfl) ?_
    refine Rn_ms (σ' := (26, [some (vS 2), some (vR 1), none, none, none, none], [vI 1, vI k3], (G0, M))) hc 1 rfl ?_
    refine R_ite e (fun b4 e => ?_) (fun b4 e => ?_)
    · refine Rn_icF hc rfl rfl (by decide) (fun w => w b4) ?_
      refine Rn_ms (σ' := (32, [some (vS 2), some (vR 1), none, none, none, none], [vI 12, vR 1], (G0, M))) hc 2 rfl ?_
      refine R_bind e (fun k5 hk5 e => ?_)
      refine Rn_cv hc rfl rfl (by decide) (ii := xi_89) rfl rfl rfl (tgc_1 : Tg _ = 10) (by decide) rfl (le := [some (vR 1), some (vI 12)]) rfl (v := some (vI k5)) (M' := M) (t_119  (d := d + 4) hk5 rfl) ?_
      show Rn rom (d + 8) 115 (35, [some (vS 2), some (vR 1), none, none, none, none], [vI k5], (G0, M)) out
      refine R_ite e (fun b6 e => ?_) (fun b6 e => ?_)
      · refine Rn_ifF hc rfl rfl (by decide) (fun w => w b6) ?_
        refine Rn_ms (σ' := (39, [some (vS 2), some (vR 1), none, none, none, none], [vR 1], (G0, M))) hc 1 rfl ?_
        refine R_bind e (fun k7 hk7 e => ?_)
        refine Rn_cv hc rfl rfl (by decide) (ii := xi_97) rfl rfl rfl (tgc_1 : Tg _ = 10) (by decide) rfl (le := [some (vR 1), none]) rfl (v := some (vI k7.1)) (M' := k7.2) (t_127  (d := d + 2) hk7 rfl) ?_
        refine Rn_ms (σ' := (44, [some (vS 2), some (vR 1), none, none, none, none], [vI (-2), vI k7.1], (G0, k7.2))) hc 1 rfl ?_
        refine R_ite e (fun b8 e => ?_) (fun b8 e => ?_)
        · refine Rn_icF hc rfl rfl (by decide) (fun w => w b8) ?_
          refine Rn_ms (σ' := (48, [some (vS 2), some (vR 1), none, none, none, none], [vR 1], (G0, k7.2))) hc 1 rfl ?_
          refine R_bind e (fun k9 hk9 e => ?_)
          refine Rn_cv hc rfl rfl (by decide) (ii := xi_99) rfl rfl rfl (tgc_1 : Tg _ = 10) (by decide) rfl (le := [some (vR 1)]) rfl (v := some (vI k9.1)) (M' := k9.2) (t_129  (d := d + 1) hk9 rfl) ?_
          refine Rn_ms (σ' := (53, [some (vS 2), some (vR 1), none, none, none, none], [vI (-2), vI k9.1], (G0, k9.2))) hc 1 rfl ?_
          refine R_ite e (fun b10 e => ?_) (fun b10 e => ?_)
          · refine Rn_icF hc rfl rfl (by decide) (fun w => w b10) ?_
            refine Rn_ms (σ' := (57, [some (vS 2), some (vR 1), none, none, none, none], [vR 1], (G0, k9.2))) hc 1 rfl ?_
            refine R_bind e (fun k11 hk11 e => ?_)
            refine Rn_cs hc rfl rfl (by decide) (ii := xi_110) rfl rfl rfl (le := [some (vR 1), none, none, none, none, none, none, none, none, none, none, none]) rfl (v := some (vI k11.1)) (M' := k11.2) (t_305  (d := d + 1) hk11 rfl) ?_
            show Rn rom (d + 8) 115 (60, [some (vS 2), some (vR 1), none, none, none, none], [vI k11.1], (G0, k11.2)) out
            refine R_ite e (fun b12 e => ?_) (fun b12 e => ?_)
            · refine Rn_ifF hc rfl rfl (by decide) (fun w => w b12) ?_
              refine Rn_ms (σ' := (64, [some (vS 2), some (vR 1), none, none, none, none], [vI 0], (G0, k11.2))) hc 1 rfl ?_
              cases e
              exact R_end (Rn_iret hc rfl rfl (xretB rfl rfl (by decide))) hK
            · refine Rn_ifT (tgt := 65) hc rfl rfl (by decide) (fun w => b12 w) ?_
              refine Rn_ms (σ' := (67, [some (vS 2), some (vR 1), some (vI 0), none, none, none], [], (G0, k11.2))) hc 2 rfl ?_
              exact Rn_weak (xle_s (xle_s (xle_s (xle_s (xle_s (xle_s xle_0)))))) (t_310_L67  e hK)
          · refine Rn_icT (tgt := 63) hc rfl rfl (by decide) (fun w => b10 w) ?_
            refine Rn_ms (σ' := (64, [some (vS 2), some (vR 1), none, none, none, none], [vI 0], (G0, k9.2))) hc 1 rfl ?_
            cases e
            exact R_end (Rn_iret hc rfl rfl (xretB rfl rfl (by decide))) hK
        · refine Rn_icT (tgt := 63) hc rfl rfl (by decide) (fun w => b8 w) ?_
          refine Rn_ms (σ' := (64, [some (vS 2), some (vR 1), none, none, none, none], [vI 0], (G0, k7.2))) hc 1 rfl ?_
          cases e
          exact R_end (Rn_iret hc rfl rfl (xretB rfl rfl (by decide))) hK
      · refine Rn_ifT (tgt := 63) hc rfl rfl (by decide) (fun w => b6 w) ?_
        refine Rn_ms (σ' := (64, [some (vS 2), some (vR 1), none, none, none, none], [vI 0], (G0, M))) hc 1 rfl ?_
        cases e
        exact R_end (Rn_iret hc rfl rfl (xretB rfl rfl (by decide))) hK
    · refine Rn_icT (tgt := 63) hc rfl rfl (by decide) (fun w => b4 w) ?_
      refine Rn_ms (σ' := (64, [some (vS 2), some (vR 1), none, none, none, none], [vI 0], (G0, M))) hc 1 rfl ?_
      cases e
      exact R_end (Rn_iret hc rfl rfl (xretB rfl rfl (by decide))) hK
  · refine Rn_icT (tgt := 63) hc rfl rfl (by decide) (fun w => b2 w) ?_
    refine Rn_ms (σ' := (64, [some (vS 2), some (vR 1), none, none, none, none], [vI 0], (G0, M))) hc 1 rfl ?_
    cases e
    exact R_end (Rn_iret hc rfl rfl (xretB rfl rfl (by decide))) hK
