/-! functions for methods, by program (wip/whole/gen/dec.py) -/
def f_212_L26b (M : xM) (c1 : Int) (v2 : Int) : Option ((Int) ⊕ (Int)) :=
  (f_147 M).bind (fun k4 =>
  if wr k4 ≤ wr v2 then
    some (.inr ((-4)))
  else
    (f_147 M).bind (fun k6 =>
    (f_139 M 3).bind (fun k7 =>
    gd ((wr k7) ≠ 0) (
    if wr ((wr ((c1 * k6) + v2)).tmod (wr k7)) = 0 then
      some (.inr (v2))
    else
      some (.inl (v2 + 1))
    )))
  )
theorem t_212_L26b {rom : xRom} {d : Nat} {c1 : Int} {v2 : Int} {M : xM} {r : (Int) ⊕ (Int)} {out : Option xV × xH} (e : f_212_L26b M c1 v2 = some r) (hK : ((Sum.elim (fun s => Rn rom (d + 3) 212 (26, [some (vR 182), some (vI c1), some (vI s)], [], (G0, M)) out) (eI M out))) r) : Rn rom (d + 3) 212 (26, [some (vR 182), some (vI c1), some (vI v2)], [], (G0, M)) out := by
  have hc : xkall.getD 212 [] = xk_212 := rfl
  unfold f_212_L26b at e
  refine Rn_ms (σ' := (28, [some (vR 182), some (vI c1), some (vI v2)], [vR 182, vI v2], (G0, M))) hc 2 rfl ?_
  refine R_bind e (fun k4 hk4 e => ?_)
  refine Rn_cv hc rfl rfl (by decide) (ii := xi_147) rfl rfl rfl (tgc_182 : Tg _ = 11) (by decide) rfl (le := [some (vR 182)]) rfl (v := some (vI k4)) (M' := M) (t_147  (d := d + 0) hk4 rfl) ?_
  show Rn rom (d + 3) 212 (31, [some (vR 182), some (vI c1), some (vI v2)], [vI k4, vI v2], (G0, M)) out
  refine R_ite e (fun b5 e => ?_) (fun b5 e => ?_)
  · refine Rn_icT (tgt := 59) hc rfl rfl (by decide) b5 ?_
    refine Rn_ms (σ' := (61, [some (vR 182), some (vI c1), some (vI v2)], [vI (-4)], (G0, M))) hc 1 rfl ?_
    cases e
    exact R_end (Rn_iret hc rfl rfl (xretI rfl rfl)) hK
  · refine Rn_icF hc rfl rfl (by decide) b5 ?_
    refine Rn_ms (σ' := (36, [some (vR 182), some (vI c1), some (vI v2)], [vR 182, vI c1], (G0, M))) hc 2 rfl ?_
    refine R_bind e (fun k6 hk6 e => ?_)
    refine Rn_cv hc rfl rfl (by decide) (ii := xi_147) rfl rfl rfl (tgc_182 : Tg _ = 11) (by decide) rfl (le := [some (vR 182)]) rfl (v := some (vI k6)) (M' := M) (t_147  (d := d + 0) hk6 rfl) ?_
    refine Rn_ms (σ' := (44, [some (vR 182), some (vI c1), some (vI v2)], [vI 3, vR 182, vI ((c1 * k6) + v2)], (G0, M))) hc 5 rfl ?_
    refine R_bind e (fun k7 hk7 e => ?_)
    refine Rn_cv hc rfl rfl (by decide) (ii := xi_139) rfl rfl rfl (tgc_182 : Tg _ = 11) (by decide) rfl (le := [some (vR 182), some (vI 3)]) rfl (v := some (vI k7)) (M' := M) (t_139  (d := d + 2) hk7 rfl) ?_
    show Rn rom (d + 3) 212 (47, [some (vR 182), some (vI c1), some (vI v2)], [vI k7, vI ((c1 * k6) + v2)], (G0, M)) out
    refine R_gd e (fun g8 e => ?_)
    refine Rn_rem hc rfl ⟨rfl, rfl⟩ (z' := (wr k7)) rfl g8 ?_
    show Rn rom (d + 3) 212 (48, [some (vR 182), some (vI c1), some (vI v2)], [vI ((wr ((c1 * k6) + v2)).tmod (wr k7))], (G0, M)) out
    refine R_ite e (fun b9 e => ?_) (fun b9 e => ?_)
    · refine Rn_ifF hc rfl rfl (by decide) (fun w => w b9) ?_
      refine Rn_ms (σ' := (52, [some (vR 182), some (vI c1), some (vI v2)], [vI v2], (G0, M))) hc 1 rfl ?_
      cases e
      exact R_end (Rn_iret hc rfl rfl (xretI rfl rfl)) hK
    · refine Rn_ifT (tgt := 53) hc rfl rfl (by decide) (fun w => b9 w) ?_
      refine Rn_ms (σ' := (26, [some (vR 182), some (vI c1), some (vI (v2 + 1))], [], (G0, M))) hc 2 rfl ?_
      cases e
      exact Rn_weak (xle_s (xle_s (xle_s xle_0))) hK
def f_212_L26 (M : xM) (c1 : Int) (s : Int) : Option (Int) := loop NF (fun s => f_212_L26b M c1 s) s
theorem t_212_L26 {rom : xRom} {d : Nat} {c1 : Int} {M : xM} {s : Int} {r : Int} {out : Option xV × xH} (e : f_212_L26 M c1 s = some r) (hK : (eI M out) r) : Rn rom (d + 3) 212 (26, [some (vR 182), some (vI c1), some (vI s)], [], (G0, M)) out := by
  unfold f_212_L26 at e
  revert e hK
  exact R_loop (b := fun s => f_212_L26b M c1 s) (G := fun s => Rn rom (d + 3) 212 (26, [some (vR 182), some (vI c1), some (vI s)], [], (G0, M)) out) (K := eI M out) (fun s r e hK => t_212_L26b  e hK) NF s r
/-- PedalLayersModel.drift -/
def f_212 (M : xM) (a1 : Int) : Option (Int) :=
  if wr (f_138 a1 0 99) = 0 then
    some (-1)
  else
    (f_139 M 7).bind (fun k2 =>
    if wr k2 = 0 then
      some (-2)
    else
      f_212_L26 M a1 (0)
    )
theorem t_212 {rom : xRom} {d : Nat} {M : xM} {a1 : Int} {r : Int} {out : Option xV × xH} (e : f_212 M a1 = some r) (hK : eI M out r) : Rn rom (d + 3) 212 (0, [some (vR 182), some (vI a1), none], [], (G0, M)) out := by
  have hc : xkall.getD 212 [] = xk_212 := rfl
  unfold f_212 at e
  refine Rn_ms (σ' := (4, [some (vR 182), some (vI a1), none], [vI 99, vI 0, vI a1], (G0, M))) hc 3 rfl ?_
  refine Rn_cs hc rfl rfl (by decide) (ii := xi_138) rfl rfl rfl (le := [some (vI a1), some (vI 0), some (vI 99)]) rfl (v := some (vI (f_138 a1 0 99))) (M' := M) (t_138  (d := d + 2) rfl rfl) ?_
  show Rn rom (d + 3) 212 (7, [some (vR 182), some (vI a1), none], [vI (f_138 a1 0 99)], (G0, M)) out
  refine R_ite e (fun b1 e => ?_) (fun b1 e => ?_)
  · refine Rn_ifF hc rfl rfl (by decide) (fun w => w b1) ?_
    refine Rn_ms (σ' := (11, [some (vR 182), some (vI a1), none], [vI (-1)], (G0, M))) hc 1 rfl ?_
    cases e
    exact R_end (Rn_iret hc rfl rfl (xretI rfl rfl)) hK
  · refine Rn_ifT (tgt := 12) hc rfl rfl (by decide) (fun w => b1 w) ?_
    refine Rn_ms (σ' := (15, [some (vR 182), some (vI a1), none], [vI 7, vR 182], (G0, M))) hc 2 rfl ?_
    refine R_bind e (fun k2 hk2 e => ?_)
    refine Rn_cv hc rfl rfl (by decide) (ii := xi_139) rfl rfl rfl (tgc_182 : Tg _ = 11) (by decide) rfl (le := [some (vR 182), some (vI 7)]) rfl (v := some (vI k2)) (M' := M) (t_139  (d := d + 2) hk2 rfl) ?_
    show Rn rom (d + 3) 212 (18, [some (vR 182), some (vI a1), none], [vI k2], (G0, M)) out
    refine R_ite e (fun b3 e => ?_) (fun b3 e => ?_)
    · refine Rn_ifF hc rfl rfl (by decide) (fun w => w b3) ?_
      refine Rn_ms (σ' := (23, [some (vR 182), some (vI a1), none], [vI (-2)], (G0, M))) hc 1 rfl ?_
      cases e
      exact R_end (Rn_iret hc rfl rfl (xretI rfl rfl)) hK
    · refine Rn_ifT (tgt := 24) hc rfl rfl (by decide) (fun w => b3 w) ?_
      refine Rn_ms (σ' := (26, [some (vR 182), some (vI a1), some (vI 0)], [], (G0, M))) hc 2 rfl ?_
      exact Rn_weak (xle_s (xle_s (xle_s xle_0))) (t_212_L26  e hK)
def f_213_L14b (M : xM) (v1 : Int) : Option ((Int) ⊕ (Int)) :=
  (f_147 M).bind (fun k3 =>
  (f_139 M 3).bind (fun k4 =>
  gd ((wr k4) ≠ 0) (
  if wr ((wr (v1 * k3)).tmod (wr k4)) = 0 then
    some (.inr (v1))
  else
    some (.inl (v1 + 1))
  )))
theorem t_213_L14b {rom : xRom} {d : Nat} {v1 : Int} {M : xM} {r : (Int) ⊕ (Int)} {out : Option xV × xH} (e : f_213_L14b M v1 = some r) (hK : ((Sum.elim (fun s => Rn rom (d + 3) 213 (14, [some (vR 182), some (vI s)], [], (G0, M)) out) (eI M out))) r) : Rn rom (d + 3) 213 (14, [some (vR 182), some (vI v1)], [], (G0, M)) out := by
  have hc : xkall.getD 213 [] = xk_213 := rfl
  unfold f_213_L14b at e
  refine Rn_ms (σ' := (16, [some (vR 182), some (vI v1)], [vR 182, vI v1], (G0, M))) hc 2 rfl ?_
  refine R_bind e (fun k3 hk3 e => ?_)
  refine Rn_cv hc rfl rfl (by decide) (ii := xi_147) rfl rfl rfl (tgc_182 : Tg _ = 11) (by decide) rfl (le := [some (vR 182)]) rfl (v := some (vI k3)) (M' := M) (t_147  (d := d + 0) hk3 rfl) ?_
  refine Rn_ms (σ' := (22, [some (vR 182), some (vI v1)], [vI 3, vR 182, vI (v1 * k3)], (G0, M))) hc 3 rfl ?_
  refine R_bind e (fun k4 hk4 e => ?_)
  refine Rn_cv hc rfl rfl (by decide) (ii := xi_139) rfl rfl rfl (tgc_182 : Tg _ = 11) (by decide) rfl (le := [some (vR 182), some (vI 3)]) rfl (v := some (vI k4)) (M' := M) (t_139  (d := d + 2) hk4 rfl) ?_
  show Rn rom (d + 3) 213 (25, [some (vR 182), some (vI v1)], [vI k4, vI (v1 * k3)], (G0, M)) out
  refine R_gd e (fun g5 e => ?_)
  refine Rn_rem hc rfl ⟨rfl, rfl⟩ (z' := (wr k4)) rfl g5 ?_
  show Rn rom (d + 3) 213 (26, [some (vR 182), some (vI v1)], [vI ((wr (v1 * k3)).tmod (wr k4))], (G0, M)) out
  refine R_ite e (fun b6 e => ?_) (fun b6 e => ?_)
  · refine Rn_ifT (tgt := 35) hc rfl rfl (by decide) b6 ?_
    refine Rn_ms (σ' := (36, [some (vR 182), some (vI v1)], [vI v1], (G0, M))) hc 1 rfl ?_
    cases e
    exact R_end (Rn_iret hc rfl rfl (xretI rfl rfl)) hK
  · refine Rn_ifF hc rfl rfl (by decide) b6 ?_
    refine Rn_ms (σ' := (14, [some (vR 182), some (vI (v1 + 1))], [], (G0, M))) hc 2 rfl ?_
    cases e
    exact Rn_weak (xle_s (xle_s xle_0)) hK
def f_213_L14 (M : xM) (s : Int) : Option (Int) := loop NF (fun s => f_213_L14b M s) s
theorem t_213_L14 {rom : xRom} {d : Nat}  {M : xM} {s : Int} {r : Int} {out : Option xV × xH} (e : f_213_L14 M s = some r) (hK : (eI M out) r) : Rn rom (d + 3) 213 (14, [some (vR 182), some (vI s)], [], (G0, M)) out := by
  unfold f_213_L14 at e
  revert e hK
  exact R_loop (b := fun s => f_213_L14b M s) (G := fun s => Rn rom (d + 3) 213 (14, [some (vR 182), some (vI s)], [], (G0, M)) out) (K := eI M out) (fun s r e hK => t_213_L14b  e hK) NF s r
/-- PedalLayersModel.meets -/
def f_213 (M : xM) : Option (Int) :=
  (f_139 M 7).bind (fun k1 =>
  if wr k1 = 0 then
    some (-2)
  else
    f_213_L14 M (1)
  )
theorem t_213 {rom : xRom} {d : Nat} {M : xM}  {r : Int} {out : Option xV × xH} (e : f_213 M = some r) (hK : eI M out r) : Rn rom (d + 3) 213 (0, [some (vR 182), none], [], (G0, M)) out := by
  have hc : xkall.getD 213 [] = xk_213 := rfl
  unfold f_213 at e
  refine Rn_ms (σ' := (3, [some (vR 182), none], [vI 7, vR 182], (G0, M))) hc 2 rfl ?_
  refine R_bind e (fun k1 hk1 e => ?_)
  refine Rn_cv hc rfl rfl (by decide) (ii := xi_139) rfl rfl rfl (tgc_182 : Tg _ = 11) (by decide) rfl (le := [some (vR 182), some (vI 7)]) rfl (v := some (vI k1)) (M' := M) (t_139  (d := d + 2) hk1 rfl) ?_
  show Rn rom (d + 3) 213 (6, [some (vR 182), none], [vI k1], (G0, M)) out
  refine R_ite e (fun b2 e => ?_) (fun b2 e => ?_)
  · refine Rn_ifF hc rfl rfl (by decide) (fun w => w b2) ?_
    refine Rn_ms (σ' := (11, [some (vR 182), none], [vI (-2)], (G0, M))) hc 1 rfl ?_
    cases e
    exact R_end (Rn_iret hc rfl rfl (xretI rfl rfl)) hK
  · refine Rn_ifT (tgt := 12) hc rfl rfl (by decide) (fun w => b2 w) ?_
    refine Rn_ms (σ' := (14, [some (vR 182), some (vI 1)], [], (G0, M))) hc 2 rfl ?_
    exact Rn_weak (xle_s (xle_s xle_0)) (t_213_L14  e hK)
/-- PedalLayersModel.rounded -/
def f_214 (M : xM) (a1 : Int) : Option (Int) :=
  if wr (f_138 a1 1 24) = 0 then
    some (-1)
  else
    (f_153 M a1).bind (fun k2 =>
    some (k2)
    )
theorem t_214 {rom : xRom} {d : Nat} {M : xM} {a1 : Int} {r : Int} {out : Option xV × xH} (e : f_214 M a1 = some r) (hK : eI M out r) : Rn rom (d + 2) 214 (0, [some (vR 182), some (vI a1)], [], (G0, M)) out := by
  have hc : xkall.getD 214 [] = xk_214 := rfl
  unfold f_214 at e
  refine Rn_ms (σ' := (4, [some (vR 182), some (vI a1)], [vI 24, vI 1, vI a1], (G0, M))) hc 3 rfl ?_
  refine Rn_cs hc rfl rfl (by decide) (ii := xi_138) rfl rfl rfl (le := [some (vI a1), some (vI 1), some (vI 24)]) rfl (v := some (vI (f_138 a1 1 24))) (M' := M) (t_138  (d := d + 1) rfl rfl) ?_
  show Rn rom (d + 2) 214 (7, [some (vR 182), some (vI a1)], [vI (f_138 a1 1 24)], (G0, M)) out
  refine R_ite e (fun b1 e => ?_) (fun b1 e => ?_)
  · refine Rn_ifT (tgt := 18) hc rfl rfl (by decide) b1 ?_
    refine Rn_ms (σ' := (19, [some (vR 182), some (vI a1)], [vI (-1)], (G0, M))) hc 1 rfl ?_
    cases e
    exact R_end (Rn_iret hc rfl rfl (xretI rfl rfl)) hK
  · refine Rn_ifF hc rfl rfl (by decide) b1 ?_
    refine Rn_ms (σ' := (12, [some (vR 182), some (vI a1)], [vI a1, vR 182], (G0, M))) hc 2 rfl ?_
    refine R_bind e (fun k2 hk2 e => ?_)
    refine Rn_cv hc rfl rfl (by decide) (ii := xi_153) rfl rfl rfl (tgc_182 : Tg _ = 11) (by decide) rfl (le := [some (vR 182), some (vI a1), none, none, none, none, none]) rfl (v := some (vI k2)) (M' := M) (t_153  (d := d + 0) hk2 rfl) ?_
    refine Rn_ms (σ' := (19, [some (vR 182), some (vI a1)], [vI k2], (G0, M))) hc 1 rfl ?_
    cases e
    exact R_end (Rn_iret hc rfl rfl (xretI rfl rfl)) hK
def f_215_L16b (M : xM) (c2 : Int) (v1 : Int) (v3 : Int) : Option ((Int × Int) ⊕ ((Int × Int) ⊕ (Int))) :=
  (f_139 M (14 + c2)).bind (fun k3 =>
  if wr (k3 * 36) ≤ wr v3 then
    some (.inr (.inl (v1, (c2 + 1))))
  else
    (f_196 M c2 ((wr v3).tdiv 36) ((wr v3).tmod 36)).bind (fun k5 =>
    if wr k5 ≤ wr v1 then
      some (.inl (v1, (v3 + 1)))
    else
      some (.inl (k5, (v3 + 1)))
    )
  )
theorem t_215_L16b {rom : xRom} {d : Nat} {c2 : Int} {v1 : Int} {v3 : Int} {M : xM} {r : (Int × Int) ⊕ ((Int × Int) ⊕ (Int))} {out : Option xV × xH} (e : f_215_L16b M c2 v1 v3 = some r) (hK : ((Sum.elim (fun s => Rn rom (d + 2) 215 (16, [some (vR 182), some (vI s.1), some (vI c2), some (vI s.2), none], [], (G0, M)) out) ((Sum.elim (fun s => Rn rom (d + 2) 215 (4, [some (vR 182), some (vI s.1), some (vI s.2), none, none], [], (G0, M)) out) (eI M out))))) r) : Rn rom (d + 2) 215 (16, [some (vR 182), some (vI v1), some (vI c2), some (vI v3), none], [], (G0, M)) out := by
  have hc : xkall.getD 215 [] = xk_215 := rfl
  unfold f_215_L16b at e
  refine Rn_ms (σ' := (22, [some (vR 182), some (vI v1), some (vI c2), some (vI v3), none], [vI (14 + c2), vR 182, vI v3], (G0, M))) hc 5 rfl ?_
  refine R_bind e (fun k3 hk3 e => ?_)
  refine Rn_cv hc rfl rfl (by decide) (ii := xi_139) rfl rfl rfl (tgc_182 : Tg _ = 11) (by decide) rfl (le := [some (vR 182), some (vI (14 + c2))]) rfl (v := some (vI k3)) (M' := M) (t_139  (d := d + 1) hk3 rfl) ?_
  refine Rn_ms (σ' := (28, [some (vR 182), some (vI v1), some (vI c2), some (vI v3), none], [vI (k3 * 36), vI v3], (G0, M))) hc 2 rfl ?_
  refine R_ite e (fun b4 e => ?_) (fun b4 e => ?_)
  · refine Rn_icT (tgt := 65) hc rfl rfl (by decide) b4 ?_
    refine Rn_ms (σ' := (4, [some (vR 182), some (vI v1), some (vI (c2 + 1)), some (vI v3), none], [], (G0, M))) hc 2 rfl ?_
    cases e
    exact Rn_weak (xle_s (xle_s (xle_s (xle_n (xle_s xle_0))))) hK
  · refine Rn_icF hc rfl rfl (by decide) b4 ?_
    refine Rn_ms (σ' := (36, [some (vR 182), some (vI v1), some (vI c2), some (vI v3), none], [vI 36, vI v3, vI c2, vR 182], (G0, M))) hc 4 rfl ?_
    refine Rn_div hc rfl ⟨rfl, rfl⟩ (z' := 36) (by decide) (by decide) ?_
    refine Rn_ms (σ' := (40, [some (vR 182), some (vI v1), some (vI c2), some (vI v3), none], [vI 36, vI v3, vI ((wr v3).tdiv 36), vI c2, vR 182], (G0, M))) hc 2 rfl ?_
    refine Rn_rem hc rfl ⟨rfl, rfl⟩ (z' := 36) (by decide) (by decide) ?_
    show Rn rom (d + 2) 215 (41, [some (vR 182), some (vI v1), some (vI c2), some (vI v3), none], [vI ((wr v3).tmod 36), vI ((wr v3).tdiv 36), vI c2, vR 182], (G0, M)) out
    refine R_bind e (fun k5 hk5 e => ?_)
    refine Rn_cv hc rfl rfl (by decide) (ii := xi_196) rfl rfl rfl (tgc_182 : Tg _ = 11) (by decide) rfl (le := [some (vR 182), some (vI c2), some (vI ((wr v3).tdiv 36)), some (vI ((wr v3).tmod 36)), none]) rfl (v := some (vI k5)) (M' := M) (t_196  (d := d + 0) hk5 rfl) ?_
    refine Rn_ms (σ' := (49, [some (vR 182), some (vI v1), some (vI c2), some (vI v3), some (vI k5)], [vI v1, vI k5], (G0, M))) hc 3 rfl ?_
    refine R_ite e (fun b6 e => ?_) (fun b6 e => ?_)
    · refine Rn_icT (tgt := 57) hc rfl rfl (by decide) b6 ?_
      refine Rn_ms (σ' := (16, [some (vR 182), some (vI v1), some (vI c2), some (vI (v3 + 1)), some (vI k5)], [], (G0, M))) hc 4 rfl ?_
      cases e
      exact Rn_weak (xle_s (xle_s (xle_s (xle_s (xle_n xle_0))))) hK
    · refine Rn_icF hc rfl rfl (by decide) b6 ?_
      refine Rn_ms (σ' := (16, [some (vR 182), some (vI k5), some (vI c2), some (vI (v3 + 1)), some (vI k5)], [], (G0, M))) hc 5 rfl ?_
      cases e
      exact Rn_weak (xle_s (xle_s (xle_s (xle_s (xle_n xle_0))))) hK
def f_215_L16 (M : xM) (c2 : Int) (s : Int × Int) : Option ((Int × Int) ⊕ (Int)) := loop NF (fun s => f_215_L16b M c2 s.1 s.2) s
theorem t_215_L16 {rom : xRom} {d : Nat} {c2 : Int} {M : xM} {s : Int × Int} {r : (Int × Int) ⊕ (Int)} {out : Option xV × xH} (e : f_215_L16 M c2 s = some r) (hK : ((Sum.elim (fun s => Rn rom (d + 2) 215 (4, [some (vR 182), some (vI s.1), some (vI s.2), none, none], [], (G0, M)) out) (eI M out))) r) : Rn rom (d + 2) 215 (16, [some (vR 182), some (vI s.1), some (vI c2), some (vI s.2), none], [], (G0, M)) out := by
  unfold f_215_L16 at e
  revert e hK
  exact R_loop (b := fun s => f_215_L16b M c2 s.1 s.2) (G := fun s => Rn rom (d + 2) 215 (16, [some (vR 182), some (vI s.1), some (vI c2), some (vI s.2), none], [], (G0, M)) out) (K := (Sum.elim (fun s => Rn rom (d + 2) 215 (4, [some (vR 182), some (vI s.1), some (vI s.2), none, none], [], (G0, M)) out) (eI M out))) (fun s r e hK => t_215_L16b  e hK) NF s r
def f_215_L4b (M : xM) (v1 : Int) (v2 : Int) : Option ((Int × Int) ⊕ (Int)) :=
  (f_139 M 7).bind (fun k1 =>
  if wr k1 ≤ wr v2 then
    some (.inr (v1))
  else
    f_215_L16 M v2 (v1, 0)
  )
theorem t_215_L4b {rom : xRom} {d : Nat} {v1 : Int} {v2 : Int} {M : xM} {r : (Int × Int) ⊕ (Int)} {out : Option xV × xH} (e : f_215_L4b M v1 v2 = some r) (hK : ((Sum.elim (fun s => Rn rom (d + 2) 215 (4, [some (vR 182), some (vI s.1), some (vI s.2), none, none], [], (G0, M)) out) (eI M out))) r) : Rn rom (d + 2) 215 (4, [some (vR 182), some (vI v1), some (vI v2), none, none], [], (G0, M)) out := by
  have hc : xkall.getD 215 [] = xk_215 := rfl
  unfold f_215_L4b at e
  refine Rn_ms (σ' := (8, [some (vR 182), some (vI v1), some (vI v2), none, none], [vI 7, vR 182, vI v2], (G0, M))) hc 3 rfl ?_
  refine R_bind e (fun k1 hk1 e => ?_)
  refine Rn_cv hc rfl rfl (by decide) (ii := xi_139) rfl rfl rfl (tgc_182 : Tg _ = 11) (by decide) rfl (le := [some (vR 182), some (vI 7)]) rfl (v := some (vI k1)) (M' := M) (t_139  (d := d + 1) hk1 rfl) ?_
  show Rn rom (d + 2) 215 (11, [some (vR 182), some (vI v1), some (vI v2), none, none], [vI k1, vI v2], (G0, M)) out
  refine R_ite e (fun b2 e => ?_) (fun b2 e => ?_)
  · refine Rn_icT (tgt := 71) hc rfl rfl (by decide) b2 ?_
    refine Rn_ms (σ' := (72, [some (vR 182), some (vI v1), some (vI v2), none, none], [vI v1], (G0, M))) hc 1 rfl ?_
    cases e
    exact R_end (Rn_iret hc rfl rfl (xretI rfl rfl)) hK
  · refine Rn_icF hc rfl rfl (by decide) b2 ?_
    refine Rn_ms (σ' := (16, [some (vR 182), some (vI v1), some (vI v2), some (vI 0), none], [], (G0, M))) hc 2 rfl ?_
    exact Rn_weak (xle_s (xle_s (xle_s (xle_s (xle_s xle_0))))) (t_215_L16  e hK)
def f_215_L4 (M : xM) (s : Int × Int) : Option (Int) := loop NF (fun s => f_215_L4b M s.1 s.2) s
theorem t_215_L4 {rom : xRom} {d : Nat}  {M : xM} {s : Int × Int} {r : Int} {out : Option xV × xH} (e : f_215_L4 M s = some r) (hK : (eI M out) r) : Rn rom (d + 2) 215 (4, [some (vR 182), some (vI s.1), some (vI s.2), none, none], [], (G0, M)) out := by
  unfold f_215_L4 at e
  revert e hK
  exact R_loop (b := fun s => f_215_L4b M s.1 s.2) (G := fun s => Rn rom (d + 2) 215 (4, [some (vR 182), some (vI s.1), some (vI s.2), none, none], [], (G0, M)) out) (K := eI M out) (fun s r e hK => t_215_L4b  e hK) NF s r
/-- PedalLayersModel.greatest -/
def f_215 (M : xM) : Option (Int) :=
  f_215_L4 M (0, 0)
theorem t_215 {rom : xRom} {d : Nat} {M : xM}  {r : Int} {out : Option xV × xH} (e : f_215 M = some r) (hK : eI M out r) : Rn rom (d + 2) 215 (0, [some (vR 182), none, none, none, none], [], (G0, M)) out := by
  have hc : xkall.getD 215 [] = xk_215 := rfl
  unfold f_215 at e
  refine Rn_ms (σ' := (4, [some (vR 182), some (vI 0), some (vI 0), none, none], [], (G0, M))) hc 4 rfl ?_
  exact Rn_weak (xle_s (xle_s (xle_s (xle_s (xle_s xle_0))))) (t_215_L4  e hK)
def f_216_L19b (M : xM) (v1 : Int) (v2 : Int) : Option ((Int × Int) ⊕ (Int)) :=
  if 99 < wr v2 then
    some (.inr ((-4)))
  else
    if wr v1 = 0 then
      some (.inr (v2))
    else
      (f_139 M 5).bind (fun k6 =>
      some (.inl (((wr (v1 * (100 - k6))).tdiv 100), (v2 + 1)))
      )
theorem t_216_L19b {rom : xRom} {d : Nat} {v1 : Int} {v2 : Int} {M : xM} {r : (Int × Int) ⊕ (Int)} {out : Option xV × xH} (e : f_216_L19b M v1 v2 = some r) (hK : ((Sum.elim (fun s => Rn rom (d + 3) 216 (19, [some (vR 182), some (vI s.1), some (vI s.2)], [], (G0, M)) out) (eI M out))) r) : Rn rom (d + 3) 216 (19, [some (vR 182), some (vI v1), some (vI v2)], [], (G0, M)) out := by
  have hc : xkall.getD 216 [] = xk_216 := rfl
  unfold f_216_L19b at e
  refine Rn_ms (σ' := (22, [some (vR 182), some (vI v1), some (vI v2)], [vI 99, vI v2], (G0, M))) hc 2 rfl ?_
  refine R_ite e (fun b4 e => ?_) (fun b4 e => ?_)
  · refine Rn_icT (tgt := 51) hc rfl rfl (by decide) b4 ?_
    refine Rn_ms (σ' := (53, [some (vR 182), some (vI v1), some (vI v2)], [vI (-4)], (G0, M))) hc 1 rfl ?_
    cases e
    exact R_end (Rn_iret hc rfl rfl (xretI rfl rfl)) hK
  · refine Rn_icF hc rfl rfl (by decide) b4 ?_
    refine Rn_ms (σ' := (26, [some (vR 182), some (vI v1), some (vI v2)], [vI v1], (G0, M))) hc 1 rfl ?_
    refine R_ite e (fun b5 e => ?_) (fun b5 e => ?_)
    · refine Rn_ifF hc rfl rfl (by decide) (fun w => w b5) ?_
      refine Rn_ms (σ' := (30, [some (vR 182), some (vI v1), some (vI v2)], [vI v2], (G0, M))) hc 1 rfl ?_
      cases e
      exact R_end (Rn_iret hc rfl rfl (xretI rfl rfl)) hK
    · refine Rn_ifT (tgt := 31) hc rfl rfl (by decide) (fun w => b5 w) ?_
      refine Rn_ms (σ' := (36, [some (vR 182), some (vI v1), some (vI v2)], [vI 5, vR 182, vI 100, vI v1], (G0, M))) hc 4 rfl ?_
      refine R_bind e (fun k6 hk6 e => ?_)
      refine Rn_cv hc rfl rfl (by decide) (ii := xi_139) rfl rfl rfl (tgc_182 : Tg _ = 11) (by decide) rfl (le := [some (vR 182), some (vI 5)]) rfl (v := some (vI k6)) (M' := M) (t_139  (d := d + 2) hk6 rfl) ?_
      refine Rn_ms (σ' := (43, [some (vR 182), some (vI v1), some (vI v2)], [vI 100, vI (v1 * (100 - k6))], (G0, M))) hc 3 rfl ?_
      refine Rn_div hc rfl ⟨rfl, rfl⟩ (z' := 100) (by decide) (by decide) ?_
      refine Rn_ms (σ' := (19, [some (vR 182), some (vI ((wr (v1 * (100 - k6))).tdiv 100)), some (vI (v2 + 1))], [], (G0, M))) hc 3 rfl ?_
      cases e
      exact Rn_weak (xle_s (xle_s (xle_s xle_0))) hK
def f_216_L19 (M : xM) (s : Int × Int) : Option (Int) := loop NF (fun s => f_216_L19b M s.1 s.2) s
theorem t_216_L19 {rom : xRom} {d : Nat}  {M : xM} {s : Int × Int} {r : Int} {out : Option xV × xH} (e : f_216_L19 M s = some r) (hK : (eI M out) r) : Rn rom (d + 3) 216 (19, [some (vR 182), some (vI s.1), some (vI s.2)], [], (G0, M)) out := by
  unfold f_216_L19 at e
  revert e hK
  exact R_loop (b := fun s => f_216_L19b M s.1 s.2) (G := fun s => Rn rom (d + 3) 216 (19, [some (vR 182), some (vI s.1), some (vI s.2)], [], (G0, M)) out) (K := eI M out) (fun s r e hK => t_216_L19b  e hK) NF s r
/-- PedalLayersModel.silentIn -/
def f_216 (M : xM) : Option (Int) :=
  (f_139 M 7).bind (fun k1 =>
  if wr k1 = 0 then
    some (-2)
  else
    (f_215 M).bind (fun k3 =>
    f_216_L19 M (k3, 0)
    )
  )
theorem t_216 {rom : xRom} {d : Nat} {M : xM}  {r : Int} {out : Option xV × xH} (e : f_216 M = some r) (hK : eI M out r) : Rn rom (d + 3) 216 (0, [some (vR 182), none, none], [], (G0, M)) out := by
  have hc : xkall.getD 216 [] = xk_216 := rfl
  unfold f_216 at e
  refine Rn_ms (σ' := (3, [some (vR 182), none, none], [vI 7, vR 182], (G0, M))) hc 2 rfl ?_
  refine R_bind e (fun k1 hk1 e => ?_)
  refine Rn_cv hc rfl rfl (by decide) (ii := xi_139) rfl rfl rfl (tgc_182 : Tg _ = 11) (by decide) rfl (le := [some (vR 182), some (vI 7)]) rfl (v := some (vI k1)) (M' := M) (t_139  (d := d + 2) hk1 rfl) ?_
  show Rn rom (d + 3) 216 (6, [some (vR 182), none, none], [vI k1], (G0, M)) out
  refine R_ite e (fun b2 e => ?_) (fun b2 e => ?_)
  · refine Rn_ifF hc rfl rfl (by decide) (fun w => w b2) ?_
    refine Rn_ms (σ' := (11, [some (vR 182), none, none], [vI (-2)], (G0, M))) hc 1 rfl ?_
    cases e
    exact R_end (Rn_iret hc rfl rfl (xretI rfl rfl)) hK
  · refine Rn_ifT (tgt := 12) hc rfl rfl (by decide) (fun w => b2 w) ?_
    refine Rn_ms (σ' := (13, [some (vR 182), none, none], [vR 182], (G0, M))) hc 1 rfl ?_
    refine R_bind e (fun k3 hk3 e => ?_)
    refine Rn_cv hc rfl rfl (by decide) (ii := xi_215) rfl rfl rfl (tgc_182 : Tg _ = 11) (by decide) rfl (le := [some (vR 182), none, none, none, none]) rfl (v := some (vI k3)) (M' := M) (t_215  (d := d + 0) hk3 rfl) ?_
    refine Rn_ms (σ' := (19, [some (vR 182), some (vI k3), some (vI 0)], [], (G0, M))) hc 3 rfl ?_
    exact Rn_weak (xle_s (xle_s (xle_s xle_0))) (t_216_L19  e hK)
def f_217_L53b (M : xM) (c1 : Int) (v3 : Int) (v4 : Int) : Option ((Int × Int) ⊕ (Int)) :=
  (f_146 M c1).bind (fun k5 =>
  if wr k5 ≤ wr v4 then
    some (.inr (v3))
  else
    (f_198 M c1 v4).bind (fun k7 =>
    if wr k7 = 0 then
      some (.inl ((v3 + 1), (v4 + 1)))
    else
      some (.inl ((v3 + 0), (v4 + 1)))
    )
  )
theorem t_217_L53b {rom : xRom} {d : Nat} {c1 : Int} {v3 : Int} {v4 : Int} {M : xM} {r : (Int × Int) ⊕ (Int)} {out : Option xV × xH} (e : f_217_L53b M c1 v3 v4 = some r) (hK : ((Sum.elim (fun s => Rn rom (d + 5) 217 (53, [some (vR 182), some (vI c1), none, some (vI s.1), some (vI s.2)], [], (G0, M)) out) (eI M out))) r) : Rn rom (d + 5) 217 (53, [some (vR 182), some (vI c1), none, some (vI v3), some (vI v4)], [], (G0, M)) out := by
  have hc : xkall.getD 217 [] = xk_217 := rfl
  unfold f_217_L53b at e
  refine Rn_ms (σ' := (57, [some (vR 182), some (vI c1), none, some (vI v3), some (vI v4)], [vI c1, vR 182, vI v4], (G0, M))) hc 3 rfl ?_
  refine R_bind e (fun k5 hk5 e => ?_)
  refine Rn_cv hc rfl rfl (by decide) (ii := xi_146) rfl rfl rfl (tgc_182 : Tg _ = 11) (by decide) rfl (le := [some (vR 182), some (vI c1), none, none]) rfl (v := some (vI k5)) (M' := M) (t_146  (d := d + 3) hk5 rfl) ?_
  show Rn rom (d + 5) 217 (60, [some (vR 182), some (vI c1), none, some (vI v3), some (vI v4)], [vI k5, vI v4], (G0, M)) out
  refine R_ite e (fun b6 e => ?_) (fun b6 e => ?_)
  · refine Rn_icT (tgt := 87) hc rfl rfl (by decide) b6 ?_
    refine Rn_ms (σ' := (88, [some (vR 182), some (vI c1), none, some (vI v3), some (vI v4)], [vI v3], (G0, M))) hc 1 rfl ?_
    cases e
    exact R_end (Rn_iret hc rfl rfl (xretI rfl rfl)) hK
  · refine Rn_icF hc rfl rfl (by decide) b6 ?_
    refine Rn_ms (σ' := (68, [some (vR 182), some (vI c1), none, some (vI v3), some (vI v4)], [vI v4, vI c1, vR 182, vI v3], (G0, M))) hc 4 rfl ?_
    refine R_bind e (fun k7 hk7 e => ?_)
    refine Rn_cv hc rfl rfl (by decide) (ii := xi_198) rfl rfl rfl (tgc_182 : Tg _ = 11) (by decide) rfl (le := [some (vR 182), some (vI c1), some (vI v4), none, none]) rfl (v := some (vI k7)) (M' := M) (t_198  (d := d + 1) hk7 rfl) ?_
    show Rn rom (d + 5) 217 (71, [some (vR 182), some (vI c1), none, some (vI v3), some (vI v4)], [vI k7, vI v3], (G0, M)) out
    refine R_ite e (fun b8 e => ?_) (fun b8 e => ?_)
    · refine Rn_ifF hc rfl rfl (by decide) (fun w => w b8) ?_
      refine Rn_ms (σ' := (53, [some (vR 182), some (vI c1), none, some (vI (v3 + 1)), some (vI (v4 + 1))], [], (G0, M))) hc 6 rfl ?_
      cases e
      exact Rn_weak (xle_s (xle_s (xle_s (xle_s (xle_s xle_0))))) hK
    · refine Rn_ifT (tgt := 78) hc rfl rfl (by decide) (fun w => b8 w) ?_
      refine Rn_ms (σ' := (53, [some (vR 182), some (vI c1), none, some (vI (v3 + 0)), some (vI (v4 + 1))], [], (G0, M))) hc 5 rfl ?_
      cases e
      exact Rn_weak (xle_s (xle_s (xle_s (xle_s (xle_s xle_0))))) hK
def f_217_L53 (M : xM) (c1 : Int) (s : Int × Int) : Option (Int) := loop NF (fun s => f_217_L53b M c1 s.1 s.2) s
theorem t_217_L53 {rom : xRom} {d : Nat} {c1 : Int} {M : xM} {s : Int × Int} {r : Int} {out : Option xV × xH} (e : f_217_L53 M c1 s = some r) (hK : (eI M out) r) : Rn rom (d + 5) 217 (53, [some (vR 182), some (vI c1), none, some (vI s.1), some (vI s.2)], [], (G0, M)) out := by
  unfold f_217_L53 at e
  revert e hK
  exact R_loop (b := fun s => f_217_L53b M c1 s.1 s.2) (G := fun s => Rn rom (d + 5) 217 (53, [some (vR 182), some (vI c1), none, some (vI s.1), some (vI s.2)], [], (G0, M)) out) (K := eI M out) (fun s r e hK => t_217_L53b  e hK) NF s r
/-- PedalLayersModel.ifPeeled -/
def f_217 (M : xM) (a1 : Int) (a2 : Int) : Option (Int) :=
  (f_139 M 7).bind (fun k1 =>
  if wr (f_138 a1 1 k1) = 0 then
    some (-1)
  else
    if wr (f_138 a2 0 2) = 0 then
      some (-1)
    else
      if 2 ≤ wr a2 then
        f_217_L53 M a1 (0, 0)
      else
        if wr a2 = 0 then
          (f_146 M a1).bind (fun k10 =>
          some (k10)
          )
        else
          (f_209 M a1).bind (fun k11 =>
          some (k11)
          )
  )
theorem t_217 {rom : xRom} {d : Nat} {M : xM} {a1 : Int} {a2 : Int} {r : Int} {out : Option xV × xH} (e : f_217 M a1 a2 = some r) (hK : eI M out r) : Rn rom (d + 5) 217 (0, [some (vR 182), some (vI a1), some (vI a2), none, none], [], (G0, M)) out := by
  have hc : xkall.getD 217 [] = xk_217 := rfl
  unfold f_217 at e
  refine Rn_ms (σ' := (5, [some (vR 182), some (vI a1), some (vI a2), none, none], [vI 7, vR 182, vI 1, vI a1], (G0, M))) hc 4 rfl ?_
  refine R_bind e (fun k1 hk1 e => ?_)
  refine Rn_cv hc rfl rfl (by decide) (ii := xi_139) rfl rfl rfl (tgc_182 : Tg _ = 11) (by decide) rfl (le := [some (vR 182), some (vI 7)]) rfl (v := some (vI k1)) (M' := M) (t_139  (d := d + 4) hk1 rfl) ?_
  show Rn rom (d + 5) 217 (8, [some (vR 182), some (vI a1), some (vI a2), none, none], [vI k1, vI 1, vI a1], (G0, M)) out
  refine Rn_cs hc rfl rfl (by decide) (ii := xi_138) rfl rfl rfl (le := [some (vI a1), some (vI 1), some (vI k1)]) rfl (v := some (vI (f_138 a1 1 k1))) (M' := M) (t_138  (d := d + 4) rfl rfl) ?_
  show Rn rom (d + 5) 217 (11, [some (vR 182), some (vI a1), some (vI a2), none, none], [vI (f_138 a1 1 k1)], (G0, M)) out
  refine R_ite e (fun b2 e => ?_) (fun b2 e => ?_)
  · refine Rn_ifT (tgt := 23) hc rfl rfl (by decide) b2 ?_
    refine Rn_ms (σ' := (24, [some (vR 182), some (vI a1), some (vI a2), none, none], [vI (-1)], (G0, M))) hc 1 rfl ?_
    cases e
    exact R_end (Rn_iret hc rfl rfl (xretI rfl rfl)) hK
  · refine Rn_ifF hc rfl rfl (by decide) b2 ?_
    refine Rn_ms (σ' := (17, [some (vR 182), some (vI a1), some (vI a2), none, none], [vI 2, vI 0, vI a2], (G0, M))) hc 3 rfl ?_
    refine Rn_cs hc rfl rfl (by decide) (ii := xi_138) rfl rfl rfl (le := [some (vI a2), some (vI 0), some (vI 2)]) rfl (v := some (vI (f_138 a2 0 2))) (M' := M) (t_138  (d := d + 4) rfl rfl) ?_
    show Rn rom (d + 5) 217 (20, [some (vR 182), some (vI a1), some (vI a2), none, none], [vI (f_138 a2 0 2)], (G0, M)) out
    refine R_ite e (fun b3 e => ?_) (fun b3 e => ?_)
    · refine Rn_ifF hc rfl rfl (by decide) (fun w => w b3) ?_
      refine Rn_ms (σ' := (24, [some (vR 182), some (vI a1), some (vI a2), none, none], [vI (-1)], (G0, M))) hc 1 rfl ?_
      cases e
      exact R_end (Rn_iret hc rfl rfl (xretI rfl rfl)) hK
    · refine Rn_ifT (tgt := 25) hc rfl rfl (by decide) (fun w => b3 w) ?_
      refine Rn_ms (σ' := (27, [some (vR 182), some (vI a1), some (vI a2), none, none], [vI 2, vI a2], (G0, M))) hc 2 rfl ?_
      refine R_ite e (fun b4 e => ?_) (fun b4 e => ?_)
      · refine Rn_icT (tgt := 48) hc rfl rfl (by decide) b4 ?_
        refine Rn_ms (σ' := (53, [some (vR 182), some (vI a1), some (vI a2), some (vI 0), some (vI 0)], [], (G0, M))) hc 4 rfl ?_
        exact Rn_weak (xle_s (xle_s (xle_n (xle_s (xle_s xle_0))))) (t_217_L53  e hK)
      · refine Rn_icF hc rfl rfl (by decide) b4 ?_
        refine Rn_ms (σ' := (31, [some (vR 182), some (vI a1), some (vI a2), none, none], [vI a2], (G0, M))) hc 1 rfl ?_
        refine R_ite e (fun b9 e => ?_) (fun b9 e => ?_)
        · refine Rn_ifF hc rfl rfl (by decide) (fun w => w b9) ?_
          refine Rn_ms (σ' := (36, [some (vR 182), some (vI a1), some (vI a2), none, none], [vI a1, vR 182], (G0, M))) hc 2 rfl ?_
          refine R_bind e (fun k10 hk10 e => ?_)
          refine Rn_cv hc rfl rfl (by decide) (ii := xi_146) rfl rfl rfl (tgc_182 : Tg _ = 11) (by decide) rfl (le := [some (vR 182), some (vI a1), none, none]) rfl (v := some (vI k10)) (M' := M) (t_146  (d := d + 3) hk10 rfl) ?_
          refine Rn_ms (σ' := (47, [some (vR 182), some (vI a1), some (vI a2), none, none], [vI k10], (G0, M))) hc 1 rfl ?_
          cases e
          exact R_end (Rn_iret hc rfl rfl (xretI rfl rfl)) hK
        · refine Rn_ifT (tgt := 42) hc rfl rfl (by decide) (fun w => b9 w) ?_
          refine Rn_ms (σ' := (44, [some (vR 182), some (vI a1), some (vI a2), none, none], [vI a1, vR 182], (G0, M))) hc 2 rfl ?_
          refine R_bind e (fun k11 hk11 e => ?_)
          refine Rn_cv hc rfl rfl (by decide) (ii := xi_209) rfl rfl rfl (tgc_182 : Tg _ = 11) (by decide) rfl (le := [some (vR 182), some (vI a1), none, none]) rfl (v := some (vI k11)) (M' := M) (t_209  (d := d + 0) hk11 rfl) ?_
          show Rn rom (d + 5) 217 (47, [some (vR 182), some (vI a1), some (vI a2), none, none], [vI k11], (G0, M)) out
          cases e
          exact R_end (Rn_iret hc rfl rfl (xretI rfl rfl)) hK
def f_218_L22b (v1 : Int) (M : xM) : Option ((Int × xM) ⊕ (Int × xM)) :=
  if 1376 ≤ wr v1 then
    some (.inr (((M 182 2), M)))
  else
    gd (0 ≤ wr ((1376 * (M 182 2)) + v1) ∧ wr ((1376 * (M 182 2)) + v1) < 5504) (
    gd (0 ≤ wr v1 ∧ wr v1 < 1376) (
    bnd (xset M 183 (wr v1).toNat (M 184 (wr ((1376 * (M 182 2)) + v1)).toNat)) (fun M6 =>
    some (.inl ((v1 + 1), M6))
    )))
theorem t_218_L22b {rom : xRom} {d : Nat} {v1 : Int} {M : xM} {r : (Int × xM) ⊕ (Int × xM)} {out : Option xV × xH} (e : f_218_L22b v1 M = some r) (hK : ((Sum.elim (fun s => Rn rom (d + 0) 218 (22, [some (vR 182), some (vI s.1)], [], (G0, s.2)) out) (eIW out))) r) : Rn rom (d + 0) 218 (22, [some (vR 182), some (vI v1)], [], (G0, M)) out := by
  have hc : xkall.getD 218 [] = xk_218 := rfl
  unfold f_218_L22b at e
  refine Rn_ms (σ' := (26, [some (vR 182), some (vI v1)], [vI 1376, vI v1], (G0, M))) hc 2 rfl ?_
  refine R_ite e (fun b3 e => ?_) (fun b3 e => ?_)
  · refine Rn_icT (tgt := 56) hc rfl rfl (by decide) b3 ?_
    refine Rn_ms (σ' := (57, [some (vR 182), some (vI v1)], [vR 182], (G0, M))) hc 1 rfl ?_
    refine Rn_getI hc rfl tgc_182 (by decide) (by decide) ?_
    show Rn rom (d + 0) 218 (60, [some (vR 182), some (vI v1)], [vI (M 182 2)], (G0, M)) out
    cases e
    exact R_end (Rn_iret hc rfl rfl (xretI rfl rfl)) hK
  · refine Rn_icF hc rfl rfl (by decide) b3 ?_
    refine Rn_ms (σ' := (30, [some (vR 182), some (vI v1)], [vR 182], (G0, M))) hc 1 rfl ?_
    refine Rn_getR hc rfl tgc_182 (by decide) rfl prc_182_0 ?_
    refine Rn_ms (σ' := (35, [some (vR 182), some (vI v1)], [vR 182, vI v1, vR 183], (G0, M))) hc 2 rfl ?_
    refine Rn_getR hc rfl tgc_182 (by decide) rfl prc_182_1 ?_
    refine Rn_ms (σ' := (42, [some (vR 182), some (vI v1)], [vR 182, vI 1376, vR 184, vI v1, vR 183], (G0, M))) hc 2 rfl ?_
    refine Rn_getI hc rfl tgc_182 (by decide) (by decide) ?_
    refine Rn_ms (σ' := (48, [some (vR 182), some (vI v1)], [vI ((1376 * (M 182 2)) + v1), vR 184, vI v1, vR 183], (G0, M))) hc 3 rfl ?_
    refine R_gd e (fun g4 e => ?_)
    refine Rn_lald hc rfl rfl tgc_184 zsc_184 g4 rfl ?_
    show Rn rom (d + 0) 218 (49, [some (vR 182), some (vI v1)], [vL (M 184 (wr ((1376 * (M 182 2)) + v1)).toNat), vI v1, vR 183], (G0, M)) out
    refine R_gd e (fun g5 e => ?_)
    refine R_bnd e (fun M6 hM6 e => ?_)
    refine Rn_last' hM6 hc rfl rfl tgc_183 zsc_183 g5 rfl ?_
    refine Rn_ms (σ' := (22, [some (vR 182), some (vI (v1 + 1))], [], (G0, M6))) hc 2 rfl ?_
    cases e
    exact Rn_weak (xle_s (xle_s xle_0)) hK
def f_218_L22  (s : Int × xM) : Option (Int × xM) := loop NF (fun s => f_218_L22b s.1 s.2) s
theorem t_218_L22 {rom : xRom} {d : Nat}  {s : Int × xM} {r : Int × xM} {out : Option xV × xH} (e : f_218_L22  s = some r) (hK : (eIW out) r) : Rn rom (d + 0) 218 (22, [some (vR 182), some (vI s.1)], [], (G0, s.2)) out := by
  unfold f_218_L22 at e
  revert e hK
  exact R_loop (b := fun s => f_218_L22b s.1 s.2) (G := fun s => Rn rom (d + 0) 218 (22, [some (vR 182), some (vI s.1)], [], (G0, s.2)) out) (K := eIW out) (fun s r e hK => t_218_L22b  e hK) NF s r
/-- PedalLayersModel.undo -/
def f_218 (M : xM) : Option (Int × xM) :=
  if wr (M 182 2) = 0 then
    some ((-2), M)
  else
    bnd (xset M 182 2 ((M 182 2) - 1)) (fun M2 =>
    f_218_L22 (0, M2)
    )
theorem t_218 {rom : xRom} {d : Nat} {M : xM}  {r : Int × xM} {out : Option xV × xH} (e : f_218 M = some r) (hK : eIW out r) : Rn rom (d + 0) 218 (0, [some (vR 182), none], [], (G0, M)) out := by
  have hc : xkall.getD 218 [] = xk_218 := rfl
  unfold f_218 at e
  refine Rn_ms (σ' := (1, [some (vR 182), none], [vR 182], (G0, M))) hc 1 rfl ?_
  refine Rn_getI hc rfl tgc_182 (by decide) (by decide) ?_
  show Rn rom (d + 0) 218 (4, [some (vR 182), none], [vI (M 182 2)], (G0, M)) out
  refine R_ite e (fun b1 e => ?_) (fun b1 e => ?_)
  · refine Rn_ifF hc rfl rfl (by decide) (fun w => w b1) ?_
    refine Rn_ms (σ' := (9, [some (vR 182), none], [vI (-2)], (G0, M))) hc 1 rfl ?_
    cases e
    exact R_end (Rn_iret hc rfl rfl (xretI rfl rfl)) hK
  · refine Rn_ifT (tgt := 10) hc rfl rfl (by decide) (fun w => b1 w) ?_
    refine Rn_ms (σ' := (12, [some (vR 182), none], [vR 182, vR 182], (G0, M))) hc 2 rfl ?_
    refine Rn_getI hc rfl tgc_182 (by decide) (by decide) ?_
    refine Rn_ms (σ' := (17, [some (vR 182), none], [vI ((M 182 2) - 1), vR 182], (G0, M))) hc 2 rfl ?_
    refine R_bnd e (fun M2 hM2 e => ?_)
    refine Rn_putI' hM2 hc rfl tgc_182 (by decide) (Or.inl rfl) ?_
    refine Rn_ms (σ' := (22, [some (vR 182), some (vI 0)], [], (G0, M2))) hc 2 rfl ?_
    exact Rn_weak (xle_s (xle_s xle_0)) (t_218_L22  e hK)
def f_219_L2b (v1 : Int) (M : xM) : Option ((Int × xM) ⊕ (Int × xM)) :=
  if 1376 ≤ wr v1 then
    bnd (xset M 182 4 1) (fun M2 =>
    (f_139 M2 0).bind (fun k3 =>
    some (.inr ((k3, M2)))
    ))
  else
    gd (0 ≤ wr v1 ∧ wr v1 < 1376) (
    gd (0 ≤ wr v1 ∧ wr v1 < 1376) (
    bnd (xset M 185 (wr v1).toNat (M 183 (wr v1).toNat)) (fun M6 =>
    some (.inl ((v1 + 1), M6))
    )))
theorem t_219_L2b {rom : xRom} {d : Nat} {v1 : Int} {M : xM} {r : (Int × xM) ⊕ (Int × xM)} {out : Option xV × xH} (e : f_219_L2b v1 M = some r) (hK : ((Sum.elim (fun s => Rn rom (d + 1) 219 (2, [some (vR 182), some (vI s.1)], [], (G0, s.2)) out) (eIW out))) r) : Rn rom (d + 1) 219 (2, [some (vR 182), some (vI v1)], [], (G0, M)) out := by
  have hc : xkall.getD 219 [] = xk_219 := rfl
  unfold f_219_L2b at e
  refine Rn_ms (σ' := (6, [some (vR 182), some (vI v1)], [vI 1376, vI v1], (G0, M))) hc 2 rfl ?_
  refine R_ite e (fun b1 e => ?_) (fun b1 e => ?_)
  · refine Rn_icT (tgt := 27) hc rfl rfl (by decide) b1 ?_
    refine Rn_ms (σ' := (29, [some (vR 182), some (vI v1)], [vI 1, vR 182], (G0, M))) hc 2 rfl ?_
    refine R_bnd e (fun M2 hM2 e => ?_)
    refine Rn_putI' hM2 hc rfl tgc_182 (by decide) (Or.inr ⟨rfl, by decide⟩) ?_
    refine Rn_ms (σ' := (34, [some (vR 182), some (vI v1)], [vI 0, vR 182], (G0, M2))) hc 2 rfl ?_
    refine R_bind e (fun k3 hk3 e => ?_)
    refine Rn_cv hc rfl rfl (by decide) (ii := xi_139) rfl rfl rfl (tgc_182 : Tg _ = 11) (by decide) rfl (le := [some (vR 182), some (vI 0)]) rfl (v := some (vI k3)) (M' := M2) (t_139  (d := d + 0) hk3 rfl) ?_
    show Rn rom (d + 1) 219 (37, [some (vR 182), some (vI v1)], [vI k3], (G0, M2)) out
    cases e
    exact R_end (Rn_iret hc rfl rfl (xretI rfl rfl)) hK
  · refine Rn_icF hc rfl rfl (by decide) b1 ?_
    refine Rn_ms (σ' := (10, [some (vR 182), some (vI v1)], [vR 182], (G0, M))) hc 1 rfl ?_
    refine Rn_getR hc rfl tgc_182 (by decide) rfl prc_182_3 ?_
    refine Rn_ms (σ' := (15, [some (vR 182), some (vI v1)], [vR 182, vI v1, vR 185], (G0, M))) hc 2 rfl ?_
    refine Rn_getR hc rfl tgc_182 (by decide) rfl prc_182_0 ?_
    refine Rn_ms (σ' := (19, [some (vR 182), some (vI v1)], [vI v1, vR 183, vI v1, vR 185], (G0, M))) hc 1 rfl ?_
    refine R_gd e (fun g4 e => ?_)
    refine Rn_lald hc rfl rfl tgc_183 zsc_183 g4 rfl ?_
    show Rn rom (d + 1) 219 (20, [some (vR 182), some (vI v1)], [vL (M 183 (wr v1).toNat), vI v1, vR 185], (G0, M)) out
    refine R_gd e (fun g5 e => ?_)
    refine R_bnd e (fun M6 hM6 e => ?_)
    refine Rn_last' hM6 hc rfl rfl tgc_185 zsc_185 g5 rfl ?_
    refine Rn_ms (σ' := (2, [some (vR 182), some (vI (v1 + 1))], [], (G0, M6))) hc 2 rfl ?_
    cases e
    exact Rn_weak (xle_s (xle_s xle_0)) hK
def f_219_L2  (s : Int × xM) : Option (Int × xM) := loop NF (fun s => f_219_L2b s.1 s.2) s
theorem t_219_L2 {rom : xRom} {d : Nat}  {s : Int × xM} {r : Int × xM} {out : Option xV × xH} (e : f_219_L2  s = some r) (hK : (eIW out) r) : Rn rom (d + 1) 219 (2, [some (vR 182), some (vI s.1)], [], (G0, s.2)) out := by
  unfold f_219_L2 at e
  revert e hK
  exact R_loop (b := fun s => f_219_L2b s.1 s.2) (G := fun s => Rn rom (d + 1) 219 (2, [some (vR 182), some (vI s.1)], [], (G0, s.2)) out) (K := eIW out) (fun s r e hK => t_219_L2b  e hK) NF s r
/-- PedalLayersModel.save -/
def f_219 (M : xM) : Option (Int × xM) :=
  f_219_L2 (0, M)
theorem t_219 {rom : xRom} {d : Nat} {M : xM}  {r : Int × xM} {out : Option xV × xH} (e : f_219 M = some r) (hK : eIW out r) : Rn rom (d + 1) 219 (0, [some (vR 182), none], [], (G0, M)) out := by
  have hc : xkall.getD 219 [] = xk_219 := rfl
  unfold f_219 at e
  refine Rn_ms (σ' := (2, [some (vR 182), some (vI 0)], [], (G0, M))) hc 2 rfl ?_
  exact Rn_weak (xle_s (xle_s xle_0)) (t_219_L2  e hK)
def f_220_L16b (v1 : Int) (M : xM) : Option ((Int × xM) ⊕ (Int × xM)) :=
  if 1376 ≤ wr v1 then
    (f_139 M 0).bind (fun k4 =>
    some (.inr ((k4, M)))
    )
  else
    gd (0 ≤ wr v1 ∧ wr v1 < 1376) (
    gd (0 ≤ wr v1 ∧ wr v1 < 1376) (
    bnd (xset M 183 (wr v1).toNat (M 185 (wr v1).toNat)) (fun M7 =>
    some (.inl ((v1 + 1), M7))
    )))
theorem t_220_L16b {rom : xRom} {d : Nat} {v1 : Int} {M : xM} {r : (Int × xM) ⊕ (Int × xM)} {out : Option xV × xH} (e : f_220_L16b v1 M = some r) (hK : ((Sum.elim (fun s => Rn rom (d + 1) 220 (16, [some (vR 182), some (vI s.1)], [], (G0, s.2)) out) (eIW out))) r) : Rn rom (d + 1) 220 (16, [some (vR 182), some (vI v1)], [], (G0, M)) out := by
  have hc : xkall.getD 220 [] = xk_220 := rfl
  unfold f_220_L16b at e
  refine Rn_ms (σ' := (20, [some (vR 182), some (vI v1)], [vI 1376, vI v1], (G0, M))) hc 2 rfl ?_
  refine R_ite e (fun b3 e => ?_) (fun b3 e => ?_)
  · refine Rn_icT (tgt := 41) hc rfl rfl (by decide) b3 ?_
    refine Rn_ms (σ' := (43, [some (vR 182), some (vI v1)], [vI 0, vR 182], (G0, M))) hc 2 rfl ?_
    refine R_bind e (fun k4 hk4 e => ?_)
    refine Rn_cv hc rfl rfl (by decide) (ii := xi_139) rfl rfl rfl (tgc_182 : Tg _ = 11) (by decide) rfl (le := [some (vR 182), some (vI 0)]) rfl (v := some (vI k4)) (M' := M) (t_139  (d := d + 0) hk4 rfl) ?_
    show Rn rom (d + 1) 220 (46, [some (vR 182), some (vI v1)], [vI k4], (G0, M)) out
    cases e
    exact R_end (Rn_iret hc rfl rfl (xretI rfl rfl)) hK
  · refine Rn_icF hc rfl rfl (by decide) b3 ?_
    refine Rn_ms (σ' := (24, [some (vR 182), some (vI v1)], [vR 182], (G0, M))) hc 1 rfl ?_
    refine Rn_getR hc rfl tgc_182 (by decide) rfl prc_182_0 ?_
    refine Rn_ms (σ' := (29, [some (vR 182), some (vI v1)], [vR 182, vI v1, vR 183], (G0, M))) hc 2 rfl ?_
    refine Rn_getR hc rfl tgc_182 (by decide) rfl prc_182_3 ?_
    refine Rn_ms (σ' := (33, [some (vR 182), some (vI v1)], [vI v1, vR 185, vI v1, vR 183], (G0, M))) hc 1 rfl ?_
    refine R_gd e (fun g5 e => ?_)
    refine Rn_lald hc rfl rfl tgc_185 zsc_185 g5 rfl ?_
    show Rn rom (d + 1) 220 (34, [some (vR 182), some (vI v1)], [vL (M 185 (wr v1).toNat), vI v1, vR 183], (G0, M)) out
    refine R_gd e (fun g6 e => ?_)
    refine R_bnd e (fun M7 hM7 e => ?_)
    refine Rn_last' hM7 hc rfl rfl tgc_183 zsc_183 g6 rfl ?_
    refine Rn_ms (σ' := (16, [some (vR 182), some (vI (v1 + 1))], [], (G0, M7))) hc 2 rfl ?_
    cases e
    exact Rn_weak (xle_s (xle_s xle_0)) hK
def f_220_L16  (s : Int × xM) : Option (Int × xM) := loop NF (fun s => f_220_L16b s.1 s.2) s
theorem t_220_L16 {rom : xRom} {d : Nat}  {s : Int × xM} {r : Int × xM} {out : Option xV × xH} (e : f_220_L16  s = some r) (hK : (eIW out) r) : Rn rom (d + 1) 220 (16, [some (vR 182), some (vI s.1)], [], (G0, s.2)) out := by
  unfold f_220_L16 at e
  revert e hK
  exact R_loop (b := fun s => f_220_L16b s.1 s.2) (G := fun s => Rn rom (d + 1) 220 (16, [some (vR 182), some (vI s.1)], [], (G0, s.2)) out) (K := eIW out) (fun s r e hK => t_220_L16b  e hK) NF s r
/-- PedalLayersModel.restore -/
def f_220 (M : xM) : Option (Int × xM) :=
  if wr (M 182 4) = 0 then
    some ((-2), M)
  else
    (f_140 M).bind (fun k2 =>
    f_220_L16 (0, k2)
    )
theorem t_220 {rom : xRom} {d : Nat} {M : xM}  {r : Int × xM} {out : Option xV × xH} (e : f_220 M = some r) (hK : eIW out r) : Rn rom (d + 1) 220 (0, [some (vR 182), none], [], (G0, M)) out := by
  have hc : xkall.getD 220 [] = xk_220 := rfl
  unfold f_220 at e
  refine Rn_ms (σ' := (1, [some (vR 182), none], [vR 182], (G0, M))) hc 1 rfl ?_
  refine Rn_getI hc rfl tgc_182 (by decide) (by decide) ?_
  show Rn rom (d + 1) 220 (4, [some (vR 182), none], [vI (M 182 4)], (G0, M)) out
  refine R_ite e (fun b1 e => ?_) (fun b1 e => ?_)
  · refine Rn_ifF hc rfl rfl (by decide) (fun w => w b1) ?_
    refine Rn_ms (σ' := (9, [some (vR 182), none], [vI (-2)], (G0, M))) hc 1 rfl ?_
    cases e
    exact R_end (Rn_iret hc rfl rfl (xretI rfl rfl)) hK
  · refine Rn_ifT (tgt := 10) hc rfl rfl (by decide) (fun w => b1 w) ?_
    refine Rn_ms (σ' := (11, [some (vR 182), none], [vR 182], (G0, M))) hc 1 rfl ?_
    refine R_bind e (fun k2 hk2 e => ?_)
    refine Rn_cv hc rfl rfl (by decide) (ii := xi_140) rfl rfl rfl (tgc_182 : Tg _ = 11) (by decide) rfl (le := [some (vR 182), none]) rfl (v := none) (M' := k2) (t_140  (d := d + 0) hk2 rfl) ?_
    refine Rn_ms (σ' := (16, [some (vR 182), some (vI 0)], [], (G0, k2))) hc 2 rfl ?_
    exact Rn_weak (xle_s (xle_s xle_0)) (t_220_L16  e hK)
def f_221_L18b (rom : xRom) (v3 : Int) (M : xM) : Option ((Int × xM) ⊕ (Int × xM)) :=
  if wr (((rom 2).1 : Int) - 4) < wr v3 then
    some (.inr ((1, M)))
  else
    gd (0 ≤ wr v3 ∧ wr v3 < (rom 2).1) (
    if wr (xand ((rom 2).2 (wr v3).toNat) 63) = 0 then
      (f_97 M).bind (fun k4 =>
      (f_169 k4.2).bind (fun k5 =>
      if wr k4.1 = wr k5.1 then
        some (.inl ((v3 + 4), k5.2))
      else
        some (.inr ((0, k5.2)))
      ))
    else
    if wr (xand ((rom 2).2 (wr v3).toNat) 63) = 1 then
      (f_98 M).bind (fun k8 =>
      (f_170 k8.2).bind (fun k9 =>
      if wr k8.1 = wr k9.1 then
        some (.inl ((v3 + 4), k9.2))
      else
        some (.inr ((0, k9.2)))
      ))
    else
    if wr (xand ((rom 2).2 (wr v3).toNat) 63) = 2 then
      (f_99 M).bind (fun k12 =>
      (f_171 k12.2).bind (fun k13 =>
      if wr k12.1 = wr k13.1 then
        some (.inl ((v3 + 4), k13.2))
      else
        some (.inr ((0, k13.2)))
      ))
    else
    if wr (xand ((rom 2).2 (wr v3).toNat) 63) = 3 then
      gd (0 ≤ wr (v3 + 1) ∧ wr (v3 + 1) < (rom 2).1) (
      gd (0 ≤ wr (v3 + 2) ∧ wr (v3 + 2) < (rom 2).1) (
      (f_100 M ((rom 2).2 (wr (v3 + 1)).toNat) ((rom 2).2 (wr (v3 + 2)).toNat)).bind (fun k18 =>
      gd (0 ≤ wr (v3 + 1) ∧ wr (v3 + 1) < (rom 2).1) (
      gd (0 ≤ wr (v3 + 2) ∧ wr (v3 + 2) < (rom 2).1) (
      (f_172 k18.2 ((rom 2).2 (wr (v3 + 1)).toNat) ((rom 2).2 (wr (v3 + 2)).toNat)).bind (fun k21 =>
      if wr k18.1 = wr k21.1 then
        some (.inl ((v3 + 4), k21.2))
      else
        some (.inr ((0, k21.2)))
      ))))))
    else
    if wr (xand ((rom 2).2 (wr v3).toNat) 63) = 4 then
      gd (0 ≤ wr (v3 + 1) ∧ wr (v3 + 1) < (rom 2).1) (
      (f_101 M ((rom 2).2 (wr (v3 + 1)).toNat)).bind (fun k25 =>
      gd (0 ≤ wr (v3 + 1) ∧ wr (v3 + 1) < (rom 2).1) (
      (f_173 k25.2 ((rom 2).2 (wr (v3 + 1)).toNat)).bind (fun k27 =>
      if wr k25.1 = wr k27.1 then
        some (.inl ((v3 + 4), k27.2))
      else
        some (.inr ((0, k27.2)))
      ))))
    else
    if wr (xand ((rom 2).2 (wr v3).toNat) 63) = 5 then
      (f_102 M).bind (fun k30 =>
      (f_174 k30.2).bind (fun k31 =>
      if wr k30.1 = wr k31.1 then
        some (.inl ((v3 + 4), k31.2))
      else
        some (.inr ((0, k31.2)))
      ))
    else
    if wr (xand ((rom 2).2 (wr v3).toNat) 63) = 6 then
      (f_103 M).bind (fun k34 =>
      (f_175 k34.2).bind (fun k35 =>
      if wr k34.1 = wr k35.1 then
        some (.inl ((v3 + 4), k35.2))
      else
        some (.inr ((0, k35.2)))
      ))
    else
    if wr (xand ((rom 2).2 (wr v3).toNat) 63) = 7 then
      gd (0 ≤ wr (v3 + 1) ∧ wr (v3 + 1) < (rom 2).1) (
      (f_104 M ((rom 2).2 (wr (v3 + 1)).toNat)).bind (fun k39 =>
      gd (0 ≤ wr (v3 + 1) ∧ wr (v3 + 1) < (rom 2).1) (
      (f_176 k39.2 ((rom 2).2 (wr (v3 + 1)).toNat)).bind (fun k41 =>
      if wr k39.1 = wr k41.1 then
        some (.inl ((v3 + 4), k41.2))
      else
        some (.inr ((0, k41.2)))
      ))))
    else
    if wr (xand ((rom 2).2 (wr v3).toNat) 63) = 8 then
      (f_105 M).bind (fun k44 =>
      (f_177 k44.2).bind (fun k45 =>
      if wr k44.1 = wr k45.1 then
        some (.inl ((v3 + 4), k45.2))
      else
        some (.inr ((0, k45.2)))
      ))
    else
    if wr (xand ((rom 2).2 (wr v3).toNat) 63) = 9 then
      gd (0 ≤ wr (v3 + 1) ∧ wr (v3 + 1) < (rom 2).1) (
      gd (0 ≤ wr (v3 + 2) ∧ wr (v3 + 2) < (rom 2).1) (
      (f_106 rom M ((rom 2).2 (wr (v3 + 1)).toNat) ((rom 2).2 (wr (v3 + 2)).toNat)).bind (fun k50 =>
      gd (0 ≤ wr (v3 + 1) ∧ wr (v3 + 1) < (rom 2).1) (
      gd (0 ≤ wr (v3 + 2) ∧ wr (v3 + 2) < (rom 2).1) (
      (f_178 k50.2 ((rom 2).2 (wr (v3 + 1)).toNat) ((rom 2).2 (wr (v3 + 2)).toNat)).bind (fun k53 =>
      if wr k50.1 = wr k53.1 then
        some (.inl ((v3 + 4), k53.2))
      else
        some (.inr ((0, k53.2)))
      ))))))
    else
    if wr (xand ((rom 2).2 (wr v3).toNat) 63) = 10 then
      gd (0 ≤ wr (v3 + 1) ∧ wr (v3 + 1) < (rom 2).1) (
      (f_107 M ((rom 2).2 (wr (v3 + 1)).toNat)).bind (fun k57 =>
      gd (0 ≤ wr (v3 + 1) ∧ wr (v3 + 1) < (rom 2).1) (
      (f_179 k57.2 ((rom 2).2 (wr (v3 + 1)).toNat)).bind (fun k59 =>
      if wr k57.1 = wr k59.1 then
        some (.inl ((v3 + 4), k59.2))
      else
        some (.inr ((0, k59.2)))
      ))))
    else
    if wr (xand ((rom 2).2 (wr v3).toNat) 63) = 11 then
      bnd (f_108 M) (fun k62 =>
      bnd (f_180 k62.2) (fun k63 =>
      if wr k62.1 = wr k63.1 then
        some (.inl ((v3 + 4), k63.2))
      else
        some (.inr ((0, k63.2)))
      ))
    else
    if wr (xand ((rom 2).2 (wr v3).toNat) 63) = 12 then
      gd (0 ≤ wr (v3 + 1) ∧ wr (v3 + 1) < (rom 2).1) (
      (f_109 M ((rom 2).2 (wr (v3 + 1)).toNat)).bind (fun k67 =>
      gd (0 ≤ wr (v3 + 1) ∧ wr (v3 + 1) < (rom 2).1) (
      (f_188 M ((rom 2).2 (wr (v3 + 1)).toNat)).bind (fun k69 =>
      if wr k67 = wr k69 then
        some (.inl ((v3 + 4), M))
      else
        some (.inr ((0, M)))
      ))))
    else
    if wr (xand ((rom 2).2 (wr v3).toNat) 63) = 13 then
      (f_110 M).bind (fun k72 =>
      (f_191 k72.2).bind (fun k73 =>
      if wr k72.1 = wr k73.1 then
        some (.inl ((v3 + 4), k73.2))
      else
        some (.inr ((0, k73.2)))
      ))
    else
    if wr (xand ((rom 2).2 (wr v3).toNat) 63) = 14 then
      gd (0 ≤ wr (v3 + 1) ∧ wr (v3 + 1) < (rom 2).1) (
      gd (0 ≤ wr (v3 + 1) ∧ wr (v3 + 1) < (rom 2).1) (
      (f_192 M ((rom 2).2 (wr (v3 + 1)).toNat)).bind (fun k78 =>
      if wr (f_111 M ((rom 2).2 (wr (v3 + 1)).toNat)) = wr k78 then
        some (.inl ((v3 + 4), M))
      else
        some (.inr ((0, M)))
      )))
    else
    if wr (xand ((rom 2).2 (wr v3).toNat) 63) = 15 then
      gd (0 ≤ wr (v3 + 1) ∧ wr (v3 + 1) < (rom 2).1) (
      gd (0 ≤ wr (v3 + 2) ∧ wr (v3 + 2) < (rom 2).1) (
      (f_112 M ((rom 2).2 (wr (v3 + 1)).toNat) ((rom 2).2 (wr (v3 + 2)).toNat)).bind (fun k83 =>
      gd (0 ≤ wr (v3 + 1) ∧ wr (v3 + 1) < (rom 2).1) (
      gd (0 ≤ wr (v3 + 2) ∧ wr (v3 + 2) < (rom 2).1) (
      (f_194 M ((rom 2).2 (wr (v3 + 1)).toNat) ((rom 2).2 (wr (v3 + 2)).toNat)).bind (fun k86 =>
      if wr k83 = wr k86 then
        some (.inl ((v3 + 4), M))
      else
        some (.inr ((0, M)))
      ))))))
    else
    if wr (xand ((rom 2).2 (wr v3).toNat) 63) = 16 then
      gd (0 ≤ wr (v3 + 1) ∧ wr (v3 + 1) < (rom 2).1) (
      gd (0 ≤ wr (v3 + 2) ∧ wr (v3 + 2) < (rom 2).1) (
      gd (0 ≤ wr (v3 + 3) ∧ wr (v3 + 3) < (rom 2).1) (
      (f_113 M ((rom 2).2 (wr (v3 + 1)).toNat) ((rom 2).2 (wr (v3 + 2)).toNat) ((rom 2).2 (wr (v3 + 3)).toNat)).bind (fun k92 =>
      gd (0 ≤ wr (v3 + 1) ∧ wr (v3 + 1) < (rom 2).1) (
      gd (0 ≤ wr (v3 + 2) ∧ wr (v3 + 2) < (rom 2).1) (
      gd (0 ≤ wr (v3 + 3) ∧ wr (v3 + 3) < (rom 2).1) (
      (f_195 M ((rom 2).2 (wr (v3 + 1)).toNat) ((rom 2).2 (wr (v3 + 2)).toNat) ((rom 2).2 (wr (v3 + 3)).toNat)).bind (fun k96 =>
      if wr k92 = wr k96 then
        some (.inl ((v3 + 4), M))
      else
        some (.inr ((0, M)))
      ))))))))
    else
    if wr (xand ((rom 2).2 (wr v3).toNat) 63) = 17 then
      gd (0 ≤ wr (v3 + 1) ∧ wr (v3 + 1) < (rom 2).1) (
      gd (0 ≤ wr (v3 + 2) ∧ wr (v3 + 2) < (rom 2).1) (
      (f_114 M ((rom 2).2 (wr (v3 + 1)).toNat) ((rom 2).2 (wr (v3 + 2)).toNat)).bind (fun k101 =>
      gd (0 ≤ wr (v3 + 1) ∧ wr (v3 + 1) < (rom 2).1) (
      gd (0 ≤ wr (v3 + 2) ∧ wr (v3 + 2) < (rom 2).1) (
      (f_200 k101.2 ((rom 2).2 (wr (v3 + 1)).toNat) ((rom 2).2 (wr (v3 + 2)).toNat)).bind (fun k104 =>
      if wr k101.1 = wr k104 then
        some (.inl ((v3 + 4), k101.2))
      else
        some (.inr ((0, k101.2)))
      ))))))
    else
    if wr (xand ((rom 2).2 (wr v3).toNat) 63) = 18 then
      gd (0 ≤ wr (v3 + 1) ∧ wr (v3 + 1) < (rom 2).1) (
      gd (0 ≤ wr (v3 + 2) ∧ wr (v3 + 2) < (rom 2).1) (
      (f_115 M ((rom 2).2 (wr (v3 + 1)).toNat) ((rom 2).2 (wr (v3 + 2)).toNat)).bind (fun k109 =>
      gd (0 ≤ wr (v3 + 1) ∧ wr (v3 + 1) < (rom 2).1) (
      gd (0 ≤ wr (v3 + 2) ∧ wr (v3 + 2) < (rom 2).1) (
      (f_202 k109.2 ((rom 2).2 (wr (v3 + 1)).toNat) ((rom 2).2 (wr (v3 + 2)).toNat)).bind (fun k112 =>
      if wr k109.1 = wr k112 then
        some (.inl ((v3 + 4), k109.2))
      else
        some (.inr ((0, k109.2)))
      ))))))
    else
    if wr (xand ((rom 2).2 (wr v3).toNat) 63) = 19 then
      (f_116 M).bind (fun k115 =>
      (f_203 k115.2).bind (fun k116 =>
      if wr k115.1 = wr k116 then
        some (.inl ((v3 + 4), k115.2))
      else
        some (.inr ((0, k115.2)))
      ))
    else
    if wr (xand ((rom 2).2 (wr v3).toNat) 63) = 20 then
      (f_117 M).bind (fun k119 =>
      (f_205 k119.2).bind (fun k120 =>
      if wr k119.1 = wr k120 then
        some (.inl ((v3 + 4), k119.2))
      else
        some (.inr ((0, k119.2)))
      ))
    else
    if wr (xand ((rom 2).2 (wr v3).toNat) 63) = 21 then
      (f_118 M).bind (fun k123 =>
      (f_207 k123.2).bind (fun k124 =>
      if wr k123.1 = wr k124 then
        some (.inl ((v3 + 4), k123.2))
      else
        some (.inr ((0, k123.2)))
      ))
    else
    if wr (xand ((rom 2).2 (wr v3).toNat) 63) = 22 then
      gd (0 ≤ wr (v3 + 1) ∧ wr (v3 + 1) < (rom 2).1) (
      (f_119 M ((rom 2).2 (wr (v3 + 1)).toNat)).bind (fun k128 =>
      gd (0 ≤ wr (v3 + 1) ∧ wr (v3 + 1) < (rom 2).1) (
      (f_208 M ((rom 2).2 (wr (v3 + 1)).toNat)).bind (fun k130 =>
      if wr k128 = wr k130 then
        some (.inl ((v3 + 4), M))
      else
        some (.inr ((0, M)))
      ))))
    else
    if wr (xand ((rom 2).2 (wr v3).toNat) 63) = 23 then
      (f_120 M).bind (fun k133 =>
      (f_210 k133.2).bind (fun k134 =>
      if wr (xdc k133.1 k134) = 0 then
        some (.inl ((v3 + 4), k133.2))
      else
        if wr (xdc k133.1 k133.1) = 0 then
          some (.inr ((0, k133.2)))
        else
          if wr (xdc k134 k134) = 0 then
            some (.inr ((0, k133.2)))
          else
            some (.inl ((v3 + 4), k133.2))
      ))
    else
    if wr (xand ((rom 2).2 (wr v3).toNat) 63) = 24 then
      (f_211 M).bind (fun k139 =>
      if wr (f_121 M) = wr k139 then
        some (.inl ((v3 + 4), M))
      else
        some (.inr ((0, M)))
      )
    else
    if wr (xand ((rom 2).2 (wr v3).toNat) 63) = 25 then
      gd (0 ≤ wr (v3 + 1) ∧ wr (v3 + 1) < (rom 2).1) (
      (f_122 M ((rom 2).2 (wr (v3 + 1)).toNat)).bind (fun k143 =>
      gd (0 ≤ wr (v3 + 1) ∧ wr (v3 + 1) < (rom 2).1) (
      (f_212 M ((rom 2).2 (wr (v3 + 1)).toNat)).bind (fun k145 =>
      if wr k143 = wr k145 then
        some (.inl ((v3 + 4), M))
      else
        some (.inr ((0, M)))
      ))))
    else
    if wr (xand ((rom 2).2 (wr v3).toNat) 63) = 26 then
      (f_123 M).bind (fun k148 =>
      (f_213 M).bind (fun k149 =>
      if wr k148 = wr k149 then
        some (.inl ((v3 + 4), M))
      else
        some (.inr ((0, M)))
      ))
    else
    if wr (xand ((rom 2).2 (wr v3).toNat) 63) = 27 then
      gd (0 ≤ wr (v3 + 1) ∧ wr (v3 + 1) < (rom 2).1) (
      (f_124 M ((rom 2).2 (wr (v3 + 1)).toNat)).bind (fun k153 =>
      gd (0 ≤ wr (v3 + 1) ∧ wr (v3 + 1) < (rom 2).1) (
      (f_214 M ((rom 2).2 (wr (v3 + 1)).toNat)).bind (fun k155 =>
      if wr k153 = wr k155 then
        some (.inl ((v3 + 4), M))
      else
        some (.inr ((0, M)))
      ))))
    else
    if wr (xand ((rom 2).2 (wr v3).toNat) 63) = 28 then
      (f_125 M).bind (fun k158 =>
      (f_216 M).bind (fun k159 =>
      if wr k158 = wr k159 then
        some (.inl ((v3 + 4), M))
      else
        some (.inr ((0, M)))
      ))
    else
    if wr (xand ((rom 2).2 (wr v3).toNat) 63) = 29 then
      gd (0 ≤ wr (v3 + 1) ∧ wr (v3 + 1) < (rom 2).1) (
      gd (0 ≤ wr (v3 + 2) ∧ wr (v3 + 2) < (rom 2).1) (
      (f_126 M ((rom 2).2 (wr (v3 + 1)).toNat) ((rom 2).2 (wr (v3 + 2)).toNat)).bind (fun k164 =>
      gd (0 ≤ wr (v3 + 1) ∧ wr (v3 + 1) < (rom 2).1) (
      gd (0 ≤ wr (v3 + 2) ∧ wr (v3 + 2) < (rom 2).1) (
      (f_217 k164.2 ((rom 2).2 (wr (v3 + 1)).toNat) ((rom 2).2 (wr (v3 + 2)).toNat)).bind (fun k167 =>
      if wr k164.1 = wr k167 then
        some (.inl ((v3 + 4), k164.2))
      else
        some (.inr ((0, k164.2)))
      ))))))
    else
    if wr (xand ((rom 2).2 (wr v3).toNat) 63) = 30 then
      (f_127 M).bind (fun k170 =>
      (f_218 k170.2).bind (fun k171 =>
      if wr k170.1 = wr k171.1 then
        some (.inl ((v3 + 4), k171.2))
      else
        some (.inr ((0, k171.2)))
      ))
    else
    if wr (xand ((rom 2).2 (wr v3).toNat) 63) = 31 then
      (f_128 M).bind (fun k174 =>
      (f_219 k174.2).bind (fun k175 =>
      if wr k174.1 = wr k175.1 then
        some (.inl ((v3 + 4), k175.2))
      else
        some (.inr ((0, k175.2)))
      ))
    else
    if wr (xand ((rom 2).2 (wr v3).toNat) 63) = 32 then
      (f_129 M).bind (fun k178 =>
      (f_220 k178.2).bind (fun k179 =>
      if wr k178.1 = wr k179.1 then
        some (.inl ((v3 + 4), k179.2))
      else
        some (.inr ((0, k179.2)))
      ))
    else
    some (.inl ((v3 + 4), M))
    )
set_option maxRecDepth 100000 in
theorem t_221_L18b {rom : xRom} {d : Nat} {v3 : Int} {M : xM} {r : (Int × xM) ⊕ (Int × xM)} {out : Option xV × xH} (e : f_221_L18b rom v3 M = some r) (hK : ((Sum.elim (fun s => Rn rom (d + 9) 221 (18, [some (vS 2), some (vR 1), some (vR 182), some (vI s.1), none, none, none, none], [], (G0, s.2)) out) (eIW out))) r) : Rn rom (d + 9) 221 (18, [some (vS 2), some (vR 1), some (vR 182), some (vI v3), none, none, none, none], [], (G0, M)) out := by
  have hc : xkall.getD 221 [] = xk_221 := rfl
  unfold f_221_L18b at e
  refine Rn_ms (σ' := (20, [some (vS 2), some (vR 1), some (vR 182), some (vI v3), none, none, none, none], [vS 2, vI v3], (G0, M))) hc 2 rfl ?_
  refine Rn_romlen hc rfl rfl (by decide) ?_
  refine Rn_ms (σ' := (23, [some (vS 2), some (vR 1), some (vR 182), some (vI v3), none, none, none, none], [vI (((rom 2).1 : Int) - 4), vI v3], (G0, M))) hc 2 rfl ?_
  refine R_ite e (fun b1 e => ?_) (fun b1 e => ?_)
  · refine Rn_icT (tgt := 873) hc rfl rfl (by decide) b1 ?_
    refine Rn_ms (σ' := (874, [some (vS 2), some (vR 1), some (vR 182), some (vI v3), none, none, none, none], [vI 1], (G0, M))) hc 1 rfl ?_
    cases e
    exact R_end (Rn_iret hc rfl rfl (xretB rfl rfl (by decide))) hK
  · refine Rn_icF hc rfl rfl (by decide) b1 ?_
    refine Rn_ms (σ' := (28, [some (vS 2), some (vR 1), some (vR 182), some (vI v3), none, none, none, none], [vI v3, vS 2], (G0, M))) hc 2 rfl ?_
    refine R_gd e (fun g2 e => ?_)
    refine Rn_romld hc rfl rfl (by decide) g2 rfl ?_
    refine Rn_ms (σ' := (32, [some (vS 2), some (vR 1), some (vR 182), some (vI v3), none, none, none, none], [vI (xand ((rom 2).2 (wr v3).toNat) 63)], (G0, M))) hc 2 rfl ?_
    refine R_ite e (fun b3 e => ?_) (fun b3 e => ?_)
    · refine Rn_tsw (off := 148) (tgt := 180) hc rfl rfl (xsw_at b3 (by decide) (by decide) (by decide) rfl) rfl ?_
      refine Rn_ms (σ' := (181, [some (vS 2), some (vR 1), some (vR 182), some (vI v3), none, none, none, none], [vR 1], (G0, M))) hc 1 rfl ?_
      refine R_bind e (fun k4 hk4 e => ?_)
      refine Rn_cv hc rfl rfl (by decide) (ii := xi_97) rfl rfl rfl (tgc_1 : Tg _ = 10) (by decide) rfl (le := [some (vR 1)]) rfl (v := some (vI k4.1)) (M' := k4.2) (t_97  (d := d + 2) hk4 rfl) ?_
      refine Rn_ms (σ' := (185, [some (vS 2), some (vR 1), some (vR 182), some (vI v3), none, none, none, none], [vR 182, vI k4.1], (G0, k4.2))) hc 1 rfl ?_
      refine R_bind e (fun k5 hk5 e => ?_)
      refine Rn_cv hc rfl rfl (by decide) (ii := xi_169) rfl rfl rfl (tgc_182 : Tg _ = 11) (by decide) rfl (le := [some (vR 182), none]) rfl (v := some (vI k5.1)) (M' := k5.2) (t_169  (d := d + 3) hk5 rfl) ?_
      show Rn rom (d + 9) 221 (188, [some (vS 2), some (vR 1), some (vR 182), some (vI v3), none, none, none, none], [vI k5.1, vI k4.1], (G0, k5.2)) out
      refine R_ite e (fun b6 e => ?_) (fun b6 e => ?_)
      · refine Rn_icT (tgt := 867) hc rfl rfl (by decide) b6 ?_
        refine Rn_ms (σ' := (18, [some (vS 2), some (vR 1), some (vR 182), some (vI (v3 + 4)), none, none, none, none], [], (G0, k5.2))) hc 2 rfl ?_
        cases e
        exact Rn_weak (xle_s (xle_s (xle_s (xle_s (xle_s (xle_s (xle_s (xle_s xle_0)))))))) hK
      · refine Rn_icF hc rfl rfl (by decide) b6 ?_
        refine Rn_ms (σ' := (192, [some (vS 2), some (vR 1), some (vR 182), some (vI v3), none, none, none, none], [vI 0], (G0, k5.2))) hc 1 rfl ?_
        cases e
        exact R_end (Rn_iret hc rfl rfl (xretB rfl rfl (by decide))) hK
    refine R_ite e (fun b7 e => ?_) (fun b7 e => ?_)
    · refine Rn_tsw (off := 161) (tgt := 193) hc rfl rfl (xsw_at b7 (by decide) (by decide) (by decide) rfl) rfl ?_
      refine Rn_ms (σ' := (194, [some (vS 2), some (vR 1), some (vR 182), some (vI v3), none, none, none, none], [vR 1], (G0, M))) hc 1 rfl ?_
      refine R_bind e (fun k8 hk8 e => ?_)
      refine Rn_cv hc rfl rfl (by decide) (ii := xi_98) rfl rfl rfl (tgc_1 : Tg _ = 10) (by decide) rfl (le := [some (vR 1)]) rfl (v := some (vI k8.1)) (M' := k8.2) (t_98  (d := d + 2) hk8 rfl) ?_
      refine Rn_ms (σ' := (198, [some (vS 2), some (vR 1), some (vR 182), some (vI v3), none, none, none, none], [vR 182, vI k8.1], (G0, k8.2))) hc 1 rfl ?_
      refine R_bind e (fun k9 hk9 e => ?_)
      refine Rn_cv hc rfl rfl (by decide) (ii := xi_170) rfl rfl rfl (tgc_182 : Tg _ = 11) (by decide) rfl (le := [some (vR 182)]) rfl (v := some (vI k9.1)) (M' := k9.2) (t_170  (d := d + 5) hk9 rfl) ?_
      show Rn rom (d + 9) 221 (201, [some (vS 2), some (vR 1), some (vR 182), some (vI v3), none, none, none, none], [vI k9.1, vI k8.1], (G0, k9.2)) out
      refine R_ite e (fun b10 e => ?_) (fun b10 e => ?_)
      · refine Rn_icT (tgt := 867) hc rfl rfl (by decide) b10 ?_
        refine Rn_ms (σ' := (18, [some (vS 2), some (vR 1), some (vR 182), some (vI (v3 + 4)), none, none, none, none], [], (G0, k9.2))) hc 2 rfl ?_
        cases e
        exact Rn_weak (xle_s (xle_s (xle_s (xle_s (xle_s (xle_s (xle_s (xle_s xle_0)))))))) hK
      · refine Rn_icF hc rfl rfl (by decide) b10 ?_
        refine Rn_ms (σ' := (205, [some (vS 2), some (vR 1), some (vR 182), some (vI v3), none, none, none, none], [vI 0], (G0, k9.2))) hc 1 rfl ?_
        cases e
        exact R_end (Rn_iret hc rfl rfl (xretB rfl rfl (by decide))) hK
    refine R_ite e (fun b11 e => ?_) (fun b11 e => ?_)
    · refine Rn_tsw (off := 174) (tgt := 206) hc rfl rfl (xsw_at b11 (by decide) (by decide) (by decide) rfl) rfl ?_
      refine Rn_ms (σ' := (207, [some (vS 2), some (vR 1), some (vR 182), some (vI v3), none, none, none, none], [vR 1], (G0, M))) hc 1 rfl ?_
      refine R_bind e (fun k12 hk12 e => ?_)
      refine Rn_cv hc rfl rfl (by decide) (ii := xi_99) rfl rfl rfl (tgc_1 : Tg _ = 10) (by decide) rfl (le := [some (vR 1)]) rfl (v := some (vI k12.1)) (M' := k12.2) (t_99  (d := d + 2) hk12 rfl) ?_
      refine Rn_ms (σ' := (211, [some (vS 2), some (vR 1), some (vR 182), some (vI v3), none, none, none, none], [vR 182, vI k12.1], (G0, k12.2))) hc 1 rfl ?_
      refine R_bind e (fun k13 hk13 e => ?_)
      refine Rn_cv hc rfl rfl (by decide) (ii := xi_171) rfl rfl rfl (tgc_182 : Tg _ = 11) (by decide) rfl (le := [some (vR 182), none]) rfl (v := some (vI k13.1)) (M' := k13.2) (t_171  (d := d + 6) hk13 rfl) ?_
      show Rn rom (d + 9) 221 (214, [some (vS 2), some (vR 1), some (vR 182), some (vI v3), none, none, none, none], [vI k13.1, vI k12.1], (G0, k13.2)) out
      refine R_ite e (fun b14 e => ?_) (fun b14 e => ?_)
      · refine Rn_icT (tgt := 867) hc rfl rfl (by decide) b14 ?_
        refine Rn_ms (σ' := (18, [some (vS 2), some (vR 1), some (vR 182), some (vI (v3 + 4)), none, none, none, none], [], (G0, k13.2))) hc 2 rfl ?_
        cases e
        exact Rn_weak (xle_s (xle_s (xle_s (xle_s (xle_s (xle_s (xle_s (xle_s xle_0)))))))) hK
      · refine Rn_icF hc rfl rfl (by decide) b14 ?_
        refine Rn_ms (σ' := (218, [some (vS 2), some (vR 1), some (vR 182), some (vI v3), none, none, none, none], [vI 0], (G0, k13.2))) hc 1 rfl ?_
        cases e
        exact R_end (Rn_iret hc rfl rfl (xretB rfl rfl (by decide))) hK
    refine R_ite e (fun b15 e => ?_) (fun b15 e => ?_)
    · refine Rn_tsw (off := 187) (tgt := 219) hc rfl rfl (xsw_at b15 (by decide) (by decide) (by decide) rfl) rfl ?_
      refine Rn_ms (σ' := (224, [some (vS 2), some (vR 1), some (vR 182), some (vI v3), none, none, none, none], [vI (v3 + 1), vS 2, vR 1], (G0, M))) hc 5 rfl ?_
      refine R_gd e (fun g16 e => ?_)
      refine Rn_romld hc rfl rfl (by decide) g16 rfl ?_
      refine Rn_ms (σ' := (229, [some (vS 2), some (vR 1), some (vR 182), some (vI v3), none, none, none, none], [vI (v3 + 2), vS 2, vI ((rom 2).2 (wr (v3 + 1)).toNat), vR 1], (G0, M))) hc 4 rfl ?_
      refine R_gd e (fun g17 e => ?_)
      refine Rn_romld hc rfl rfl (by decide) g17 rfl ?_
      show Rn rom (d + 9) 221 (230, [some (vS 2), some (vR 1), some (vR 182), some (vI v3), none, none, none, none], [vI ((rom 2).2 (wr (v3 + 2)).toNat), vI ((rom 2).2 (wr (v3 + 1)).toNat), vR 1], (G0, M)) out
      refine R_bind e (fun k18 hk18 e => ?_)
      refine Rn_cv hc rfl rfl (by decide) (ii := xi_100) rfl rfl rfl (tgc_1 : Tg _ = 10) (by decide) rfl (le := [some (vR 1), some (vI ((rom 2).2 (wr (v3 + 1)).toNat)), some (vI ((rom 2).2 (wr (v3 + 2)).toNat))]) rfl (v := some (vI k18.1)) (M' := k18.2) (t_100  (d := d + 2) hk18 rfl) ?_
      refine Rn_ms (σ' := (238, [some (vS 2), some (vR 1), some (vR 182), some (vI v3), none, none, none, none], [vI (v3 + 1), vS 2, vR 182, vI k18.1], (G0, k18.2))) hc 5 rfl ?_
      refine R_gd e (fun g19 e => ?_)
      refine Rn_romld hc rfl rfl (by decide) g19 rfl ?_
      refine Rn_ms (σ' := (243, [some (vS 2), some (vR 1), some (vR 182), some (vI v3), none, none, none, none], [vI (v3 + 2), vS 2, vI ((rom 2).2 (wr (v3 + 1)).toNat), vR 182, vI k18.1], (G0, k18.2))) hc 4 rfl ?_
      refine R_gd e (fun g20 e => ?_)
      refine Rn_romld hc rfl rfl (by decide) g20 rfl ?_
      show Rn rom (d + 9) 221 (244, [some (vS 2), some (vR 1), some (vR 182), some (vI v3), none, none, none, none], [vI ((rom 2).2 (wr (v3 + 2)).toNat), vI ((rom 2).2 (wr (v3 + 1)).toNat), vR 182, vI k18.1], (G0, k18.2)) out
      refine R_bind e (fun k21 hk21 e => ?_)
      refine Rn_cv hc rfl rfl (by decide) (ii := xi_172) rfl rfl rfl (tgc_182 : Tg _ = 11) (by decide) rfl (le := [some (vR 182), some (vI ((rom 2).2 (wr (v3 + 1)).toNat)), some (vI ((rom 2).2 (wr (v3 + 2)).toNat)), none]) rfl (v := some (vI k21.1)) (M' := k21.2) (t_172  (d := d + 5) hk21 rfl) ?_
      show Rn rom (d + 9) 221 (247, [some (vS 2), some (vR 1), some (vR 182), some (vI v3), none, none, none, none], [vI k21.1, vI k18.1], (G0, k21.2)) out
      refine R_ite e (fun b22 e => ?_) (fun b22 e => ?_)
      · refine Rn_icT (tgt := 867) hc rfl rfl (by decide) b22 ?_
        refine Rn_ms (σ' := (18, [some (vS 2), some (vR 1), some (vR 182), some (vI (v3 + 4)), none, none, none, none], [], (G0, k21.2))) hc 2 rfl ?_
        cases e
        exact Rn_weak (xle_s (xle_s (xle_s (xle_s (xle_s (xle_s (xle_s (xle_s xle_0)))))))) hK
      · refine Rn_icF hc rfl rfl (by decide) b22 ?_
        refine Rn_ms (σ' := (251, [some (vS 2), some (vR 1), some (vR 182), some (vI v3), none, none, none, none], [vI 0], (G0, k21.2))) hc 1 rfl ?_
        cases e
        exact R_end (Rn_iret hc rfl rfl (xretB rfl rfl (by decide))) hK
    refine R_ite e (fun b23 e => ?_) (fun b23 e => ?_)
    · refine Rn_tsw (off := 220) (tgt := 252) hc rfl rfl (xsw_at b23 (by decide) (by decide) (by decide) rfl) rfl ?_
      refine Rn_ms (σ' := (257, [some (vS 2), some (vR 1), some (vR 182), some (vI v3), none, none, none, none], [vI (v3 + 1), vS 2, vR 1], (G0, M))) hc 5 rfl ?_
      refine R_gd e (fun g24 e => ?_)
      refine Rn_romld hc rfl rfl (by decide) g24 rfl ?_
      show Rn rom (d + 9) 221 (258, [some (vS 2), some (vR 1), some (vR 182), some (vI v3), none, none, none, none], [vI ((rom 2).2 (wr (v3 + 1)).toNat), vR 1], (G0, M)) out
      refine R_bind e (fun k25 hk25 e => ?_)
      refine Rn_cv hc rfl rfl (by decide) (ii := xi_101) rfl rfl rfl (tgc_1 : Tg _ = 10) (by decide) rfl (le := [some (vR 1), some (vI ((rom 2).2 (wr (v3 + 1)).toNat))]) rfl (v := some (vI k25.1)) (M' := k25.2) (t_101  (d := d + 2) hk25 rfl) ?_
      refine Rn_ms (σ' := (266, [some (vS 2), some (vR 1), some (vR 182), some (vI v3), none, none, none, none], [vI (v3 + 1), vS 2, vR 182, vI k25.1], (G0, k25.2))) hc 5 rfl ?_
      refine R_gd e (fun g26 e => ?_)
      refine Rn_romld hc rfl rfl (by decide) g26 rfl ?_
      show Rn rom (d + 9) 221 (267, [some (vS 2), some (vR 1), some (vR 182), some (vI v3), none, none, none, none], [vI ((rom 2).2 (wr (v3 + 1)).toNat), vR 182, vI k25.1], (G0, k25.2)) out
      refine R_bind e (fun k27 hk27 e => ?_)
      refine Rn_cv hc rfl rfl (by decide) (ii := xi_173) rfl rfl rfl (tgc_182 : Tg _ = 11) (by decide) rfl (le := [some (vR 182), some (vI ((rom 2).2 (wr (v3 + 1)).toNat))]) rfl (v := some (vI k27.1)) (M' := k27.2) (t_173  (d := d + 2) hk27 rfl) ?_
      show Rn rom (d + 9) 221 (270, [some (vS 2), some (vR 1), some (vR 182), some (vI v3), none, none, none, none], [vI k27.1, vI k25.1], (G0, k27.2)) out
      refine R_ite e (fun b28 e => ?_) (fun b28 e => ?_)
      · refine Rn_icT (tgt := 867) hc rfl rfl (by decide) b28 ?_
        refine Rn_ms (σ' := (18, [some (vS 2), some (vR 1), some (vR 182), some (vI (v3 + 4)), none, none, none, none], [], (G0, k27.2))) hc 2 rfl ?_
        cases e
        exact Rn_weak (xle_s (xle_s (xle_s (xle_s (xle_s (xle_s (xle_s (xle_s xle_0)))))))) hK
      · refine Rn_icF hc rfl rfl (by decide) b28 ?_
        refine Rn_ms (σ' := (274, [some (vS 2), some (vR 1), some (vR 182), some (vI v3), none, none, none, none], [vI 0], (G0, k27.2))) hc 1 rfl ?_
        cases e
        exact R_end (Rn_iret hc rfl rfl (xretB rfl rfl (by decide))) hK
    refine R_ite e (fun b29 e => ?_) (fun b29 e => ?_)
    · refine Rn_tsw (off := 243) (tgt := 275) hc rfl rfl (xsw_at b29 (by decide) (by decide) (by decide) rfl) rfl ?_
      refine Rn_ms (σ' := (276, [some (vS 2), some (vR 1), some (vR 182), some (vI v3), none, none, none, none], [vR 1], (G0, M))) hc 1 rfl ?_
      refine R_bind e (fun k30 hk30 e => ?_)
      refine Rn_cv hc rfl rfl (by decide) (ii := xi_102) rfl rfl rfl (tgc_1 : Tg _ = 10) (by decide) rfl (le := [some (vR 1)]) rfl (v := some (vI k30.1)) (M' := k30.2) (t_102  (d := d + 2) hk30 rfl) ?_
      refine Rn_ms (σ' := (280, [some (vS 2), some (vR 1), some (vR 182), some (vI v3), none, none, none, none], [vR 182, vI k30.1], (G0, k30.2))) hc 1 rfl ?_
      refine R_bind e (fun k31 hk31 e => ?_)
      refine Rn_cv hc rfl rfl (by decide) (ii := xi_174) rfl rfl rfl (tgc_182 : Tg _ = 11) (by decide) rfl (le := [some (vR 182)]) rfl (v := some (vI k31.1)) (M' := k31.2) (t_174  (d := d + 4) hk31 rfl) ?_
      show Rn rom (d + 9) 221 (283, [some (vS 2), some (vR 1), some (vR 182), some (vI v3), none, none, none, none], [vI k31.1, vI k30.1], (G0, k31.2)) out
      refine R_ite e (fun b32 e => ?_) (fun b32 e => ?_)
      · refine Rn_icT (tgt := 867) hc rfl rfl (by decide) b32 ?_
        refine Rn_ms (σ' := (18, [some (vS 2), some (vR 1), some (vR 182), some (vI (v3 + 4)), none, none, none, none], [], (G0, k31.2))) hc 2 rfl ?_
        cases e
        exact Rn_weak (xle_s (xle_s (xle_s (xle_s (xle_s (xle_s (xle_s (xle_s xle_0)))))))) hK
      · refine Rn_icF hc rfl rfl (by decide) b32 ?_
        refine Rn_ms (σ' := (287, [some (vS 2), some (vR 1), some (vR 182), some (vI v3), none, none, none, none], [vI 0], (G0, k31.2))) hc 1 rfl ?_
        cases e
        exact R_end (Rn_iret hc rfl rfl (xretB rfl rfl (by decide))) hK
    refine R_ite e (fun b33 e => ?_) (fun b33 e => ?_)
    · refine Rn_tsw (off := 256) (tgt := 288) hc rfl rfl (xsw_at b33 (by decide) (by decide) (by decide) rfl) rfl ?_
      refine Rn_ms (σ' := (289, [some (vS 2), some (vR 1), some (vR 182), some (vI v3), none, none, none, none], [vR 1], (G0, M))) hc 1 rfl ?_
      refine R_bind e (fun k34 hk34 e => ?_)
      refine Rn_cv hc rfl rfl (by decide) (ii := xi_103) rfl rfl rfl (tgc_1 : Tg _ = 10) (by decide) rfl (le := [some (vR 1)]) rfl (v := some (vI k34.1)) (M' := k34.2) (t_103  (d := d + 2) hk34 rfl) ?_
      refine Rn_ms (σ' := (293, [some (vS 2), some (vR 1), some (vR 182), some (vI v3), none, none, none, none], [vR 182, vI k34.1], (G0, k34.2))) hc 1 rfl ?_
      refine R_bind e (fun k35 hk35 e => ?_)
      refine Rn_cv hc rfl rfl (by decide) (ii := xi_175) rfl rfl rfl (tgc_182 : Tg _ = 11) (by decide) rfl (le := [some (vR 182)]) rfl (v := some (vI k35.1)) (M' := k35.2) (t_175  (d := d + 5) hk35 rfl) ?_
      show Rn rom (d + 9) 221 (296, [some (vS 2), some (vR 1), some (vR 182), some (vI v3), none, none, none, none], [vI k35.1, vI k34.1], (G0, k35.2)) out
      refine R_ite e (fun b36 e => ?_) (fun b36 e => ?_)
      · refine Rn_icT (tgt := 867) hc rfl rfl (by decide) b36 ?_
        refine Rn_ms (σ' := (18, [some (vS 2), some (vR 1), some (vR 182), some (vI (v3 + 4)), none, none, none, none], [], (G0, k35.2))) hc 2 rfl ?_
        cases e
        exact Rn_weak (xle_s (xle_s (xle_s (xle_s (xle_s (xle_s (xle_s (xle_s xle_0)))))))) hK
      · refine Rn_icF hc rfl rfl (by decide) b36 ?_
        refine Rn_ms (σ' := (300, [some (vS 2), some (vR 1), some (vR 182), some (vI v3), none, none, none, none], [vI 0], (G0, k35.2))) hc 1 rfl ?_
        cases e
        exact R_end (Rn_iret hc rfl rfl (xretB rfl rfl (by decide))) hK
    refine R_ite e (fun b37 e => ?_) (fun b37 e => ?_)
    · refine Rn_tsw (off := 269) (tgt := 301) hc rfl rfl (xsw_at b37 (by decide) (by decide) (by decide) rfl) rfl ?_
      refine Rn_ms (σ' := (306, [some (vS 2), some (vR 1), some (vR 182), some (vI v3), none, none, none, none], [vI (v3 + 1), vS 2, vR 1], (G0, M))) hc 5 rfl ?_
      refine R_gd e (fun g38 e => ?_)
      refine Rn_romld hc rfl rfl (by decide) g38 rfl ?_
      show Rn rom (d + 9) 221 (307, [some (vS 2), some (vR 1), some (vR 182), some (vI v3), none, none, none, none], [vI ((rom 2).2 (wr (v3 + 1)).toNat), vR 1], (G0, M)) out
      refine R_bind e (fun k39 hk39 e => ?_)
      refine Rn_cv hc rfl rfl (by decide) (ii := xi_104) rfl rfl rfl (tgc_1 : Tg _ = 10) (by decide) rfl (le := [some (vR 1), some (vI ((rom 2).2 (wr (v3 + 1)).toNat))]) rfl (v := some (vI k39.1)) (M' := k39.2) (t_104  (d := d + 2) hk39 rfl) ?_
      refine Rn_ms (σ' := (315, [some (vS 2), some (vR 1), some (vR 182), some (vI v3), none, none, none, none], [vI (v3 + 1), vS 2, vR 182, vI k39.1], (G0, k39.2))) hc 5 rfl ?_
      refine R_gd e (fun g40 e => ?_)
      refine Rn_romld hc rfl rfl (by decide) g40 rfl ?_
      show Rn rom (d + 9) 221 (316, [some (vS 2), some (vR 1), some (vR 182), some (vI v3), none, none, none, none], [vI ((rom 2).2 (wr (v3 + 1)).toNat), vR 182, vI k39.1], (G0, k39.2)) out
      refine R_bind e (fun k41 hk41 e => ?_)
      refine Rn_cv hc rfl rfl (by decide) (ii := xi_176) rfl rfl rfl (tgc_182 : Tg _ = 11) (by decide) rfl (le := [some (vR 182), some (vI ((rom 2).2 (wr (v3 + 1)).toNat))]) rfl (v := some (vI k41.1)) (M' := k41.2) (t_176  (d := d + 6) hk41 rfl) ?_
      show Rn rom (d + 9) 221 (319, [some (vS 2), some (vR 1), some (vR 182), some (vI v3), none, none, none, none], [vI k41.1, vI k39.1], (G0, k41.2)) out
      refine R_ite e (fun b42 e => ?_) (fun b42 e => ?_)
      · refine Rn_icT (tgt := 867) hc rfl rfl (by decide) b42 ?_
        refine Rn_ms (σ' := (18, [some (vS 2), some (vR 1), some (vR 182), some (vI (v3 + 4)), none, none, none, none], [], (G0, k41.2))) hc 2 rfl ?_
        cases e
        exact Rn_weak (xle_s (xle_s (xle_s (xle_s (xle_s (xle_s (xle_s (xle_s xle_0)))))))) hK
      · refine Rn_icF hc rfl rfl (by decide) b42 ?_
        refine Rn_ms (σ' := (323, [some (vS 2), some (vR 1), some (vR 182), some (vI v3), none, none, none, none], [vI 0], (G0, k41.2))) hc 1 rfl ?_
        cases e
        exact R_end (Rn_iret hc rfl rfl (xretB rfl rfl (by decide))) hK
    refine R_ite e (fun b43 e => ?_) (fun b43 e => ?_)
    · refine Rn_tsw (off := 292) (tgt := 324) hc rfl rfl (xsw_at b43 (by decide) (by decide) (by decide) rfl) rfl ?_
      refine Rn_ms (σ' := (325, [some (vS 2), some (vR 1), some (vR 182), some (vI v3), none, none, none, none], [vR 1], (G0, M))) hc 1 rfl ?_
      refine R_bind e (fun k44 hk44 e => ?_)
      refine Rn_cv hc rfl rfl (by decide) (ii := xi_105) rfl rfl rfl (tgc_1 : Tg _ = 10) (by decide) rfl (le := [some (vR 1)]) rfl (v := some (vI k44.1)) (M' := k44.2) (t_105  (d := d + 2) hk44 rfl) ?_
      refine Rn_ms (σ' := (329, [some (vS 2), some (vR 1), some (vR 182), some (vI v3), none, none, none, none], [vR 182, vI k44.1], (G0, k44.2))) hc 1 rfl ?_
      refine R_bind e (fun k45 hk45 e => ?_)
      refine Rn_cv hc rfl rfl (by decide) (ii := xi_177) rfl rfl rfl (tgc_182 : Tg _ = 11) (by decide) rfl (le := [some (vR 182)]) rfl (v := some (vI k45.1)) (M' := k45.2) (t_177  (d := d + 7) hk45 rfl) ?_
      show Rn rom (d + 9) 221 (332, [some (vS 2), some (vR 1), some (vR 182), some (vI v3), none, none, none, none], [vI k45.1, vI k44.1], (G0, k45.2)) out
      refine R_ite e (fun b46 e => ?_) (fun b46 e => ?_)
      · refine Rn_icT (tgt := 867) hc rfl rfl (by decide) b46 ?_
        refine Rn_ms (σ' := (18, [some (vS 2), some (vR 1), some (vR 182), some (vI (v3 + 4)), none, none, none, none], [], (G0, k45.2))) hc 2 rfl ?_
        cases e
        exact Rn_weak (xle_s (xle_s (xle_s (xle_s (xle_s (xle_s (xle_s (xle_s xle_0)))))))) hK
      · refine Rn_icF hc rfl rfl (by decide) b46 ?_
        refine Rn_ms (σ' := (336, [some (vS 2), some (vR 1), some (vR 182), some (vI v3), none, none, none, none], [vI 0], (G0, k45.2))) hc 1 rfl ?_
        cases e
        exact R_end (Rn_iret hc rfl rfl (xretB rfl rfl (by decide))) hK
    refine R_ite e (fun b47 e => ?_) (fun b47 e => ?_)
    · refine Rn_tsw (off := 305) (tgt := 337) hc rfl rfl (xsw_at b47 (by decide) (by decide) (by decide) rfl) rfl ?_
      refine Rn_ms (σ' := (342, [some (vS 2), some (vR 1), some (vR 182), some (vI v3), none, none, none, none], [vI (v3 + 1), vS 2, vR 1], (G0, M))) hc 5 rfl ?_
      refine R_gd e (fun g48 e => ?_)
      refine Rn_romld hc rfl rfl (by decide) g48 rfl ?_
      refine Rn_ms (σ' := (347, [some (vS 2), some (vR 1), some (vR 182), some (vI v3), none, none, none, none], [vI (v3 + 2), vS 2, vI ((rom 2).2 (wr (v3 + 1)).toNat), vR 1], (G0, M))) hc 4 rfl ?_
      refine R_gd e (fun g49 e => ?_)
      refine Rn_romld hc rfl rfl (by decide) g49 rfl ?_
      show Rn rom (d + 9) 221 (348, [some (vS 2), some (vR 1), some (vR 182), some (vI v3), none, none, none, none], [vI ((rom 2).2 (wr (v3 + 2)).toNat), vI ((rom 2).2 (wr (v3 + 1)).toNat), vR 1], (G0, M)) out
      refine R_bind e (fun k50 hk50 e => ?_)
      refine Rn_cv hc rfl rfl (by decide) (ii := xi_106) rfl rfl rfl (tgc_1 : Tg _ = 10) (by decide) rfl (le := [some (vR 1), some (vI ((rom 2).2 (wr (v3 + 1)).toNat)), some (vI ((rom 2).2 (wr (v3 + 2)).toNat))]) rfl (v := some (vI k50.1)) (M' := k50.2) (t_106  (d := d + 2) hk50 rfl) ?_
      refine Rn_ms (σ' := (356, [some (vS 2), some (vR 1), some (vR 182), some (vI v3), none, none, none, none], [vI (v3 + 1), vS 2, vR 182, vI k50.1], (G0, k50.2))) hc 5 rfl ?_
      refine R_gd e (fun g51 e => ?_)
      refine Rn_romld hc rfl rfl (by decide) g51 rfl ?_
      refine Rn_ms (σ' := (361, [some (vS 2), some (vR 1), some (vR 182), some (vI v3), none, none, none, none], [vI (v3 + 2), vS 2, vI ((rom 2).2 (wr (v3 + 1)).toNat), vR 182, vI k50.1], (G0, k50.2))) hc 4 rfl ?_
      refine R_gd e (fun g52 e => ?_)
      refine Rn_romld hc rfl rfl (by decide) g52 rfl ?_
      show Rn rom (d + 9) 221 (362, [some (vS 2), some (vR 1), some (vR 182), some (vI v3), none, none, none, none], [vI ((rom 2).2 (wr (v3 + 2)).toNat), vI ((rom 2).2 (wr (v3 + 1)).toNat), vR 182, vI k50.1], (G0, k50.2)) out
      refine R_bind e (fun k53 hk53 e => ?_)
      refine Rn_cv hc rfl rfl (by decide) (ii := xi_178) rfl rfl rfl (tgc_182 : Tg _ = 11) (by decide) rfl (le := [some (vR 182), some (vI ((rom 2).2 (wr (v3 + 1)).toNat)), some (vI ((rom 2).2 (wr (v3 + 2)).toNat)), none, none]) rfl (v := some (vI k53.1)) (M' := k53.2) (t_178  (d := d + 7) hk53 rfl) ?_
      show Rn rom (d + 9) 221 (365, [some (vS 2), some (vR 1), some (vR 182), some (vI v3), none, none, none, none], [vI k53.1, vI k50.1], (G0, k53.2)) out
      refine R_ite e (fun b54 e => ?_) (fun b54 e => ?_)
      · refine Rn_icT (tgt := 867) hc rfl rfl (by decide) b54 ?_
        refine Rn_ms (σ' := (18, [some (vS 2), some (vR 1), some (vR 182), some (vI (v3 + 4)), none, none, none, none], [], (G0, k53.2))) hc 2 rfl ?_
        cases e
        exact Rn_weak (xle_s (xle_s (xle_s (xle_s (xle_s (xle_s (xle_s (xle_s xle_0)))))))) hK
      · refine Rn_icF hc rfl rfl (by decide) b54 ?_
        refine Rn_ms (σ' := (369, [some (vS 2), some (vR 1), some (vR 182), some (vI v3), none, none, none, none], [vI 0], (G0, k53.2))) hc 1 rfl ?_
        cases e
        exact R_end (Rn_iret hc rfl rfl (xretB rfl rfl (by decide))) hK
    refine R_ite e (fun b55 e => ?_) (fun b55 e => ?_)
    · refine Rn_tsw (off := 338) (tgt := 370) hc rfl rfl (xsw_at b55 (by decide) (by decide) (by decide) rfl) rfl ?_
      refine Rn_ms (σ' := (375, [some (vS 2), some (vR 1), some (vR 182), some (vI v3), none, none, none, none], [vI (v3 + 1), vS 2, vR 1], (G0, M))) hc 5 rfl ?_
      refine R_gd e (fun g56 e => ?_)
      refine Rn_romld hc rfl rfl (by decide) g56 rfl ?_
      show Rn rom (d + 9) 221 (376, [some (vS 2), some (vR 1), some (vR 182), some (vI v3), none, none, none, none], [vI ((rom 2).2 (wr (v3 + 1)).toNat), vR 1], (G0, M)) out
      refine R_bind e (fun k57 hk57 e => ?_)
      refine Rn_cv hc rfl rfl (by decide) (ii := xi_107) rfl rfl rfl (tgc_1 : Tg _ = 10) (by decide) rfl (le := [some (vR 1), some (vI ((rom 2).2 (wr (v3 + 1)).toNat))]) rfl (v := some (vI k57.1)) (M' := k57.2) (t_107  (d := d + 7) hk57 rfl) ?_
      refine Rn_ms (σ' := (384, [some (vS 2), some (vR 1), some (vR 182), some (vI v3), none, none, none, none], [vI (v3 + 1), vS 2, vR 182, vI k57.1], (G0, k57.2))) hc 5 rfl ?_
      refine R_gd e (fun g58 e => ?_)
      refine Rn_romld hc rfl rfl (by decide) g58 rfl ?_
      show Rn rom (d + 9) 221 (385, [some (vS 2), some (vR 1), some (vR 182), some (vI v3), none, none, none, none], [vI ((rom 2).2 (wr (v3 + 1)).toNat), vR 182, vI k57.1], (G0, k57.2)) out
      refine R_bind e (fun k59 hk59 e => ?_)
      refine Rn_cv hc rfl rfl (by decide) (ii := xi_179) rfl rfl rfl (tgc_182 : Tg _ = 11) (by decide) rfl (le := [some (vR 182), some (vI ((rom 2).2 (wr (v3 + 1)).toNat))]) rfl (v := some (vI k59.1)) (M' := k59.2) (t_179  (d := d + 7) hk59 rfl) ?_
      show Rn rom (d + 9) 221 (388, [some (vS 2), some (vR 1), some (vR 182), some (vI v3), none, none, none, none], [vI k59.1, vI k57.1], (G0, k59.2)) out
      refine R_ite e (fun b60 e => ?_) (fun b60 e => ?_)
      · refine Rn_icT (tgt := 867) hc rfl rfl (by decide) b60 ?_
        refine Rn_ms (σ' := (18, [some (vS 2), some (vR 1), some (vR 182), some (vI (v3 + 4)), none, none, none, none], [], (G0, k59.2))) hc 2 rfl ?_
        cases e
        exact Rn_weak (xle_s (xle_s (xle_s (xle_s (xle_s (xle_s (xle_s (xle_s xle_0)))))))) hK
      · refine Rn_icF hc rfl rfl (by decide) b60 ?_
        refine Rn_ms (σ' := (392, [some (vS 2), some (vR 1), some (vR 182), some (vI v3), none, none, none, none], [vI 0], (G0, k59.2))) hc 1 rfl ?_
        cases e
        exact R_end (Rn_iret hc rfl rfl (xretB rfl rfl (by decide))) hK
    refine R_ite e (fun b61 e => ?_) (fun b61 e => ?_)
    · refine Rn_tsw (off := 361) (tgt := 393) hc rfl rfl (xsw_at b61 (by decide) (by decide) (by decide) rfl) rfl ?_
      refine Rn_ms (σ' := (394, [some (vS 2), some (vR 1), some (vR 182), some (vI v3), none, none, none, none], [vR 1], (G0, M))) hc 1 rfl ?_
      refine R_bnd e (fun k62 hk62 e => ?_)
      refine Rn_cv hc rfl rfl (by decide) (ii := xi_108) rfl rfl rfl (tgc_1 : Tg _ = 10) (by decide) rfl (le := [some (vR 1)]) rfl (v := some (vI k62.1)) (M' := k62.2) (t_108  (d := d + 7) hk62.symm rfl) ?_
      refine Rn_ms (σ' := (398, [some (vS 2), some (vR 1), some (vR 182), some (vI v3), none, none, none, none], [vR 182, vI k62.1], (G0, k62.2))) hc 1 rfl ?_
      refine R_bnd e (fun k63 hk63 e => ?_)
      refine Rn_cv hc rfl rfl (by decide) (ii := xi_180) rfl rfl rfl (tgc_182 : Tg _ = 11) (by decide) rfl (le := [some (vR 182), none]) rfl (v := some (vI k63.1)) (M' := k63.2) (t_180  (d := d + 8) hk63.symm rfl) ?_
      show Rn rom (d + 9) 221 (401, [some (vS 2), some (vR 1), some (vR 182), some (vI v3), none, none, none, none], [vI k63.1, vI k62.1], (G0, k63.2)) out
      refine R_ite e (fun b64 e => ?_) (fun b64 e => ?_)
      · refine Rn_icT (tgt := 867) hc rfl rfl (by decide) b64 ?_
        refine Rn_ms (σ' := (18, [some (vS 2), some (vR 1), some (vR 182), some (vI (v3 + 4)), none, none, none, none], [], (G0, k63.2))) hc 2 rfl ?_
        cases e
        exact Rn_weak (xle_s (xle_s (xle_s (xle_s (xle_s (xle_s (xle_s (xle_s xle_0)))))))) hK
      · refine Rn_icF hc rfl rfl (by decide) b64 ?_
        refine Rn_ms (σ' := (405, [some (vS 2), some (vR 1), some (vR 182), some (vI v3), none, none, none, none], [vI 0], (G0, k63.2))) hc 1 rfl ?_
        cases e
        exact R_end (Rn_iret hc rfl rfl (xretB rfl rfl (by decide))) hK
    refine R_ite e (fun b65 e => ?_) (fun b65 e => ?_)
    · refine Rn_tsw (off := 374) (tgt := 406) hc rfl rfl (xsw_at b65 (by decide) (by decide) (by decide) rfl) rfl ?_
      refine Rn_ms (σ' := (411, [some (vS 2), some (vR 1), some (vR 182), some (vI v3), none, none, none, none], [vI (v3 + 1), vS 2, vR 1], (G0, M))) hc 5 rfl ?_
      refine R_gd e (fun g66 e => ?_)
      refine Rn_romld hc rfl rfl (by decide) g66 rfl ?_
      show Rn rom (d + 9) 221 (412, [some (vS 2), some (vR 1), some (vR 182), some (vI v3), none, none, none, none], [vI ((rom 2).2 (wr (v3 + 1)).toNat), vR 1], (G0, M)) out
      refine R_bind e (fun k67 hk67 e => ?_)
      refine Rn_cv hc rfl rfl (by decide) (ii := xi_109) rfl rfl rfl (tgc_1 : Tg _ = 10) (by decide) rfl (le := [some (vR 1), some (vI ((rom 2).2 (wr (v3 + 1)).toNat))]) rfl (v := some (vI k67)) (M' := M) (t_109  (d := d + 5) hk67 rfl) ?_
      refine Rn_ms (σ' := (420, [some (vS 2), some (vR 1), some (vR 182), some (vI v3), none, none, none, none], [vI (v3 + 1), vS 2, vR 182, vI k67], (G0, M))) hc 5 rfl ?_
      refine R_gd e (fun g68 e => ?_)
      refine Rn_romld hc rfl rfl (by decide) g68 rfl ?_
      show Rn rom (d + 9) 221 (421, [some (vS 2), some (vR 1), some (vR 182), some (vI v3), none, none, none, none], [vI ((rom 2).2 (wr (v3 + 1)).toNat), vR 182, vI k67], (G0, M)) out
      refine R_bind e (fun k69 hk69 e => ?_)
      refine Rn_cv hc rfl rfl (by decide) (ii := xi_188) rfl rfl rfl (tgc_182 : Tg _ = 11) (by decide) rfl (le := [some (vR 182), some (vI ((rom 2).2 (wr (v3 + 1)).toNat))]) rfl (v := some (vI k69)) (M' := M) (t_188  (d := d + 3) hk69 rfl) ?_
      show Rn rom (d + 9) 221 (424, [some (vS 2), some (vR 1), some (vR 182), some (vI v3), none, none, none, none], [vI k69, vI k67], (G0, M)) out
      refine R_ite e (fun b70 e => ?_) (fun b70 e => ?_)
      · refine Rn_icT (tgt := 867) hc rfl rfl (by decide) b70 ?_
        refine Rn_ms (σ' := (18, [some (vS 2), some (vR 1), some (vR 182), some (vI (v3 + 4)), none, none, none, none], [], (G0, M))) hc 2 rfl ?_
        cases e
        exact Rn_weak (xle_s (xle_s (xle_s (xle_s (xle_s (xle_s (xle_s (xle_s xle_0)))))))) hK
      · refine Rn_icF hc rfl rfl (by decide) b70 ?_
        refine Rn_ms (σ' := (428, [some (vS 2), some (vR 1), some (vR 182), some (vI v3), none, none, none, none], [vI 0], (G0, M))) hc 1 rfl ?_
        cases e
        exact R_end (Rn_iret hc rfl rfl (xretB rfl rfl (by decide))) hK
    refine R_ite e (fun b71 e => ?_) (fun b71 e => ?_)
    · refine Rn_tsw (off := 397) (tgt := 429) hc rfl rfl (xsw_at b71 (by decide) (by decide) (by decide) rfl) rfl ?_
      refine Rn_ms (σ' := (430, [some (vS 2), some (vR 1), some (vR 182), some (vI v3), none, none, none, none], [vR 1], (G0, M))) hc 1 rfl ?_
      refine R_bind e (fun k72 hk72 e => ?_)
      refine Rn_cv hc rfl rfl (by decide) (ii := xi_110) rfl rfl rfl (tgc_1 : Tg _ = 10) (by decide) rfl (le := [some (vR 1), none, none, none]) rfl (v := some (vI k72.1)) (M' := k72.2) (t_110  (d := d + 2) hk72 rfl) ?_
      refine Rn_ms (σ' := (434, [some (vS 2), some (vR 1), some (vR 182), some (vI v3), none, none, none, none], [vR 182, vI k72.1], (G0, k72.2))) hc 1 rfl ?_
      refine R_bind e (fun k73 hk73 e => ?_)
      refine Rn_cv hc rfl rfl (by decide) (ii := xi_191) rfl rfl rfl (tgc_182 : Tg _ = 11) (by decide) rfl (le := [some (vR 182), none, none, none]) rfl (v := some (vI k73.1)) (M' := k73.2) (t_191  (d := d + 0) hk73 rfl) ?_
      show Rn rom (d + 9) 221 (437, [some (vS 2), some (vR 1), some (vR 182), some (vI v3), none, none, none, none], [vI k73.1, vI k72.1], (G0, k73.2)) out
      refine R_ite e (fun b74 e => ?_) (fun b74 e => ?_)
      · refine Rn_icT (tgt := 867) hc rfl rfl (by decide) b74 ?_
        refine Rn_ms (σ' := (18, [some (vS 2), some (vR 1), some (vR 182), some (vI (v3 + 4)), none, none, none, none], [], (G0, k73.2))) hc 2 rfl ?_
        cases e
        exact Rn_weak (xle_s (xle_s (xle_s (xle_s (xle_s (xle_s (xle_s (xle_s xle_0)))))))) hK
      · refine Rn_icF hc rfl rfl (by decide) b74 ?_
        refine Rn_ms (σ' := (441, [some (vS 2), some (vR 1), some (vR 182), some (vI v3), none, none, none, none], [vI 0], (G0, k73.2))) hc 1 rfl ?_
        cases e
        exact R_end (Rn_iret hc rfl rfl (xretB rfl rfl (by decide))) hK
    refine R_ite e (fun b75 e => ?_) (fun b75 e => ?_)
    · refine Rn_tsw (off := 410) (tgt := 442) hc rfl rfl (xsw_at b75 (by decide) (by decide) (by decide) rfl) rfl ?_
      refine Rn_ms (σ' := (447, [some (vS 2), some (vR 1), some (vR 182), some (vI v3), none, none, none, none], [vI (v3 + 1), vS 2, vR 1], (G0, M))) hc 5 rfl ?_
      refine R_gd e (fun g76 e => ?_)
      refine Rn_romld hc rfl rfl (by decide) g76 rfl ?_
      show Rn rom (d + 9) 221 (448, [some (vS 2), some (vR 1), some (vR 182), some (vI v3), none, none, none, none], [vI ((rom 2).2 (wr (v3 + 1)).toNat), vR 1], (G0, M)) out
      refine Rn_cv hc rfl rfl (by decide) (ii := xi_111) rfl rfl rfl (tgc_1 : Tg _ = 10) (by decide) rfl (le := [some (vR 1), some (vI ((rom 2).2 (wr (v3 + 1)).toNat))]) rfl (v := some (vI (f_111 M ((rom 2).2 (wr (v3 + 1)).toNat)))) (M' := M) (t_111  (d := d + 7) rfl rfl) ?_
      refine Rn_ms (σ' := (456, [some (vS 2), some (vR 1), some (vR 182), some (vI v3), none, none, none, none], [vI (v3 + 1), vS 2, vR 182, vI (f_111 M ((rom 2).2 (wr (v3 + 1)).toNat))], (G0, M))) hc 5 rfl ?_
      refine R_gd e (fun g77 e => ?_)
      refine Rn_romld hc rfl rfl (by decide) g77 rfl ?_
      show Rn rom (d + 9) 221 (457, [some (vS 2), some (vR 1), some (vR 182), some (vI v3), none, none, none, none], [vI ((rom 2).2 (wr (v3 + 1)).toNat), vR 182, vI (f_111 M ((rom 2).2 (wr (v3 + 1)).toNat))], (G0, M)) out
      refine R_bind e (fun k78 hk78 e => ?_)
      refine Rn_cv hc rfl rfl (by decide) (ii := xi_192) rfl rfl rfl (tgc_182 : Tg _ = 11) (by decide) rfl (le := [some (vR 182), some (vI ((rom 2).2 (wr (v3 + 1)).toNat))]) rfl (v := some (vI k78)) (M' := M) (t_192  (d := d + 7) hk78 rfl) ?_
      show Rn rom (d + 9) 221 (460, [some (vS 2), some (vR 1), some (vR 182), some (vI v3), none, none, none, none], [vI k78, vI (f_111 M ((rom 2).2 (wr (v3 + 1)).toNat))], (G0, M)) out
      refine R_ite e (fun b79 e => ?_) (fun b79 e => ?_)
      · refine Rn_icT (tgt := 867) hc rfl rfl (by decide) b79 ?_
        refine Rn_ms (σ' := (18, [some (vS 2), some (vR 1), some (vR 182), some (vI (v3 + 4)), none, none, none, none], [], (G0, M))) hc 2 rfl ?_
        cases e
        exact Rn_weak (xle_s (xle_s (xle_s (xle_s (xle_s (xle_s (xle_s (xle_s xle_0)))))))) hK
      · refine Rn_icF hc rfl rfl (by decide) b79 ?_
        refine Rn_ms (σ' := (464, [some (vS 2), some (vR 1), some (vR 182), some (vI v3), none, none, none, none], [vI 0], (G0, M))) hc 1 rfl ?_
        cases e
        exact R_end (Rn_iret hc rfl rfl (xretB rfl rfl (by decide))) hK
    refine R_ite e (fun b80 e => ?_) (fun b80 e => ?_)
    · refine Rn_tsw (off := 433) (tgt := 465) hc rfl rfl (xsw_at b80 (by decide) (by decide) (by decide) rfl) rfl ?_
      refine Rn_ms (σ' := (470, [some (vS 2), some (vR 1), some (vR 182), some (vI v3), none, none, none, none], [vI (v3 + 1), vS 2, vR 1], (G0, M))) hc 5 rfl ?_
      refine R_gd e (fun g81 e => ?_)
      refine Rn_romld hc rfl rfl (by decide) g81 rfl ?_
      refine Rn_ms (σ' := (475, [some (vS 2), some (vR 1), some (vR 182), some (vI v3), none, none, none, none], [vI (v3 + 2), vS 2, vI ((rom 2).2 (wr (v3 + 1)).toNat), vR 1], (G0, M))) hc 4 rfl ?_
      refine R_gd e (fun g82 e => ?_)
      refine Rn_romld hc rfl rfl (by decide) g82 rfl ?_
      show Rn rom (d + 9) 221 (476, [some (vS 2), some (vR 1), some (vR 182), some (vI v3), none, none, none, none], [vI ((rom 2).2 (wr (v3 + 2)).toNat), vI ((rom 2).2 (wr (v3 + 1)).toNat), vR 1], (G0, M)) out
      refine R_bind e (fun k83 hk83 e => ?_)
      refine Rn_cv hc rfl rfl (by decide) (ii := xi_112) rfl rfl rfl (tgc_1 : Tg _ = 10) (by decide) rfl (le := [some (vR 1), some (vI ((rom 2).2 (wr (v3 + 1)).toNat)), some (vI ((rom 2).2 (wr (v3 + 2)).toNat)), none]) rfl (v := some (vI k83)) (M' := M) (t_112  (d := d + 5) hk83 rfl) ?_
      refine Rn_ms (σ' := (484, [some (vS 2), some (vR 1), some (vR 182), some (vI v3), none, none, none, none], [vI (v3 + 1), vS 2, vR 182, vI k83], (G0, M))) hc 5 rfl ?_
      refine R_gd e (fun g84 e => ?_)
      refine Rn_romld hc rfl rfl (by decide) g84 rfl ?_
      refine Rn_ms (σ' := (489, [some (vS 2), some (vR 1), some (vR 182), some (vI v3), none, none, none, none], [vI (v3 + 2), vS 2, vI ((rom 2).2 (wr (v3 + 1)).toNat), vR 182, vI k83], (G0, M))) hc 4 rfl ?_
      refine R_gd e (fun g85 e => ?_)
      refine Rn_romld hc rfl rfl (by decide) g85 rfl ?_
      show Rn rom (d + 9) 221 (490, [some (vS 2), some (vR 1), some (vR 182), some (vI v3), none, none, none, none], [vI ((rom 2).2 (wr (v3 + 2)).toNat), vI ((rom 2).2 (wr (v3 + 1)).toNat), vR 182, vI k83], (G0, M)) out
      refine R_bind e (fun k86 hk86 e => ?_)
      refine Rn_cv hc rfl rfl (by decide) (ii := xi_194) rfl rfl rfl (tgc_182 : Tg _ = 11) (by decide) rfl (le := [some (vR 182), some (vI ((rom 2).2 (wr (v3 + 1)).toNat)), some (vI ((rom 2).2 (wr (v3 + 2)).toNat))]) rfl (v := some (vI k86)) (M' := M) (t_194  (d := d + 6) hk86 rfl) ?_
      show Rn rom (d + 9) 221 (493, [some (vS 2), some (vR 1), some (vR 182), some (vI v3), none, none, none, none], [vI k86, vI k83], (G0, M)) out
      refine R_ite e (fun b87 e => ?_) (fun b87 e => ?_)
      · refine Rn_icT (tgt := 867) hc rfl rfl (by decide) b87 ?_
        refine Rn_ms (σ' := (18, [some (vS 2), some (vR 1), some (vR 182), some (vI (v3 + 4)), none, none, none, none], [], (G0, M))) hc 2 rfl ?_
        cases e
        exact Rn_weak (xle_s (xle_s (xle_s (xle_s (xle_s (xle_s (xle_s (xle_s xle_0)))))))) hK
      · refine Rn_icF hc rfl rfl (by decide) b87 ?_
        refine Rn_ms (σ' := (497, [some (vS 2), some (vR 1), some (vR 182), some (vI v3), none, none, none, none], [vI 0], (G0, M))) hc 1 rfl ?_
        cases e
        exact R_end (Rn_iret hc rfl rfl (xretB rfl rfl (by decide))) hK
    refine R_ite e (fun b88 e => ?_) (fun b88 e => ?_)
    · refine Rn_tsw (off := 466) (tgt := 498) hc rfl rfl (xsw_at b88 (by decide) (by decide) (by decide) rfl) rfl ?_
      refine Rn_ms (σ' := (503, [some (vS 2), some (vR 1), some (vR 182), some (vI v3), none, none, none, none], [vI (v3 + 1), vS 2, vR 1], (G0, M))) hc 5 rfl ?_
      refine R_gd e (fun g89 e => ?_)
      refine Rn_romld hc rfl rfl (by decide) g89 rfl ?_
      refine Rn_ms (σ' := (508, [some (vS 2), some (vR 1), some (vR 182), some (vI v3), none, none, none, none], [vI (v3 + 2), vS 2, vI ((rom 2).2 (wr (v3 + 1)).toNat), vR 1], (G0, M))) hc 4 rfl ?_
      refine R_gd e (fun g90 e => ?_)
      refine Rn_romld hc rfl rfl (by decide) g90 rfl ?_
      refine Rn_ms (σ' := (513, [some (vS 2), some (vR 1), some (vR 182), some (vI v3), none, none, none, none], [vI (v3 + 3), vS 2, vI ((rom 2).2 (wr (v3 + 2)).toNat), vI ((rom 2).2 (wr (v3 + 1)).toNat), vR 1], (G0, M))) hc 4 rfl ?_
      refine R_gd e (fun g91 e => ?_)
      refine Rn_romld hc rfl rfl (by decide) g91 rfl ?_
      show Rn rom (d + 9) 221 (514, [some (vS 2), some (vR 1), some (vR 182), some (vI v3), none, none, none, none], [vI ((rom 2).2 (wr (v3 + 3)).toNat), vI ((rom 2).2 (wr (v3 + 2)).toNat), vI ((rom 2).2 (wr (v3 + 1)).toNat), vR 1], (G0, M)) out
      refine R_bind e (fun k92 hk92 e => ?_)
      refine Rn_cv hc rfl rfl (by decide) (ii := xi_113) rfl rfl rfl (tgc_1 : Tg _ = 10) (by decide) rfl (le := [some (vR 1), some (vI ((rom 2).2 (wr (v3 + 1)).toNat)), some (vI ((rom 2).2 (wr (v3 + 2)).toNat)), some (vI ((rom 2).2 (wr (v3 + 3)).toNat)), none]) rfl (v := some (vI k92)) (M' := M) (t_113  (d := d + 6) hk92 rfl) ?_
      refine Rn_ms (σ' := (522, [some (vS 2), some (vR 1), some (vR 182), some (vI v3), none, none, none, none], [vI (v3 + 1), vS 2, vR 182, vI k92], (G0, M))) hc 5 rfl ?_
      refine R_gd e (fun g93 e => ?_)
      refine Rn_romld hc rfl rfl (by decide) g93 rfl ?_
      refine Rn_ms (σ' := (527, [some (vS 2), some (vR 1), some (vR 182), some (vI v3), none, none, none, none], [vI (v3 + 2), vS 2, vI ((rom 2).2 (wr (v3 + 1)).toNat), vR 182, vI k92], (G0, M))) hc 4 rfl ?_
      refine R_gd e (fun g94 e => ?_)
      refine Rn_romld hc rfl rfl (by decide) g94 rfl ?_
      refine Rn_ms (σ' := (532, [some (vS 2), some (vR 1), some (vR 182), some (vI v3), none, none, none, none], [vI (v3 + 3), vS 2, vI ((rom 2).2 (wr (v3 + 2)).toNat), vI ((rom 2).2 (wr (v3 + 1)).toNat), vR 182, vI k92], (G0, M))) hc 4 rfl ?_
      refine R_gd e (fun g95 e => ?_)
      refine Rn_romld hc rfl rfl (by decide) g95 rfl ?_
      show Rn rom (d + 9) 221 (533, [some (vS 2), some (vR 1), some (vR 182), some (vI v3), none, none, none, none], [vI ((rom 2).2 (wr (v3 + 3)).toNat), vI ((rom 2).2 (wr (v3 + 2)).toNat), vI ((rom 2).2 (wr (v3 + 1)).toNat), vR 182, vI k92], (G0, M)) out
      refine R_bind e (fun k96 hk96 e => ?_)
      refine Rn_cv hc rfl rfl (by decide) (ii := xi_195) rfl rfl rfl (tgc_182 : Tg _ = 11) (by decide) rfl (le := [some (vR 182), some (vI ((rom 2).2 (wr (v3 + 1)).toNat)), some (vI ((rom 2).2 (wr (v3 + 2)).toNat)), some (vI ((rom 2).2 (wr (v3 + 3)).toNat)), none]) rfl (v := some (vI k96)) (M' := M) (t_195  (d := d + 6) hk96 rfl) ?_
      show Rn rom (d + 9) 221 (536, [some (vS 2), some (vR 1), some (vR 182), some (vI v3), none, none, none, none], [vI k96, vI k92], (G0, M)) out
      refine R_ite e (fun b97 e => ?_) (fun b97 e => ?_)
      · refine Rn_icT (tgt := 867) hc rfl rfl (by decide) b97 ?_
        refine Rn_ms (σ' := (18, [some (vS 2), some (vR 1), some (vR 182), some (vI (v3 + 4)), none, none, none, none], [], (G0, M))) hc 2 rfl ?_
        cases e
        exact Rn_weak (xle_s (xle_s (xle_s (xle_s (xle_s (xle_s (xle_s (xle_s xle_0)))))))) hK
      · refine Rn_icF hc rfl rfl (by decide) b97 ?_
        refine Rn_ms (σ' := (540, [some (vS 2), some (vR 1), some (vR 182), some (vI v3), none, none, none, none], [vI 0], (G0, M))) hc 1 rfl ?_
        cases e
        exact R_end (Rn_iret hc rfl rfl (xretB rfl rfl (by decide))) hK
    refine R_ite e (fun b98 e => ?_) (fun b98 e => ?_)
    · refine Rn_tsw (off := 509) (tgt := 541) hc rfl rfl (xsw_at b98 (by decide) (by decide) (by decide) rfl) rfl ?_
      refine Rn_ms (σ' := (546, [some (vS 2), some (vR 1), some (vR 182), some (vI v3), none, none, none, none], [vI (v3 + 1), vS 2, vR 1], (G0, M))) hc 5 rfl ?_
      refine R_gd e (fun g99 e => ?_)
      refine Rn_romld hc rfl rfl (by decide) g99 rfl ?_
      refine Rn_ms (σ' := (551, [some (vS 2), some (vR 1), some (vR 182), some (vI v3), none, none, none, none], [vI (v3 + 2), vS 2, vI ((rom 2).2 (wr (v3 + 1)).toNat), vR 1], (G0, M))) hc 4 rfl ?_
      refine R_gd e (fun g100 e => ?_)
      refine Rn_romld hc rfl rfl (by decide) g100 rfl ?_
      show Rn rom (d + 9) 221 (552, [some (vS 2), some (vR 1), some (vR 182), some (vI v3), none, none, none, none], [vI ((rom 2).2 (wr (v3 + 2)).toNat), vI ((rom 2).2 (wr (v3 + 1)).toNat), vR 1], (G0, M)) out
      refine R_bind e (fun k101 hk101 e => ?_)
      refine Rn_cv hc rfl rfl (by decide) (ii := xi_114) rfl rfl rfl (tgc_1 : Tg _ = 10) (by decide) rfl (le := [some (vR 1), some (vI ((rom 2).2 (wr (v3 + 1)).toNat)), some (vI ((rom 2).2 (wr (v3 + 2)).toNat))]) rfl (v := some (vI k101.1)) (M' := k101.2) (t_114  (d := d + 4) hk101 rfl) ?_
      refine Rn_ms (σ' := (560, [some (vS 2), some (vR 1), some (vR 182), some (vI v3), none, none, none, none], [vI (v3 + 1), vS 2, vR 182, vI k101.1], (G0, k101.2))) hc 5 rfl ?_
      refine R_gd e (fun g102 e => ?_)
      refine Rn_romld hc rfl rfl (by decide) g102 rfl ?_
      refine Rn_ms (σ' := (565, [some (vS 2), some (vR 1), some (vR 182), some (vI v3), none, none, none, none], [vI (v3 + 2), vS 2, vI ((rom 2).2 (wr (v3 + 1)).toNat), vR 182, vI k101.1], (G0, k101.2))) hc 4 rfl ?_
      refine R_gd e (fun g103 e => ?_)
      refine Rn_romld hc rfl rfl (by decide) g103 rfl ?_
      show Rn rom (d + 9) 221 (566, [some (vS 2), some (vR 1), some (vR 182), some (vI v3), none, none, none, none], [vI ((rom 2).2 (wr (v3 + 2)).toNat), vI ((rom 2).2 (wr (v3 + 1)).toNat), vR 182, vI k101.1], (G0, k101.2)) out
      refine R_bind e (fun k104 hk104 e => ?_)
      refine Rn_cv hc rfl rfl (by decide) (ii := xi_200) rfl rfl rfl (tgc_182 : Tg _ = 11) (by decide) rfl (le := [some (vR 182), some (vI ((rom 2).2 (wr (v3 + 1)).toNat)), some (vI ((rom 2).2 (wr (v3 + 2)).toNat))]) rfl (v := some (vI k104)) (M' := k101.2) (t_200  (d := d + 4) hk104 rfl) ?_
      show Rn rom (d + 9) 221 (569, [some (vS 2), some (vR 1), some (vR 182), some (vI v3), none, none, none, none], [vI k104, vI k101.1], (G0, k101.2)) out
      refine R_ite e (fun b105 e => ?_) (fun b105 e => ?_)
      · refine Rn_icT (tgt := 867) hc rfl rfl (by decide) b105 ?_
        refine Rn_ms (σ' := (18, [some (vS 2), some (vR 1), some (vR 182), some (vI (v3 + 4)), none, none, none, none], [], (G0, k101.2))) hc 2 rfl ?_
        cases e
        exact Rn_weak (xle_s (xle_s (xle_s (xle_s (xle_s (xle_s (xle_s (xle_s xle_0)))))))) hK
      · refine Rn_icF hc rfl rfl (by decide) b105 ?_
        refine Rn_ms (σ' := (573, [some (vS 2), some (vR 1), some (vR 182), some (vI v3), none, none, none, none], [vI 0], (G0, k101.2))) hc 1 rfl ?_
        cases e
        exact R_end (Rn_iret hc rfl rfl (xretB rfl rfl (by decide))) hK
    refine R_ite e (fun b106 e => ?_) (fun b106 e => ?_)
    · refine Rn_tsw (off := 542) (tgt := 574) hc rfl rfl (xsw_at b106 (by decide) (by decide) (by decide) rfl) rfl ?_
      refine Rn_ms (σ' := (579, [some (vS 2), some (vR 1), some (vR 182), some (vI v3), none, none, none, none], [vI (v3 + 1), vS 2, vR 1], (G0, M))) hc 5 rfl ?_
      refine R_gd e (fun g107 e => ?_)
      refine Rn_romld hc rfl rfl (by decide) g107 rfl ?_
      refine Rn_ms (σ' := (584, [some (vS 2), some (vR 1), some (vR 182), some (vI v3), none, none, none, none], [vI (v3 + 2), vS 2, vI ((rom 2).2 (wr (v3 + 1)).toNat), vR 1], (G0, M))) hc 4 rfl ?_
      refine R_gd e (fun g108 e => ?_)
      refine Rn_romld hc rfl rfl (by decide) g108 rfl ?_
      show Rn rom (d + 9) 221 (585, [some (vS 2), some (vR 1), some (vR 182), some (vI v3), none, none, none, none], [vI ((rom 2).2 (wr (v3 + 2)).toNat), vI ((rom 2).2 (wr (v3 + 1)).toNat), vR 1], (G0, M)) out
      refine R_bind e (fun k109 hk109 e => ?_)
      refine Rn_cv hc rfl rfl (by decide) (ii := xi_115) rfl rfl rfl (tgc_1 : Tg _ = 10) (by decide) rfl (le := [some (vR 1), some (vI ((rom 2).2 (wr (v3 + 1)).toNat)), some (vI ((rom 2).2 (wr (v3 + 2)).toNat))]) rfl (v := some (vI k109.1)) (M' := k109.2) (t_115  (d := d + 4) hk109 rfl) ?_
      refine Rn_ms (σ' := (593, [some (vS 2), some (vR 1), some (vR 182), some (vI v3), none, none, none, none], [vI (v3 + 1), vS 2, vR 182, vI k109.1], (G0, k109.2))) hc 5 rfl ?_
      refine R_gd e (fun g110 e => ?_)
      refine Rn_romld hc rfl rfl (by decide) g110 rfl ?_
      refine Rn_ms (σ' := (598, [some (vS 2), some (vR 1), some (vR 182), some (vI v3), none, none, none, none], [vI (v3 + 2), vS 2, vI ((rom 2).2 (wr (v3 + 1)).toNat), vR 182, vI k109.1], (G0, k109.2))) hc 4 rfl ?_
      refine R_gd e (fun g111 e => ?_)
      refine Rn_romld hc rfl rfl (by decide) g111 rfl ?_
      show Rn rom (d + 9) 221 (599, [some (vS 2), some (vR 1), some (vR 182), some (vI v3), none, none, none, none], [vI ((rom 2).2 (wr (v3 + 2)).toNat), vI ((rom 2).2 (wr (v3 + 1)).toNat), vR 182, vI k109.1], (G0, k109.2)) out
      refine R_bind e (fun k112 hk112 e => ?_)
      refine Rn_cv hc rfl rfl (by decide) (ii := xi_202) rfl rfl rfl (tgc_182 : Tg _ = 11) (by decide) rfl (le := [some (vR 182), some (vI ((rom 2).2 (wr (v3 + 1)).toNat)), some (vI ((rom 2).2 (wr (v3 + 2)).toNat))]) rfl (v := some (vI k112)) (M' := k109.2) (t_202  (d := d + 4) hk112 rfl) ?_
      show Rn rom (d + 9) 221 (602, [some (vS 2), some (vR 1), some (vR 182), some (vI v3), none, none, none, none], [vI k112, vI k109.1], (G0, k109.2)) out
      refine R_ite e (fun b113 e => ?_) (fun b113 e => ?_)
      · refine Rn_icT (tgt := 867) hc rfl rfl (by decide) b113 ?_
        refine Rn_ms (σ' := (18, [some (vS 2), some (vR 1), some (vR 182), some (vI (v3 + 4)), none, none, none, none], [], (G0, k109.2))) hc 2 rfl ?_
        cases e
        exact Rn_weak (xle_s (xle_s (xle_s (xle_s (xle_s (xle_s (xle_s (xle_s xle_0)))))))) hK
      · refine Rn_icF hc rfl rfl (by decide) b113 ?_
        refine Rn_ms (σ' := (606, [some (vS 2), some (vR 1), some (vR 182), some (vI v3), none, none, none, none], [vI 0], (G0, k109.2))) hc 1 rfl ?_
        cases e
        exact R_end (Rn_iret hc rfl rfl (xretB rfl rfl (by decide))) hK
    refine R_ite e (fun b114 e => ?_) (fun b114 e => ?_)
    · refine Rn_tsw (off := 575) (tgt := 607) hc rfl rfl (xsw_at b114 (by decide) (by decide) (by decide) rfl) rfl ?_
      refine Rn_ms (σ' := (608, [some (vS 2), some (vR 1), some (vR 182), some (vI v3), none, none, none, none], [vR 1], (G0, M))) hc 1 rfl ?_
      refine R_bind e (fun k115 hk115 e => ?_)
      refine Rn_cv hc rfl rfl (by decide) (ii := xi_116) rfl rfl rfl (tgc_1 : Tg _ = 10) (by decide) rfl (le := [some (vR 1)]) rfl (v := some (vI k115.1)) (M' := k115.2) (t_116  (d := d + 3) hk115 rfl) ?_
      refine Rn_ms (σ' := (612, [some (vS 2), some (vR 1), some (vR 182), some (vI v3), none, none, none, none], [vR 182, vI k115.1], (G0, k115.2))) hc 1 rfl ?_
      refine R_bind e (fun k116 hk116 e => ?_)
      refine Rn_cv hc rfl rfl (by decide) (ii := xi_203) rfl rfl rfl (tgc_182 : Tg _ = 11) (by decide) rfl (le := [some (vR 182), none, none, none, none]) rfl (v := some (vI k116)) (M' := k115.2) (t_203  (d := d + 4) hk116 rfl) ?_
      show Rn rom (d + 9) 221 (615, [some (vS 2), some (vR 1), some (vR 182), some (vI v3), none, none, none, none], [vI k116, vI k115.1], (G0, k115.2)) out
      refine R_ite e (fun b117 e => ?_) (fun b117 e => ?_)
      · refine Rn_icT (tgt := 867) hc rfl rfl (by decide) b117 ?_
        refine Rn_ms (σ' := (18, [some (vS 2), some (vR 1), some (vR 182), some (vI (v3 + 4)), none, none, none, none], [], (G0, k115.2))) hc 2 rfl ?_
        cases e
        exact Rn_weak (xle_s (xle_s (xle_s (xle_s (xle_s (xle_s (xle_s (xle_s xle_0)))))))) hK
      · refine Rn_icF hc rfl rfl (by decide) b117 ?_
        refine Rn_ms (σ' := (619, [some (vS 2), some (vR 1), some (vR 182), some (vI v3), none, none, none, none], [vI 0], (G0, k115.2))) hc 1 rfl ?_
        cases e
        exact R_end (Rn_iret hc rfl rfl (xretB rfl rfl (by decide))) hK
    refine R_ite e (fun b118 e => ?_) (fun b118 e => ?_)
    · refine Rn_tsw (off := 588) (tgt := 620) hc rfl rfl (xsw_at b118 (by decide) (by decide) (by decide) rfl) rfl ?_
      refine Rn_ms (σ' := (621, [some (vS 2), some (vR 1), some (vR 182), some (vI v3), none, none, none, none], [vR 1], (G0, M))) hc 1 rfl ?_
      refine R_bind e (fun k119 hk119 e => ?_)
      refine Rn_cv hc rfl rfl (by decide) (ii := xi_117) rfl rfl rfl (tgc_1 : Tg _ = 10) (by decide) rfl (le := [some (vR 1)]) rfl (v := some (vI k119.1)) (M' := k119.2) (t_117  (d := d + 3) hk119 rfl) ?_
      refine Rn_ms (σ' := (625, [some (vS 2), some (vR 1), some (vR 182), some (vI v3), none, none, none, none], [vR 182, vI k119.1], (G0, k119.2))) hc 1 rfl ?_
      refine R_bind e (fun k120 hk120 e => ?_)
      refine Rn_cv hc rfl rfl (by decide) (ii := xi_205) rfl rfl rfl (tgc_182 : Tg _ = 11) (by decide) rfl (le := [some (vR 182), none, none, none, none]) rfl (v := some (vI k120)) (M' := k119.2) (t_205  (d := d + 4) hk120 rfl) ?_
      show Rn rom (d + 9) 221 (628, [some (vS 2), some (vR 1), some (vR 182), some (vI v3), none, none, none, none], [vI k120, vI k119.1], (G0, k119.2)) out
      refine R_ite e (fun b121 e => ?_) (fun b121 e => ?_)
      · refine Rn_icT (tgt := 867) hc rfl rfl (by decide) b121 ?_
        refine Rn_ms (σ' := (18, [some (vS 2), some (vR 1), some (vR 182), some (vI (v3 + 4)), none, none, none, none], [], (G0, k119.2))) hc 2 rfl ?_
        cases e
        exact Rn_weak (xle_s (xle_s (xle_s (xle_s (xle_s (xle_s (xle_s (xle_s xle_0)))))))) hK
      · refine Rn_icF hc rfl rfl (by decide) b121 ?_
        refine Rn_ms (σ' := (632, [some (vS 2), some (vR 1), some (vR 182), some (vI v3), none, none, none, none], [vI 0], (G0, k119.2))) hc 1 rfl ?_
        cases e
        exact R_end (Rn_iret hc rfl rfl (xretB rfl rfl (by decide))) hK
    refine R_ite e (fun b122 e => ?_) (fun b122 e => ?_)
    · refine Rn_tsw (off := 601) (tgt := 633) hc rfl rfl (xsw_at b122 (by decide) (by decide) (by decide) rfl) rfl ?_
      refine Rn_ms (σ' := (634, [some (vS 2), some (vR 1), some (vR 182), some (vI v3), none, none, none, none], [vR 1], (G0, M))) hc 1 rfl ?_
      refine R_bind e (fun k123 hk123 e => ?_)
      refine Rn_cv hc rfl rfl (by decide) (ii := xi_118) rfl rfl rfl (tgc_1 : Tg _ = 10) (by decide) rfl (le := [some (vR 1)]) rfl (v := some (vI k123.1)) (M' := k123.2) (t_118  (d := d + 3) hk123 rfl) ?_
      refine Rn_ms (σ' := (638, [some (vS 2), some (vR 1), some (vR 182), some (vI v3), none, none, none, none], [vR 182, vI k123.1], (G0, k123.2))) hc 1 rfl ?_
      refine R_bind e (fun k124 hk124 e => ?_)
      refine Rn_cv hc rfl rfl (by decide) (ii := xi_207) rfl rfl rfl (tgc_182 : Tg _ = 11) (by decide) rfl (le := [some (vR 182), none, none]) rfl (v := some (vI k124)) (M' := k123.2) (t_207  (d := d + 3) hk124 rfl) ?_
      show Rn rom (d + 9) 221 (641, [some (vS 2), some (vR 1), some (vR 182), some (vI v3), none, none, none, none], [vI k124, vI k123.1], (G0, k123.2)) out
      refine R_ite e (fun b125 e => ?_) (fun b125 e => ?_)
      · refine Rn_icT (tgt := 867) hc rfl rfl (by decide) b125 ?_
        refine Rn_ms (σ' := (18, [some (vS 2), some (vR 1), some (vR 182), some (vI (v3 + 4)), none, none, none, none], [], (G0, k123.2))) hc 2 rfl ?_
        cases e
        exact Rn_weak (xle_s (xle_s (xle_s (xle_s (xle_s (xle_s (xle_s (xle_s xle_0)))))))) hK
      · refine Rn_icF hc rfl rfl (by decide) b125 ?_
        refine Rn_ms (σ' := (645, [some (vS 2), some (vR 1), some (vR 182), some (vI v3), none, none, none, none], [vI 0], (G0, k123.2))) hc 1 rfl ?_
        cases e
        exact R_end (Rn_iret hc rfl rfl (xretB rfl rfl (by decide))) hK
    refine R_ite e (fun b126 e => ?_) (fun b126 e => ?_)
    · refine Rn_tsw (off := 614) (tgt := 646) hc rfl rfl (xsw_at b126 (by decide) (by decide) (by decide) rfl) rfl ?_
      refine Rn_ms (σ' := (651, [some (vS 2), some (vR 1), some (vR 182), some (vI v3), none, none, none, none], [vI (v3 + 1), vS 2, vR 1], (G0, M))) hc 5 rfl ?_
      refine R_gd e (fun g127 e => ?_)
      refine Rn_romld hc rfl rfl (by decide) g127 rfl ?_
      show Rn rom (d + 9) 221 (652, [some (vS 2), some (vR 1), some (vR 182), some (vI v3), none, none, none, none], [vI ((rom 2).2 (wr (v3 + 1)).toNat), vR 1], (G0, M)) out
      refine R_bind e (fun k128 hk128 e => ?_)
      refine Rn_cv hc rfl rfl (by decide) (ii := xi_119) rfl rfl rfl (tgc_1 : Tg _ = 10) (by decide) rfl (le := [some (vR 1), some (vI ((rom 2).2 (wr (v3 + 1)).toNat))]) rfl (v := some (vI k128)) (M' := M) (t_119  (d := d + 5) hk128 rfl) ?_
      refine Rn_ms (σ' := (660, [some (vS 2), some (vR 1), some (vR 182), some (vI v3), none, none, none, none], [vI (v3 + 1), vS 2, vR 182, vI k128], (G0, M))) hc 5 rfl ?_
      refine R_gd e (fun g129 e => ?_)
      refine Rn_romld hc rfl rfl (by decide) g129 rfl ?_
      show Rn rom (d + 9) 221 (661, [some (vS 2), some (vR 1), some (vR 182), some (vI v3), none, none, none, none], [vI ((rom 2).2 (wr (v3 + 1)).toNat), vR 182, vI k128], (G0, M)) out
      refine R_bind e (fun k130 hk130 e => ?_)
      refine Rn_cv hc rfl rfl (by decide) (ii := xi_208) rfl rfl rfl (tgc_182 : Tg _ = 11) (by decide) rfl (le := [some (vR 182), some (vI ((rom 2).2 (wr (v3 + 1)).toNat))]) rfl (v := some (vI k130)) (M' := M) (t_208  (d := d + 5) hk130 rfl) ?_
      show Rn rom (d + 9) 221 (664, [some (vS 2), some (vR 1), some (vR 182), some (vI v3), none, none, none, none], [vI k130, vI k128], (G0, M)) out
      refine R_ite e (fun b131 e => ?_) (fun b131 e => ?_)
      · refine Rn_icT (tgt := 867) hc rfl rfl (by decide) b131 ?_
        refine Rn_ms (σ' := (18, [some (vS 2), some (vR 1), some (vR 182), some (vI (v3 + 4)), none, none, none, none], [], (G0, M))) hc 2 rfl ?_
        cases e
        exact Rn_weak (xle_s (xle_s (xle_s (xle_s (xle_s (xle_s (xle_s (xle_s xle_0)))))))) hK
      · refine Rn_icF hc rfl rfl (by decide) b131 ?_
        refine Rn_ms (σ' := (668, [some (vS 2), some (vR 1), some (vR 182), some (vI v3), none, none, none, none], [vI 0], (G0, M))) hc 1 rfl ?_
        cases e
        exact R_end (Rn_iret hc rfl rfl (xretB rfl rfl (by decide))) hK
    refine R_ite e (fun b132 e => ?_) (fun b132 e => ?_)
    · refine Rn_tsw (off := 637) (tgt := 669) hc rfl rfl (xsw_at b132 (by decide) (by decide) (by decide) rfl) rfl ?_
      refine Rn_ms (σ' := (670, [some (vS 2), some (vR 1), some (vR 182), some (vI v3), none, none, none, none], [vR 1], (G0, M))) hc 1 rfl ?_
      refine R_bind e (fun k133 hk133 e => ?_)
      refine Rn_cv hc rfl rfl (by decide) (ii := xi_120) rfl rfl rfl (tgc_1 : Tg _ = 10) (by decide) rfl (le := [some (vR 1), none]) rfl (v := some (vD k133.1)) (M' := k133.2) (t_120  (d := d + 3) hk133 rfl) ?_
      refine Rn_ms (σ' := (676, [some (vS 2), some (vR 1), some (vR 182), some (vI v3), some (vD k133.1), none, none, none], [vR 182], (G0, k133.2))) hc 2 rfl ?_
      refine R_bind e (fun k134 hk134 e => ?_)
      refine Rn_cv hc rfl rfl (by decide) (ii := xi_210) rfl rfl rfl (tgc_182 : Tg _ = 11) (by decide) rfl (le := [some (vR 182)]) rfl (v := some (vD k134)) (M' := k133.2) (t_210  (d := d + 3) hk134 rfl) ?_
      refine Rn_ms (σ' := (686, [some (vS 2), some (vR 1), some (vR 182), some (vI v3), some (vD k133.1), none, some (vD k134), none], [vI (xdc k133.1 k134)], (G0, k133.2))) hc 4 rfl ?_
      refine R_ite e (fun b135 e => ?_) (fun b135 e => ?_)
      · refine Rn_ifT (tgt := 707) hc rfl rfl (by decide) b135 ?_
        refine Rn_ms (σ' := (18, [some (vS 2), some (vR 1), some (vR 182), some (vI (v3 + 4)), some (vD k133.1), none, some (vD k134), none], [], (G0, k133.2))) hc 3 rfl ?_
        cases e
        exact Rn_weak (xle_s (xle_s (xle_s (xle_s (xle_n (xle_s (xle_n (xle_s xle_0)))))))) hK
      · refine Rn_ifF hc rfl rfl (by decide) b135 ?_
        refine Rn_ms (σ' := (694, [some (vS 2), some (vR 1), some (vR 182), some (vI v3), some (vD k133.1), none, some (vD k134), none], [vI (xdc k133.1 k133.1)], (G0, k133.2))) hc 3 rfl ?_
        refine R_ite e (fun b136 e => ?_) (fun b136 e => ?_)
        · refine Rn_ifT (tgt := 705) hc rfl rfl (by decide) b136 ?_
          refine Rn_ms (σ' := (706, [some (vS 2), some (vR 1), some (vR 182), some (vI v3), some (vD k133.1), none, some (vD k134), none], [vI 0], (G0, k133.2))) hc 1 rfl ?_
          cases e
          exact R_end (Rn_iret hc rfl rfl (xretB rfl rfl (by decide))) hK
        · refine Rn_ifF hc rfl rfl (by decide) b136 ?_
          refine Rn_ms (σ' := (702, [some (vS 2), some (vR 1), some (vR 182), some (vI v3), some (vD k133.1), none, some (vD k134), none], [vI (xdc k134 k134)], (G0, k133.2))) hc 3 rfl ?_
          refine R_ite e (fun b137 e => ?_) (fun b137 e => ?_)
          · refine Rn_ifF hc rfl rfl (by decide) (fun w => w b137) ?_
            refine Rn_ms (σ' := (706, [some (vS 2), some (vR 1), some (vR 182), some (vI v3), some (vD k133.1), none, some (vD k134), none], [vI 0], (G0, k133.2))) hc 1 rfl ?_
            cases e
            exact R_end (Rn_iret hc rfl rfl (xretB rfl rfl (by decide))) hK
          · refine Rn_ifT (tgt := 707) hc rfl rfl (by decide) (fun w => b137 w) ?_
            refine Rn_ms (σ' := (18, [some (vS 2), some (vR 1), some (vR 182), some (vI (v3 + 4)), some (vD k133.1), none, some (vD k134), none], [], (G0, k133.2))) hc 3 rfl ?_
            cases e
            exact Rn_weak (xle_s (xle_s (xle_s (xle_s (xle_n (xle_s (xle_n (xle_s xle_0)))))))) hK
    refine R_ite e (fun b138 e => ?_) (fun b138 e => ?_)
    · refine Rn_tsw (off := 678) (tgt := 710) hc rfl rfl (xsw_at b138 (by decide) (by decide) (by decide) rfl) rfl ?_
      refine Rn_ms (σ' := (711, [some (vS 2), some (vR 1), some (vR 182), some (vI v3), none, none, none, none], [vR 1], (G0, M))) hc 1 rfl ?_
      refine Rn_cv hc rfl rfl (by decide) (ii := xi_121) rfl rfl rfl (tgc_1 : Tg _ = 10) (by decide) rfl (le := [some (vR 1)]) rfl (v := some (vI (f_121 M))) (M' := M) (t_121  (d := d + 6) rfl rfl) ?_
      refine Rn_ms (σ' := (715, [some (vS 2), some (vR 1), some (vR 182), some (vI v3), none, none, none, none], [vR 182, vI (f_121 M)], (G0, M))) hc 1 rfl ?_
      refine R_bind e (fun k139 hk139 e => ?_)
      refine Rn_cv hc rfl rfl (by decide) (ii := xi_211) rfl rfl rfl (tgc_182 : Tg _ = 11) (by decide) rfl (le := [some (vR 182), none, none]) rfl (v := some (vI k139)) (M' := M) (t_211  (d := d + 7) hk139 rfl) ?_
      show Rn rom (d + 9) 221 (718, [some (vS 2), some (vR 1), some (vR 182), some (vI v3), none, none, none, none], [vI k139, vI (f_121 M)], (G0, M)) out
      refine R_ite e (fun b140 e => ?_) (fun b140 e => ?_)
      · refine Rn_icT (tgt := 867) hc rfl rfl (by decide) b140 ?_
        refine Rn_ms (σ' := (18, [some (vS 2), some (vR 1), some (vR 182), some (vI (v3 + 4)), none, none, none, none], [], (G0, M))) hc 2 rfl ?_
        cases e
        exact Rn_weak (xle_s (xle_s (xle_s (xle_s (xle_s (xle_s (xle_s (xle_s xle_0)))))))) hK
      · refine Rn_icF hc rfl rfl (by decide) b140 ?_
        refine Rn_ms (σ' := (722, [some (vS 2), some (vR 1), some (vR 182), some (vI v3), none, none, none, none], [vI 0], (G0, M))) hc 1 rfl ?_
        cases e
        exact R_end (Rn_iret hc rfl rfl (xretB rfl rfl (by decide))) hK
    refine R_ite e (fun b141 e => ?_) (fun b141 e => ?_)
    · refine Rn_tsw (off := 691) (tgt := 723) hc rfl rfl (xsw_at b141 (by decide) (by decide) (by decide) rfl) rfl ?_
      refine Rn_ms (σ' := (728, [some (vS 2), some (vR 1), some (vR 182), some (vI v3), none, none, none, none], [vI (v3 + 1), vS 2, vR 1], (G0, M))) hc 5 rfl ?_
      refine R_gd e (fun g142 e => ?_)
      refine Rn_romld hc rfl rfl (by decide) g142 rfl ?_
      show Rn rom (d + 9) 221 (729, [some (vS 2), some (vR 1), some (vR 182), some (vI v3), none, none, none, none], [vI ((rom 2).2 (wr (v3 + 1)).toNat), vR 1], (G0, M)) out
      refine R_bind e (fun k143 hk143 e => ?_)
      refine Rn_cv hc rfl rfl (by decide) (ii := xi_122) rfl rfl rfl (tgc_1 : Tg _ = 10) (by decide) rfl (le := [some (vR 1), some (vI ((rom 2).2 (wr (v3 + 1)).toNat)), none, none]) rfl (v := some (vI k143)) (M' := M) (t_122  (d := d + 6) hk143 rfl) ?_
      refine Rn_ms (σ' := (737, [some (vS 2), some (vR 1), some (vR 182), some (vI v3), none, none, none, none], [vI (v3 + 1), vS 2, vR 182, vI k143], (G0, M))) hc 5 rfl ?_
      refine R_gd e (fun g144 e => ?_)
      refine Rn_romld hc rfl rfl (by decide) g144 rfl ?_
      show Rn rom (d + 9) 221 (738, [some (vS 2), some (vR 1), some (vR 182), some (vI v3), none, none, none, none], [vI ((rom 2).2 (wr (v3 + 1)).toNat), vR 182, vI k143], (G0, M)) out
      refine R_bind e (fun k145 hk145 e => ?_)
      refine Rn_cv hc rfl rfl (by decide) (ii := xi_212) rfl rfl rfl (tgc_182 : Tg _ = 11) (by decide) rfl (le := [some (vR 182), some (vI ((rom 2).2 (wr (v3 + 1)).toNat)), none]) rfl (v := some (vI k145)) (M' := M) (t_212  (d := d + 5) hk145 rfl) ?_
      show Rn rom (d + 9) 221 (741, [some (vS 2), some (vR 1), some (vR 182), some (vI v3), none, none, none, none], [vI k145, vI k143], (G0, M)) out
      refine R_ite e (fun b146 e => ?_) (fun b146 e => ?_)
      · refine Rn_icT (tgt := 867) hc rfl rfl (by decide) b146 ?_
        refine Rn_ms (σ' := (18, [some (vS 2), some (vR 1), some (vR 182), some (vI (v3 + 4)), none, none, none, none], [], (G0, M))) hc 2 rfl ?_
        cases e
        exact Rn_weak (xle_s (xle_s (xle_s (xle_s (xle_s (xle_s (xle_s (xle_s xle_0)))))))) hK
      · refine Rn_icF hc rfl rfl (by decide) b146 ?_
        refine Rn_ms (σ' := (745, [some (vS 2), some (vR 1), some (vR 182), some (vI v3), none, none, none, none], [vI 0], (G0, M))) hc 1 rfl ?_
        cases e
        exact R_end (Rn_iret hc rfl rfl (xretB rfl rfl (by decide))) hK
    refine R_ite e (fun b147 e => ?_) (fun b147 e => ?_)
    · refine Rn_tsw (off := 714) (tgt := 746) hc rfl rfl (xsw_at b147 (by decide) (by decide) (by decide) rfl) rfl ?_
      refine Rn_ms (σ' := (747, [some (vS 2), some (vR 1), some (vR 182), some (vI v3), none, none, none, none], [vR 1], (G0, M))) hc 1 rfl ?_
      refine R_bind e (fun k148 hk148 e => ?_)
      refine Rn_cv hc rfl rfl (by decide) (ii := xi_123) rfl rfl rfl (tgc_1 : Tg _ = 10) (by decide) rfl (le := [some (vR 1), none, none, none]) rfl (v := some (vI k148)) (M' := M) (t_123  (d := d + 6) hk148 rfl) ?_
      refine Rn_ms (σ' := (751, [some (vS 2), some (vR 1), some (vR 182), some (vI v3), none, none, none, none], [vR 182, vI k148], (G0, M))) hc 1 rfl ?_
      refine R_bind e (fun k149 hk149 e => ?_)
      refine Rn_cv hc rfl rfl (by decide) (ii := xi_213) rfl rfl rfl (tgc_182 : Tg _ = 11) (by decide) rfl (le := [some (vR 182), none]) rfl (v := some (vI k149)) (M' := M) (t_213  (d := d + 5) hk149 rfl) ?_
      show Rn rom (d + 9) 221 (754, [some (vS 2), some (vR 1), some (vR 182), some (vI v3), none, none, none, none], [vI k149, vI k148], (G0, M)) out
      refine R_ite e (fun b150 e => ?_) (fun b150 e => ?_)
      · refine Rn_icT (tgt := 867) hc rfl rfl (by decide) b150 ?_
        refine Rn_ms (σ' := (18, [some (vS 2), some (vR 1), some (vR 182), some (vI (v3 + 4)), none, none, none, none], [], (G0, M))) hc 2 rfl ?_
        cases e
        exact Rn_weak (xle_s (xle_s (xle_s (xle_s (xle_s (xle_s (xle_s (xle_s xle_0)))))))) hK
      · refine Rn_icF hc rfl rfl (by decide) b150 ?_
        refine Rn_ms (σ' := (758, [some (vS 2), some (vR 1), some (vR 182), some (vI v3), none, none, none, none], [vI 0], (G0, M))) hc 1 rfl ?_
        cases e
        exact R_end (Rn_iret hc rfl rfl (xretB rfl rfl (by decide))) hK
    refine R_ite e (fun b151 e => ?_) (fun b151 e => ?_)
    · refine Rn_tsw (off := 727) (tgt := 759) hc rfl rfl (xsw_at b151 (by decide) (by decide) (by decide) rfl) rfl ?_
      refine Rn_ms (σ' := (764, [some (vS 2), some (vR 1), some (vR 182), some (vI v3), none, none, none, none], [vI (v3 + 1), vS 2, vR 1], (G0, M))) hc 5 rfl ?_
      refine R_gd e (fun g152 e => ?_)
      refine Rn_romld hc rfl rfl (by decide) g152 rfl ?_
      show Rn rom (d + 9) 221 (765, [some (vS 2), some (vR 1), some (vR 182), some (vI v3), none, none, none, none], [vI ((rom 2).2 (wr (v3 + 1)).toNat), vR 1], (G0, M)) out
      refine R_bind e (fun k153 hk153 e => ?_)
      refine Rn_cv hc rfl rfl (by decide) (ii := xi_124) rfl rfl rfl (tgc_1 : Tg _ = 10) (by decide) rfl (le := [some (vR 1), some (vI ((rom 2).2 (wr (v3 + 1)).toNat))]) rfl (v := some (vI k153)) (M' := M) (t_124  (d := d + 6) hk153 rfl) ?_
      refine Rn_ms (σ' := (773, [some (vS 2), some (vR 1), some (vR 182), some (vI v3), none, none, none, none], [vI (v3 + 1), vS 2, vR 182, vI k153], (G0, M))) hc 5 rfl ?_
      refine R_gd e (fun g154 e => ?_)
      refine Rn_romld hc rfl rfl (by decide) g154 rfl ?_
      show Rn rom (d + 9) 221 (774, [some (vS 2), some (vR 1), some (vR 182), some (vI v3), none, none, none, none], [vI ((rom 2).2 (wr (v3 + 1)).toNat), vR 182, vI k153], (G0, M)) out
      refine R_bind e (fun k155 hk155 e => ?_)
      refine Rn_cv hc rfl rfl (by decide) (ii := xi_214) rfl rfl rfl (tgc_182 : Tg _ = 11) (by decide) rfl (le := [some (vR 182), some (vI ((rom 2).2 (wr (v3 + 1)).toNat))]) rfl (v := some (vI k155)) (M' := M) (t_214  (d := d + 6) hk155 rfl) ?_
      show Rn rom (d + 9) 221 (777, [some (vS 2), some (vR 1), some (vR 182), some (vI v3), none, none, none, none], [vI k155, vI k153], (G0, M)) out
      refine R_ite e (fun b156 e => ?_) (fun b156 e => ?_)
      · refine Rn_icT (tgt := 867) hc rfl rfl (by decide) b156 ?_
        refine Rn_ms (σ' := (18, [some (vS 2), some (vR 1), some (vR 182), some (vI (v3 + 4)), none, none, none, none], [], (G0, M))) hc 2 rfl ?_
        cases e
        exact Rn_weak (xle_s (xle_s (xle_s (xle_s (xle_s (xle_s (xle_s (xle_s xle_0)))))))) hK
      · refine Rn_icF hc rfl rfl (by decide) b156 ?_
        refine Rn_ms (σ' := (781, [some (vS 2), some (vR 1), some (vR 182), some (vI v3), none, none, none, none], [vI 0], (G0, M))) hc 1 rfl ?_
        cases e
        exact R_end (Rn_iret hc rfl rfl (xretB rfl rfl (by decide))) hK
    refine R_ite e (fun b157 e => ?_) (fun b157 e => ?_)
    · refine Rn_tsw (off := 750) (tgt := 782) hc rfl rfl (xsw_at b157 (by decide) (by decide) (by decide) rfl) rfl ?_
      refine Rn_ms (σ' := (783, [some (vS 2), some (vR 1), some (vR 182), some (vI v3), none, none, none, none], [vR 1], (G0, M))) hc 1 rfl ?_
      refine R_bind e (fun k158 hk158 e => ?_)
      refine Rn_cv hc rfl rfl (by decide) (ii := xi_125) rfl rfl rfl (tgc_1 : Tg _ = 10) (by decide) rfl (le := [some (vR 1), none, none]) rfl (v := some (vI k158)) (M' := M) (t_125  (d := d + 4) hk158 rfl) ?_
      refine Rn_ms (σ' := (787, [some (vS 2), some (vR 1), some (vR 182), some (vI v3), none, none, none, none], [vR 182, vI k158], (G0, M))) hc 1 rfl ?_
      refine R_bind e (fun k159 hk159 e => ?_)
      refine Rn_cv hc rfl rfl (by decide) (ii := xi_216) rfl rfl rfl (tgc_182 : Tg _ = 11) (by decide) rfl (le := [some (vR 182), none, none]) rfl (v := some (vI k159)) (M' := M) (t_216  (d := d + 5) hk159 rfl) ?_
      show Rn rom (d + 9) 221 (790, [some (vS 2), some (vR 1), some (vR 182), some (vI v3), none, none, none, none], [vI k159, vI k158], (G0, M)) out
      refine R_ite e (fun b160 e => ?_) (fun b160 e => ?_)
      · refine Rn_icT (tgt := 867) hc rfl rfl (by decide) b160 ?_
        refine Rn_ms (σ' := (18, [some (vS 2), some (vR 1), some (vR 182), some (vI (v3 + 4)), none, none, none, none], [], (G0, M))) hc 2 rfl ?_
        cases e
        exact Rn_weak (xle_s (xle_s (xle_s (xle_s (xle_s (xle_s (xle_s (xle_s xle_0)))))))) hK
      · refine Rn_icF hc rfl rfl (by decide) b160 ?_
        refine Rn_ms (σ' := (794, [some (vS 2), some (vR 1), some (vR 182), some (vI v3), none, none, none, none], [vI 0], (G0, M))) hc 1 rfl ?_
        cases e
        exact R_end (Rn_iret hc rfl rfl (xretB rfl rfl (by decide))) hK
    refine R_ite e (fun b161 e => ?_) (fun b161 e => ?_)
    · refine Rn_tsw (off := 763) (tgt := 795) hc rfl rfl (xsw_at b161 (by decide) (by decide) (by decide) rfl) rfl ?_
      refine Rn_ms (σ' := (800, [some (vS 2), some (vR 1), some (vR 182), some (vI v3), none, none, none, none], [vI (v3 + 1), vS 2, vR 1], (G0, M))) hc 5 rfl ?_
      refine R_gd e (fun g162 e => ?_)
      refine Rn_romld hc rfl rfl (by decide) g162 rfl ?_
      refine Rn_ms (σ' := (805, [some (vS 2), some (vR 1), some (vR 182), some (vI v3), none, none, none, none], [vI (v3 + 2), vS 2, vI ((rom 2).2 (wr (v3 + 1)).toNat), vR 1], (G0, M))) hc 4 rfl ?_
      refine R_gd e (fun g163 e => ?_)
      refine Rn_romld hc rfl rfl (by decide) g163 rfl ?_
      show Rn rom (d + 9) 221 (806, [some (vS 2), some (vR 1), some (vR 182), some (vI v3), none, none, none, none], [vI ((rom 2).2 (wr (v3 + 2)).toNat), vI ((rom 2).2 (wr (v3 + 1)).toNat), vR 1], (G0, M)) out
      refine R_bind e (fun k164 hk164 e => ?_)
      refine Rn_cv hc rfl rfl (by decide) (ii := xi_126) rfl rfl rfl (tgc_1 : Tg _ = 10) (by decide) rfl (le := [some (vR 1), some (vI ((rom 2).2 (wr (v3 + 1)).toNat)), some (vI ((rom 2).2 (wr (v3 + 2)).toNat))]) rfl (v := some (vI k164.1)) (M' := k164.2) (t_126  (d := d + 3) hk164 rfl) ?_
      refine Rn_ms (σ' := (814, [some (vS 2), some (vR 1), some (vR 182), some (vI v3), none, none, none, none], [vI (v3 + 1), vS 2, vR 182, vI k164.1], (G0, k164.2))) hc 5 rfl ?_
      refine R_gd e (fun g165 e => ?_)
      refine Rn_romld hc rfl rfl (by decide) g165 rfl ?_
      refine Rn_ms (σ' := (819, [some (vS 2), some (vR 1), some (vR 182), some (vI v3), none, none, none, none], [vI (v3 + 2), vS 2, vI ((rom 2).2 (wr (v3 + 1)).toNat), vR 182, vI k164.1], (G0, k164.2))) hc 4 rfl ?_
      refine R_gd e (fun g166 e => ?_)
      refine Rn_romld hc rfl rfl (by decide) g166 rfl ?_
      show Rn rom (d + 9) 221 (820, [some (vS 2), some (vR 1), some (vR 182), some (vI v3), none, none, none, none], [vI ((rom 2).2 (wr (v3 + 2)).toNat), vI ((rom 2).2 (wr (v3 + 1)).toNat), vR 182, vI k164.1], (G0, k164.2)) out
      refine R_bind e (fun k167 hk167 e => ?_)
      refine Rn_cv hc rfl rfl (by decide) (ii := xi_217) rfl rfl rfl (tgc_182 : Tg _ = 11) (by decide) rfl (le := [some (vR 182), some (vI ((rom 2).2 (wr (v3 + 1)).toNat)), some (vI ((rom 2).2 (wr (v3 + 2)).toNat)), none, none]) rfl (v := some (vI k167)) (M' := k164.2) (t_217  (d := d + 3) hk167 rfl) ?_
      show Rn rom (d + 9) 221 (823, [some (vS 2), some (vR 1), some (vR 182), some (vI v3), none, none, none, none], [vI k167, vI k164.1], (G0, k164.2)) out
      refine R_ite e (fun b168 e => ?_) (fun b168 e => ?_)
      · refine Rn_icT (tgt := 867) hc rfl rfl (by decide) b168 ?_
        refine Rn_ms (σ' := (18, [some (vS 2), some (vR 1), some (vR 182), some (vI (v3 + 4)), none, none, none, none], [], (G0, k164.2))) hc 2 rfl ?_
        cases e
        exact Rn_weak (xle_s (xle_s (xle_s (xle_s (xle_s (xle_s (xle_s (xle_s xle_0)))))))) hK
      · refine Rn_icF hc rfl rfl (by decide) b168 ?_
        refine Rn_ms (σ' := (827, [some (vS 2), some (vR 1), some (vR 182), some (vI v3), none, none, none, none], [vI 0], (G0, k164.2))) hc 1 rfl ?_
        cases e
        exact R_end (Rn_iret hc rfl rfl (xretB rfl rfl (by decide))) hK
    refine R_ite e (fun b169 e => ?_) (fun b169 e => ?_)
    · refine Rn_tsw (off := 796) (tgt := 828) hc rfl rfl (xsw_at b169 (by decide) (by decide) (by decide) rfl) rfl ?_
      refine Rn_ms (σ' := (829, [some (vS 2), some (vR 1), some (vR 182), some (vI v3), none, none, none, none], [vR 1], (G0, M))) hc 1 rfl ?_
      refine R_bind e (fun k170 hk170 e => ?_)
      refine Rn_cv hc rfl rfl (by decide) (ii := xi_127) rfl rfl rfl (tgc_1 : Tg _ = 10) (by decide) rfl (le := [some (vR 1), none]) rfl (v := some (vI k170.1)) (M' := k170.2) (t_127  (d := d + 3) hk170 rfl) ?_
      refine Rn_ms (σ' := (833, [some (vS 2), some (vR 1), some (vR 182), some (vI v3), none, none, none, none], [vR 182, vI k170.1], (G0, k170.2))) hc 1 rfl ?_
      refine R_bind e (fun k171 hk171 e => ?_)
      refine Rn_cv hc rfl rfl (by decide) (ii := xi_218) rfl rfl rfl (tgc_182 : Tg _ = 11) (by decide) rfl (le := [some (vR 182), none]) rfl (v := some (vI k171.1)) (M' := k171.2) (t_218  (d := d + 8) hk171 rfl) ?_
      show Rn rom (d + 9) 221 (836, [some (vS 2), some (vR 1), some (vR 182), some (vI v3), none, none, none, none], [vI k171.1, vI k170.1], (G0, k171.2)) out
      refine R_ite e (fun b172 e => ?_) (fun b172 e => ?_)
      · refine Rn_icT (tgt := 867) hc rfl rfl (by decide) b172 ?_
        refine Rn_ms (σ' := (18, [some (vS 2), some (vR 1), some (vR 182), some (vI (v3 + 4)), none, none, none, none], [], (G0, k171.2))) hc 2 rfl ?_
        cases e
        exact Rn_weak (xle_s (xle_s (xle_s (xle_s (xle_s (xle_s (xle_s (xle_s xle_0)))))))) hK
      · refine Rn_icF hc rfl rfl (by decide) b172 ?_
        refine Rn_ms (σ' := (840, [some (vS 2), some (vR 1), some (vR 182), some (vI v3), none, none, none, none], [vI 0], (G0, k171.2))) hc 1 rfl ?_
        cases e
        exact R_end (Rn_iret hc rfl rfl (xretB rfl rfl (by decide))) hK
    refine R_ite e (fun b173 e => ?_) (fun b173 e => ?_)
    · refine Rn_tsw (off := 809) (tgt := 841) hc rfl rfl (xsw_at b173 (by decide) (by decide) (by decide) rfl) rfl ?_
      refine Rn_ms (σ' := (842, [some (vS 2), some (vR 1), some (vR 182), some (vI v3), none, none, none, none], [vR 1], (G0, M))) hc 1 rfl ?_
      refine R_bind e (fun k174 hk174 e => ?_)
      refine Rn_cv hc rfl rfl (by decide) (ii := xi_128) rfl rfl rfl (tgc_1 : Tg _ = 10) (by decide) rfl (le := [some (vR 1)]) rfl (v := some (vI k174.1)) (M' := k174.2) (t_128  (d := d + 3) hk174 rfl) ?_
      refine Rn_ms (σ' := (846, [some (vS 2), some (vR 1), some (vR 182), some (vI v3), none, none, none, none], [vR 182, vI k174.1], (G0, k174.2))) hc 1 rfl ?_
      refine R_bind e (fun k175 hk175 e => ?_)
      refine Rn_cv hc rfl rfl (by decide) (ii := xi_219) rfl rfl rfl (tgc_182 : Tg _ = 11) (by decide) rfl (le := [some (vR 182), none]) rfl (v := some (vI k175.1)) (M' := k175.2) (t_219  (d := d + 7) hk175 rfl) ?_
      show Rn rom (d + 9) 221 (849, [some (vS 2), some (vR 1), some (vR 182), some (vI v3), none, none, none, none], [vI k175.1, vI k174.1], (G0, k175.2)) out
      refine R_ite e (fun b176 e => ?_) (fun b176 e => ?_)
      · refine Rn_icT (tgt := 867) hc rfl rfl (by decide) b176 ?_
        refine Rn_ms (σ' := (18, [some (vS 2), some (vR 1), some (vR 182), some (vI (v3 + 4)), none, none, none, none], [], (G0, k175.2))) hc 2 rfl ?_
        cases e
        exact Rn_weak (xle_s (xle_s (xle_s (xle_s (xle_s (xle_s (xle_s (xle_s xle_0)))))))) hK
      · refine Rn_icF hc rfl rfl (by decide) b176 ?_
        refine Rn_ms (σ' := (853, [some (vS 2), some (vR 1), some (vR 182), some (vI v3), none, none, none, none], [vI 0], (G0, k175.2))) hc 1 rfl ?_
        cases e
        exact R_end (Rn_iret hc rfl rfl (xretB rfl rfl (by decide))) hK
    refine R_ite e (fun b177 e => ?_) (fun b177 e => ?_)
    · refine Rn_tsw (off := 822) (tgt := 854) hc rfl rfl (xsw_at b177 (by decide) (by decide) (by decide) rfl) rfl ?_
      refine Rn_ms (σ' := (855, [some (vS 2), some (vR 1), some (vR 182), some (vI v3), none, none, none, none], [vR 1], (G0, M))) hc 1 rfl ?_
      refine R_bind e (fun k178 hk178 e => ?_)
      refine Rn_cv hc rfl rfl (by decide) (ii := xi_129) rfl rfl rfl (tgc_1 : Tg _ = 10) (by decide) rfl (le := [some (vR 1)]) rfl (v := some (vI k178.1)) (M' := k178.2) (t_129  (d := d + 2) hk178 rfl) ?_
      refine Rn_ms (σ' := (859, [some (vS 2), some (vR 1), some (vR 182), some (vI v3), none, none, none, none], [vR 182, vI k178.1], (G0, k178.2))) hc 1 rfl ?_
      refine R_bind e (fun k179 hk179 e => ?_)
      refine Rn_cv hc rfl rfl (by decide) (ii := xi_220) rfl rfl rfl (tgc_182 : Tg _ = 11) (by decide) rfl (le := [some (vR 182), none]) rfl (v := some (vI k179.1)) (M' := k179.2) (t_220  (d := d + 7) hk179 rfl) ?_
      show Rn rom (d + 9) 221 (862, [some (vS 2), some (vR 1), some (vR 182), some (vI v3), none, none, none, none], [vI k179.1, vI k178.1], (G0, k179.2)) out
      refine R_ite e (fun b180 e => ?_) (fun b180 e => ?_)
      · refine Rn_icT (tgt := 867) hc rfl rfl (by decide) b180 ?_
        refine Rn_ms (σ' := (18, [some (vS 2), some (vR 1), some (vR 182), some (vI (v3 + 4)), none, none, none, none], [], (G0, k179.2))) hc 2 rfl ?_
        cases e
        exact Rn_weak (xle_s (xle_s (xle_s (xle_s (xle_s (xle_s (xle_s (xle_s xle_0)))))))) hK
      · refine Rn_icF hc rfl rfl (by decide) b180 ?_
        refine Rn_ms (σ' := (866, [some (vS 2), some (vR 1), some (vR 182), some (vI v3), none, none, none, none], [vI 0], (G0, k179.2))) hc 1 rfl ?_
        cases e
        exact R_end (Rn_iret hc rfl rfl (xretB rfl rfl (by decide))) hK
    refine Rn_tsw (off := 835) (tgt := 867) hc rfl rfl (xsw_df (by omega)) rfl ?_
    refine Rn_ms (σ' := (18, [some (vS 2), some (vR 1), some (vR 182), some (vI (v3 + 4)), none, none, none, none], [], (G0, M))) hc 2 rfl ?_
    cases e
    exact Rn_weak (xle_s (xle_s (xle_s (xle_s (xle_s (xle_s (xle_s (xle_s xle_0)))))))) hK
def f_221_L18 (rom : xRom) (s : Int × xM) : Option (Int × xM) := loop NF (fun s => f_221_L18b rom s.1 s.2) s
set_option maxRecDepth 100000 in
theorem t_221_L18 {rom : xRom} {d : Nat}  {s : Int × xM} {r : Int × xM} {out : Option xV × xH} (e : f_221_L18 rom s = some r) (hK : (eIW out) r) : Rn rom (d + 9) 221 (18, [some (vS 2), some (vR 1), some (vR 182), some (vI s.1), none, none, none, none], [], (G0, s.2)) out := by
  unfold f_221_L18 at e
  revert e hK
  exact R_loop (b := fun s => f_221_L18b rom s.1 s.2) (G := fun s => Rn rom (d + 9) 221 (18, [some (vS 2), some (vR 1), some (vR 182), some (vI s.1), none, none, none, none], [], (G0, s.2)) out) (K := eIW out) (fun s r e hK => t_221_L18b  e hK) NF s r
/-- PedalLayersLaw.law -/
def f_221 (rom : xRom) (M : xM) (i : Int) : Option (Int × xM) :=
  f_221_L18 rom (i, M)
set_option maxRecDepth 100000 in
theorem t_221 {rom : xRom} {d : Nat} {M : xM} {i : Int} {r : Int × xM} {out : Option xV × xH} (e : f_221 rom M i = some r) (hK : eIW out r) : Rn rom (d + 9) 221 (18, [some (vS 2), some (vR 1), some (vR 182), some (vI i), none, none, none, none], [], (G0, M)) out := by
  have hc : xkall.getD 221 [] = xk_221 := rfl
  unfold f_221 at e
  show Rn rom (d + 9) 221 (18, [some (vS 2), some (vR 1), some (vR 182), some (vI i), none, none, none, none], [], (G0, M)) out
  exact Rn_weak (xle_s (xle_s (xle_s (xle_s (xle_s (xle_s (xle_s (xle_s xle_0)))))))) (t_221_L18  e hK)
