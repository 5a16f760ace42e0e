/-! functions for methods, by program (wip/whole/gen/dec.py) -/
def f_195_L41 (M : xM) (c1 : Int) (c2 : Int) (c3 : Int) (s0 : Int) : Option (Int) :=
  if wr s0 = 0 then
    some (-1)
  else
    (f_141 M c1 c2 c3).bind (fun k4 =>
    some (k4)
    )
theorem t_195_L41 {rom : xRom} {d : Nat} {c1 : Int} {c2 : Int} {c3 : Int} {s0 : Int} {M : xM} {r : Int} {out : Option xV × xH} (e : f_195_L41 M c1 c2 c3 s0 = some r) (hK : (eI M out) r) : Rn rom (d + 2) 195 (41, [some (vR 182), some (vI c1), some (vI c2), some (vI c3), none], [vI s0], (G0, M)) out := by
  have hc : xkall.getD 195 [] = xk_195 := rfl
  unfold f_195_L41 at e
  refine Rn_ms (σ' := (45, [some (vR 182), some (vI c1), some (vI c2), some (vI c3), some (vI s0)], [vI s0], (G0, M))) hc 2 rfl ?_
  refine R_ite e (fun b3 e => ?_) (fun b3 e => ?_)
  · refine Rn_ifT (tgt := 58) hc rfl rfl (by decide) b3 ?_
    refine Rn_ms (σ' := (59, [some (vR 182), some (vI c1), some (vI c2), some (vI c3), some (vI s0)], [vI (-1)], (G0, M))) hc 1 rfl ?_
    cases e
    exact R_end (Rn_iret hc rfl rfl (xretI rfl rfl)) hK
  · refine Rn_ifF hc rfl rfl (by decide) b3 ?_
    refine Rn_ms (σ' := (52, [some (vR 182), some (vI c1), some (vI c2), some (vI c3), some (vI s0)], [vI c3, vI c2, vI c1, vR 182], (G0, M))) hc 4 rfl ?_
    refine R_bind e (fun k4 hk4 e => ?_)
    refine Rn_cv hc rfl rfl (by decide) (ii := xi_141) rfl rfl rfl (tgc_182 : Tg _ = 11) (by decide) rfl (le := [some (vR 182), some (vI c1), some (vI c2), some (vI c3)]) rfl (v := some (vI k4)) (M' := M) (t_141  (d := d + 1) hk4 rfl) ?_
    refine Rn_ms (σ' := (59, [some (vR 182), some (vI c1), some (vI c2), some (vI c3), some (vI s0)], [vI k4], (G0, M))) hc 1 rfl ?_
    cases e
    exact R_end (Rn_iret hc rfl rfl (xretI rfl rfl)) hK
def f_195_L40 (M : xM) (c1 : Int) (c2 : Int) (c3 : Int) : Option (Int) :=
  f_195_L41 M c1 c2 c3 0
theorem t_195_L40 {rom : xRom} {d : Nat} {c1 : Int} {c2 : Int} {c3 : Int} {M : xM} {r : Int} {out : Option xV × xH} (e : f_195_L40 M c1 c2 c3 = some r) (hK : (eI M out) r) : Rn rom (d + 2) 195 (40, [some (vR 182), some (vI c1), some (vI c2), some (vI c3), none], [], (G0, M)) out := by
  have hc : xkall.getD 195 [] = xk_195 := rfl
  unfold f_195_L40 at e
  refine Rn_ms (σ' := (41, [some (vR 182), some (vI c1), some (vI c2), some (vI c3), none], [vI 0], (G0, M))) hc 1 rfl ?_
  exact Rn_weak (xle_s (xle_s (xle_s (xle_s (xle_s xle_0))))) (t_195_L41  e hK)
/-- PedalLayersModel.note -/
def f_195 (M : xM) (a1 : Int) (a2 : Int) (a3 : Int) : Option (Int) :=
  (f_145 M a1).bind (fun k1 =>
  if wr k1 = 0 then
    f_195_L40 M a1 a2 a3
  else
    (f_139 M (14 + a1)).bind (fun k5 =>
    if wr (f_138 a2 0 (k5 - 1)) = 0 then
      f_195_L40 M a1 a2 a3
    else
      if wr (f_138 a3 0 35) = 0 then
        f_195_L40 M a1 a2 a3
      else
        f_195_L41 M a1 a2 a3 1
    )
  )
theorem t_195 {rom : xRom} {d : Nat} {M : xM} {a1 : Int} {a2 : Int} {a3 : Int} {r : Int} {out : Option xV × xH} (e : f_195 M a1 a2 a3 = some r) (hK : eI M out r) : Rn rom (d + 2) 195 (0, [some (vR 182), some (vI a1), some (vI a2), some (vI a3), none], [], (G0, M)) out := by
  have hc : xkall.getD 195 [] = xk_195 := rfl
  unfold f_195 at e
  refine Rn_ms (σ' := (2, [some (vR 182), some (vI a1), some (vI a2), some (vI a3), none], [vI a1, vR 182], (G0, M))) hc 2 rfl ?_
  refine R_bind e (fun k1 hk1 e => ?_)
  refine Rn_cv hc rfl rfl (by decide) (ii := xi_145) rfl rfl rfl (tgc_182 : Tg _ = 11) (by decide) rfl (le := [some (vR 182), some (vI a1)]) rfl (v := some (vI k1)) (M' := M) (t_145  (d := d + 0) hk1 rfl) ?_
  show Rn rom (d + 2) 195 (5, [some (vR 182), some (vI a1), some (vI a2), some (vI a3), none], [vI k1], (G0, M)) out
  refine R_ite e (fun b2 e => ?_) (fun b2 e => ?_)
  · refine Rn_ifT (tgt := 40) hc rfl rfl (by decide) b2 ?_
    show Rn rom (d + 2) 195 (40, [some (vR 182), some (vI a1), some (vI a2), some (vI a3), none], [], (G0, M)) out
    exact Rn_weak (xle_s (xle_s (xle_s (xle_s (xle_s xle_0))))) (t_195_L40  e hK)
  · refine Rn_ifF hc rfl rfl (by decide) b2 ?_
    refine Rn_ms (σ' := (15, [some (vR 182), some (vI a1), some (vI a2), some (vI a3), none], [vI (14 + a1), vR 182, vI 0, vI a2], (G0, M))) hc 6 rfl ?_
    refine R_bind e (fun k5 hk5 e => ?_)
    refine Rn_cv hc rfl rfl (by decide) (ii := xi_139) rfl rfl rfl (tgc_182 : Tg _ = 11) (by decide) rfl (le := [some (vR 182), some (vI (14 + a1))]) rfl (v := some (vI k5)) (M' := M) (t_139  (d := d + 1) hk5 rfl) ?_
    refine Rn_ms (σ' := (20, [some (vR 182), some (vI a1), some (vI a2), some (vI a3), none], [vI (k5 - 1), vI 0, vI a2], (G0, M))) hc 2 rfl ?_
    refine Rn_cs hc rfl rfl (by decide) (ii := xi_138) rfl rfl rfl (le := [some (vI a2), some (vI 0), some (vI (k5 - 1))]) rfl (v := some (vI (f_138 a2 0 (k5 - 1)))) (M' := M) (t_138  (d := d + 1) rfl rfl) ?_
    show Rn rom (d + 2) 195 (23, [some (vR 182), some (vI a1), some (vI a2), some (vI a3), none], [vI (f_138 a2 0 (k5 - 1))], (G0, M)) out
    refine R_ite e (fun b6 e => ?_) (fun b6 e => ?_)
    · refine Rn_ifT (tgt := 40) hc rfl rfl (by decide) b6 ?_
      show Rn rom (d + 2) 195 (40, [some (vR 182), some (vI a1), some (vI a2), some (vI a3), none], [], (G0, M)) out
      exact Rn_weak (xle_s (xle_s (xle_s (xle_s (xle_s xle_0))))) (t_195_L40  e hK)
    · refine Rn_ifF hc rfl rfl (by decide) b6 ?_
      refine Rn_ms (σ' := (30, [some (vR 182), some (vI a1), some (vI a2), some (vI a3), none], [vI 35, vI 0, vI a3], (G0, M))) hc 3 rfl ?_
      refine Rn_cs hc rfl rfl (by decide) (ii := xi_138) rfl rfl rfl (le := [some (vI a3), some (vI 0), some (vI 35)]) rfl (v := some (vI (f_138 a3 0 35))) (M' := M) (t_138  (d := d + 1) rfl rfl) ?_
      show Rn rom (d + 2) 195 (33, [some (vR 182), some (vI a1), some (vI a2), some (vI a3), none], [vI (f_138 a3 0 35)], (G0, M)) out
      refine R_ite e (fun b7 e => ?_) (fun b7 e => ?_)
      · refine Rn_ifT (tgt := 40) hc rfl rfl (by decide) b7 ?_
        show Rn rom (d + 2) 195 (40, [some (vR 182), some (vI a1), some (vI a2), some (vI a3), none], [], (G0, M)) out
        exact Rn_weak (xle_s (xle_s (xle_s (xle_s (xle_s xle_0))))) (t_195_L40  e hK)
      · refine Rn_ifF hc rfl rfl (by decide) b7 ?_
        refine Rn_ms (σ' := (41, [some (vR 182), some (vI a1), some (vI a2), some (vI a3), none], [vI 1], (G0, M))) hc 2 rfl ?_
        exact Rn_weak (xle_s (xle_s (xle_s (xle_s (xle_s xle_0))))) (t_195_L41  e hK)
/-- PedalLayersModel.adds -/
def f_196 (M : xM) (a1 : Int) (a2 : Int) (a3 : Int) : Option (Int) :=
  (f_139 M 2).bind (fun k1 =>
  gd (0 ≤ wr (20 + a1) ∧ wr (20 + a1) < 1376) (
  if wr (xlc (M 183 (wr (20 + a1)).toNat) 1) = 0 then
    some (0)
  else
    if wr (a3 + (12 * k1)) < 36 then
      (f_139 M (14 + a1)).bind (fun k5 =>
      gd ((wr k5) ≠ 0) (
      (f_141 M a1 ((wr a2).tmod (wr k5)) (a3 + (12 * k1))).bind (fun k7 =>
      some (k7)
      )))
    else
      some (0)
  ))
theorem t_196 {rom : xRom} {d : Nat} {M : xM} {a1 : Int} {a2 : Int} {a3 : Int} {r : Int} {out : Option xV × xH} (e : f_196 M a1 a2 a3 = some r) (hK : eI M out r) : Rn rom (d + 1) 196 (0, [some (vR 182), some (vI a1), some (vI a2), some (vI a3), none], [], (G0, M)) out := by
  have hc : xkall.getD 196 [] = xk_196 := rfl
  unfold f_196 at e
  refine Rn_ms (σ' := (5, [some (vR 182), some (vI a1), some (vI a2), some (vI a3), none], [vI 2, vR 182, vI 12, vI a3], (G0, M))) hc 4 rfl ?_
  refine R_bind e (fun k1 hk1 e => ?_)
  refine Rn_cv hc rfl rfl (by decide) (ii := xi_139) rfl rfl rfl (tgc_182 : Tg _ = 11) (by decide) rfl (le := [some (vR 182), some (vI 2)]) rfl (v := some (vI k1)) (M' := M) (t_139  (d := d + 0) hk1 rfl) ?_
  refine Rn_ms (σ' := (13, [some (vR 182), some (vI a1), some (vI a2), some (vI a3), some (vI (a3 + (12 * k1)))], [vR 182], (G0, M))) hc 4 rfl ?_
  refine Rn_getR hc rfl tgc_182 (by decide) rfl prc_182_0 ?_
  refine Rn_ms (σ' := (20, [some (vR 182), some (vI a1), some (vI a2), some (vI a3), some (vI (a3 + (12 * k1)))], [vI (20 + a1), vR 183], (G0, M))) hc 3 rfl ?_
  refine R_gd e (fun g2 e => ?_)
  refine Rn_lald hc rfl rfl tgc_183 zsc_183 g2 rfl ?_
  refine Rn_ms (σ' := (23, [some (vR 182), some (vI a1), some (vI a2), some (vI a3), some (vI (a3 + (12 * k1)))], [vI (xlc (M 183 (wr (20 + a1)).toNat) 1)], (G0, M))) hc 2 rfl ?_
  refine R_ite e (fun b3 e => ?_) (fun b3 e => ?_)
  · refine Rn_ifT (tgt := 33) hc rfl rfl (by decide) b3 ?_
    refine Rn_ms (σ' := (54, [some (vR 182), some (vI a1), some (vI a2), some (vI a3), some (vI (a3 + (12 * k1)))], [vI 0], (G0, M))) hc 2 rfl ?_
    cases e
    exact R_end (Rn_iret hc rfl rfl (xretI rfl rfl)) hK
  · refine Rn_ifF hc rfl rfl (by decide) b3 ?_
    refine Rn_ms (σ' := (30, [some (vR 182), some (vI a1), some (vI a2), some (vI a3), some (vI (a3 + (12 * k1)))], [vI 36, vI (a3 + (12 * k1))], (G0, M))) hc 2 rfl ?_
    refine R_ite e (fun b4 e => ?_) (fun b4 e => ?_)
    · refine Rn_icT (tgt := 37) hc rfl rfl (by decide) b4 ?_
      refine Rn_ms (σ' := (45, [some (vR 182), some (vI a1), some (vI a2), some (vI a3), some (vI (a3 + (12 * k1)))], [vI (14 + a1), vR 182, vI a2, vI a1, vR 182], (G0, M))) hc 7 rfl ?_
      refine R_bind e (fun k5 hk5 e => ?_)
      refine Rn_cv hc rfl rfl (by decide) (ii := xi_139) rfl rfl rfl (tgc_182 : Tg _ = 11) (by decide) rfl (le := [some (vR 182), some (vI (14 + a1))]) rfl (v := some (vI k5)) (M' := M) (t_139  (d := d + 0) hk5 rfl) ?_
      show Rn rom (d + 1) 196 (48, [some (vR 182), some (vI a1), some (vI a2), some (vI a3), some (vI (a3 + (12 * k1)))], [vI k5, vI a2, vI a1, vR 182], (G0, M)) out
      refine R_gd e (fun g6 e => ?_)
      refine Rn_rem hc rfl ⟨rfl, rfl⟩ (z' := (wr k5)) rfl g6 ?_
      refine Rn_ms (σ' := (51, [some (vR 182), some (vI a1), some (vI a2), some (vI a3), some (vI (a3 + (12 * k1)))], [vI (a3 + (12 * k1)), vI ((wr a2).tmod (wr k5)), vI a1, vR 182], (G0, M))) hc 1 rfl ?_
      refine R_bind e (fun k7 hk7 e => ?_)
      refine Rn_cv hc rfl rfl (by decide) (ii := xi_141) rfl rfl rfl (tgc_182 : Tg _ = 11) (by decide) rfl (le := [some (vR 182), some (vI a1), some (vI ((wr a2).tmod (wr k5))), some (vI (a3 + (12 * k1)))]) rfl (v := some (vI k7)) (M' := M) (t_141  (d := d + 0) hk7 rfl) ?_
      show Rn rom (d + 1) 196 (54, [some (vR 182), some (vI a1), some (vI a2), some (vI a3), some (vI (a3 + (12 * k1)))], [vI k7], (G0, M)) out
      cases e
      exact R_end (Rn_iret hc rfl rfl (xretI rfl rfl)) hK
    · refine Rn_icF hc rfl rfl (by decide) b4 ?_
      refine Rn_ms (σ' := (54, [some (vR 182), some (vI a1), some (vI a2), some (vI a3), some (vI (a3 + (12 * k1)))], [vI 0], (G0, M))) hc 2 rfl ?_
      cases e
      exact R_end (Rn_iret hc rfl rfl (xretI rfl rfl)) hK
def f_197_L6b (M : xM) (c1 : Int) (c2 : Int) (c3 : Int) (v4 : Int) (v5 : Int) : Option ((Int × Int) ⊕ (Int)) :=
  if wr c1 ≤ wr v5 then
    some (.inr (v4))
  else
    (f_196 M v5 c2 c3).bind (fun k2 =>
    some (.inl ((v4 + k2), (v5 + 1)))
    )
theorem t_197_L6b {rom : xRom} {d : Nat} {c1 : Int} {c2 : Int} {c3 : Int} {v4 : Int} {v5 : Int} {M : xM} {r : (Int × Int) ⊕ (Int)} {out : Option xV × xH} (e : f_197_L6b M c1 c2 c3 v4 v5 = some r) (hK : ((Sum.elim (fun s => Rn rom (d + 2) 197 (6, [some (vR 182), some (vI c1), some (vI c2), some (vI c3), some (vI s.1), some (vI s.2)], [], (G0, M)) out) (eI M out))) r) : Rn rom (d + 2) 197 (6, [some (vR 182), some (vI c1), some (vI c2), some (vI c3), some (vI v4), some (vI v5)], [], (G0, M)) out := by
  have hc : xkall.getD 197 [] = xk_197 := rfl
  unfold f_197_L6b at e
  refine Rn_ms (σ' := (9, [some (vR 182), some (vI c1), some (vI c2), some (vI c3), some (vI v4), some (vI v5)], [vI c1, vI v5], (G0, M))) hc 2 rfl ?_
  refine R_ite e (fun b1 e => ?_) (fun b1 e => ?_)
  · refine Rn_icT (tgt := 31) hc rfl rfl (by decide) b1 ?_
    refine Rn_ms (σ' := (33, [some (vR 182), some (vI c1), some (vI c2), some (vI c3), some (vI v4), some (vI v5)], [vI v4], (G0, M))) hc 1 rfl ?_
    cases e
    exact R_end (Rn_iret hc rfl rfl (xretI rfl rfl)) hK
  · refine Rn_icF hc rfl rfl (by decide) b1 ?_
    refine Rn_ms (σ' := (19, [some (vR 182), some (vI c1), some (vI c2), some (vI c3), some (vI v4), some (vI v5)], [vI c3, vI c2, vI v5, vR 182, vI v4], (G0, M))) hc 5 rfl ?_
    refine R_bind e (fun k2 hk2 e => ?_)
    refine Rn_cv hc rfl rfl (by decide) (ii := xi_196) rfl rfl rfl (tgc_182 : Tg _ = 11) (by decide) rfl (le := [some (vR 182), some (vI v5), some (vI c2), some (vI c3), none]) rfl (v := some (vI k2)) (M' := M) (t_196  (d := d + 0) hk2 rfl) ?_
    refine Rn_ms (σ' := (6, [some (vR 182), some (vI c1), some (vI c2), some (vI c3), some (vI (v4 + k2)), some (vI (v5 + 1))], [], (G0, M))) hc 4 rfl ?_
    cases e
    exact Rn_weak (xle_s (xle_s (xle_s (xle_s (xle_s (xle_s xle_0)))))) hK
def f_197_L6 (M : xM) (c1 : Int) (c2 : Int) (c3 : Int) (s : Int × Int) : Option (Int) := loop NF (fun s => f_197_L6b M c1 c2 c3 s.1 s.2) s
theorem t_197_L6 {rom : xRom} {d : Nat} {c1 : Int} {c2 : Int} {c3 : Int} {M : xM} {s : Int × Int} {r : Int} {out : Option xV × xH} (e : f_197_L6 M c1 c2 c3 s = some r) (hK : (eI M out) r) : Rn rom (d + 2) 197 (6, [some (vR 182), some (vI c1), some (vI c2), some (vI c3), some (vI s.1), some (vI s.2)], [], (G0, M)) out := by
  unfold f_197_L6 at e
  revert e hK
  exact R_loop (b := fun s => f_197_L6b M c1 c2 c3 s.1 s.2) (G := fun s => Rn rom (d + 2) 197 (6, [some (vR 182), some (vI c1), some (vI c2), some (vI c3), some (vI s.1), some (vI s.2)], [], (G0, M)) out) (K := eI M out) (fun s r e hK => t_197_L6b  e hK) NF s r
/-- PedalLayersModel.ringOf -/
def f_197 (M : xM) (a1 : Int) (a2 : Int) (a3 : Int) : Option (Int) :=
  f_197_L6 M a1 a2 a3 (0, 0)
theorem t_197 {rom : xRom} {d : Nat} {M : xM} {a1 : Int} {a2 : Int} {a3 : Int} {r : Int} {out : Option xV × xH} (e : f_197 M a1 a2 a3 = some r) (hK : eI M out r) : Rn rom (d + 2) 197 (0, [some (vR 182), some (vI a1), some (vI a2), some (vI a3), none, none], [], (G0, M)) out := by
  have hc : xkall.getD 197 [] = xk_197 := rfl
  unfold f_197 at e
  refine Rn_ms (σ' := (6, [some (vR 182), some (vI a1), some (vI a2), some (vI a3), some (vI 0), some (vI 0)], [], (G0, M))) hc 4 rfl ?_
  exact Rn_weak (xle_s (xle_s (xle_s (xle_s (xle_s (xle_s xle_0)))))) (t_197_L6  e hK)
def f_198_L5b (M : xM) (c1 : Int) (c2 : Int) (v3 : Int) (v4 : Int) : Option ((Int × Int) ⊕ (Int)) :=
  if 36 ≤ wr v4 then
    some (.inr (v3))
  else
    (f_197 M c1 c2 v4).bind (fun k2 =>
    some (.inl ((v3 + k2), (v4 + 1)))
    )
theorem t_198_L5b {rom : xRom} {d : Nat} {c1 : Int} {c2 : Int} {v3 : Int} {v4 : Int} {M : xM} {r : (Int × Int) ⊕ (Int)} {out : Option xV × xH} (e : f_198_L5b M c1 c2 v3 v4 = some r) (hK : ((Sum.elim (fun s => Rn rom (d + 3) 198 (5, [some (vR 182), some (vI c1), some (vI c2), some (vI s.1), some (vI s.2)], [], (G0, M)) out) (eI M out))) r) : Rn rom (d + 3) 198 (5, [some (vR 182), some (vI c1), some (vI c2), some (vI v3), some (vI v4)], [], (G0, M)) out := by
  have hc : xkall.getD 198 [] = xk_198 := rfl
  unfold f_198_L5b at e
  refine Rn_ms (σ' := (9, [some (vR 182), some (vI c1), some (vI c2), some (vI v3), some (vI v4)], [vI 36, vI v4], (G0, M))) hc 2 rfl ?_
  refine R_ite e (fun b1 e => ?_) (fun b1 e => ?_)
  · refine Rn_icT (tgt := 29) hc rfl rfl (by decide) b1 ?_
    refine Rn_ms (σ' := (30, [some (vR 182), some (vI c1), some (vI c2), some (vI v3), some (vI v4)], [vI v3], (G0, M))) hc 1 rfl ?_
    cases e
    exact R_end (Rn_iret hc rfl rfl (xretI rfl rfl)) hK
  · refine Rn_icF hc rfl rfl (by decide) b1 ?_
    refine Rn_ms (σ' := (18, [some (vR 182), some (vI c1), some (vI c2), some (vI v3), some (vI v4)], [vI v4, vI c2, vI c1, vR 182, vI v3], (G0, M))) hc 5 rfl ?_
    refine R_bind e (fun k2 hk2 e => ?_)
    refine Rn_cv hc rfl rfl (by decide) (ii := xi_197) rfl rfl rfl (tgc_182 : Tg _ = 11) (by decide) rfl (le := [some (vR 182), some (vI c1), some (vI c2), some (vI v4), none, none]) rfl (v := some (vI k2)) (M' := M) (t_197  (d := d + 0) hk2 rfl) ?_
    refine Rn_ms (σ' := (5, [some (vR 182), some (vI c1), some (vI c2), some (vI (v3 + k2)), some (vI (v4 + 1))], [], (G0, M))) hc 4 rfl ?_
    cases e
    exact Rn_weak (xle_s (xle_s (xle_s (xle_s (xle_s xle_0))))) hK
def f_198_L5 (M : xM) (c1 : Int) (c2 : Int) (s : Int × Int) : Option (Int) := loop NF (fun s => f_198_L5b M c1 c2 s.1 s.2) s
theorem t_198_L5 {rom : xRom} {d : Nat} {c1 : Int} {c2 : Int} {M : xM} {s : Int × Int} {r : Int} {out : Option xV × xH} (e : f_198_L5 M c1 c2 s = some r) (hK : (eI M out) r) : Rn rom (d + 3) 198 (5, [some (vR 182), some (vI c1), some (vI c2), some (vI s.1), some (vI s.2)], [], (G0, M)) out := by
  unfold f_198_L5 at e
  revert e hK
  exact R_loop (b := fun s => f_198_L5b M c1 c2 s.1 s.2) (G := fun s => Rn rom (d + 3) 198 (5, [some (vR 182), some (vI c1), some (vI c2), some (vI s.1), some (vI s.2)], [], (G0, M)) out) (K := eI M out) (fun s r e hK => t_198_L5b  e hK) NF s r
/-- PedalLayersModel.sumIn -/
def f_198 (M : xM) (a1 : Int) (a2 : Int) : Option (Int) :=
  f_198_L5 M a1 a2 (0, 0)
theorem t_198 {rom : xRom} {d : Nat} {M : xM} {a1 : Int} {a2 : Int} {r : Int} {out : Option xV × xH} (e : f_198 M a1 a2 = some r) (hK : eI M out r) : Rn rom (d + 3) 198 (0, [some (vR 182), some (vI a1), some (vI a2), none, none], [], (G0, M)) out := by
  have hc : xkall.getD 198 [] = xk_198 := rfl
  unfold f_198 at e
  refine Rn_ms (σ' := (5, [some (vR 182), some (vI a1), some (vI a2), some (vI 0), some (vI 0)], [], (G0, M))) hc 4 rfl ?_
  exact Rn_weak (xle_s (xle_s (xle_s (xle_s (xle_s xle_0))))) (t_198_L5  e hK)
/-- PedalLayersModel.isCell -/
def f_199 (M : xM) (a1 : Int) : Option (Int) :=
  (f_147 M).bind (fun k1 =>
  gd (wr (f_138 a1 0 (k1 - 1)) = 0 ∨ wr (f_138 a1 0 (k1 - 1)) = 1) (
  some (f_138 a1 0 (k1 - 1))
  ))
theorem t_199 {rom : xRom} {d : Nat} {M : xM} {a1 : Int} {r : Int} {out : Option xV × xH} (e : f_199 M a1 = some r) (hK : eI M out r) : Rn rom (d + 3) 199 (0, [some (vR 182), some (vI a1)], [], (G0, M)) out := by
  have hc : xkall.getD 199 [] = xk_199 := rfl
  unfold f_199 at e
  refine Rn_ms (σ' := (3, [some (vR 182), some (vI a1)], [vR 182, vI 0, vI a1], (G0, M))) hc 3 rfl ?_
  refine R_bind e (fun k1 hk1 e => ?_)
  refine Rn_cv hc rfl rfl (by decide) (ii := xi_147) rfl rfl rfl (tgc_182 : Tg _ = 11) (by decide) rfl (le := [some (vR 182)]) rfl (v := some (vI k1)) (M' := M) (t_147  (d := d + 0) hk1 rfl) ?_
  refine Rn_ms (σ' := (8, [some (vR 182), some (vI a1)], [vI (k1 - 1), vI 0, vI a1], (G0, M))) hc 2 rfl ?_
  refine Rn_cs hc rfl rfl (by decide) (ii := xi_138) rfl rfl rfl (le := [some (vI a1), some (vI 0), some (vI (k1 - 1))]) rfl (v := some (vI (f_138 a1 0 (k1 - 1)))) (M' := M) (t_138  (d := d + 2) rfl rfl) ?_
  show Rn rom (d + 3) 199 (11, [some (vR 182), some (vI a1)], [vI (f_138 a1 0 (k1 - 1))], (G0, M)) out
  refine R_gd e (fun g2 e => ?_)
  cases e
  exact R_end (Rn_iret hc rfl rfl (xretB rfl rfl g2)) hK
/-- PedalLayersModel.ring -/
def f_200 (M : xM) (a1 : Int) (a2 : Int) : Option (Int) :=
  (f_199 M a1).bind (fun k1 =>
  if wr k1 = 0 then
    some (-1)
  else
    if wr (f_138 a2 0 35) = 0 then
      some (-1)
    else
      (f_139 M 7).bind (fun k4 =>
      (f_197 M k4 a1 a2).bind (fun k5 =>
      some (k5)
      ))
  )
theorem t_200 {rom : xRom} {d : Nat} {M : xM} {a1 : Int} {a2 : Int} {r : Int} {out : Option xV × xH} (e : f_200 M a1 a2 = some r) (hK : eI M out r) : Rn rom (d + 4) 200 (0, [some (vR 182), some (vI a1), some (vI a2)], [], (G0, M)) out := by
  have hc : xkall.getD 200 [] = xk_200 := rfl
  unfold f_200 at e
  refine Rn_ms (σ' := (2, [some (vR 182), some (vI a1), some (vI a2)], [vI a1, vR 182], (G0, M))) hc 2 rfl ?_
  refine R_bind e (fun k1 hk1 e => ?_)
  refine Rn_cv hc rfl rfl (by decide) (ii := xi_199) rfl rfl rfl (tgc_182 : Tg _ = 11) (by decide) rfl (le := [some (vR 182), some (vI a1)]) rfl (v := some (vI k1)) (M' := M) (t_199  (d := d + 0) hk1 rfl) ?_
  show Rn rom (d + 4) 200 (5, [some (vR 182), some (vI a1), some (vI a2)], [vI k1], (G0, M)) out
  refine R_ite e (fun b2 e => ?_) (fun b2 e => ?_)
  · refine Rn_ifT (tgt := 33) hc rfl rfl (by decide) b2 ?_
    refine Rn_ms (σ' := (34, [some (vR 182), some (vI a1), some (vI a2)], [vI (-1)], (G0, M))) hc 1 rfl ?_
    cases e
    exact R_end (Rn_iret hc rfl rfl (xretI rfl rfl)) hK
  · refine Rn_ifF hc rfl rfl (by decide) b2 ?_
    refine Rn_ms (σ' := (12, [some (vR 182), some (vI a1), some (vI a2)], [vI 35, vI 0, vI a2], (G0, M))) hc 3 rfl ?_
    refine Rn_cs hc rfl rfl (by decide) (ii := xi_138) rfl rfl rfl (le := [some (vI a2), some (vI 0), some (vI 35)]) rfl (v := some (vI (f_138 a2 0 35))) (M' := M) (t_138  (d := d + 3) rfl rfl) ?_
    show Rn rom (d + 4) 200 (15, [some (vR 182), some (vI a1), some (vI a2)], [vI (f_138 a2 0 35)], (G0, M)) out
    refine R_ite e (fun b3 e => ?_) (fun b3 e => ?_)
    · refine Rn_ifT (tgt := 33) hc rfl rfl (by decide) b3 ?_
      refine Rn_ms (σ' := (34, [some (vR 182), some (vI a1), some (vI a2)], [vI (-1)], (G0, M))) hc 1 rfl ?_
      cases e
      exact R_end (Rn_iret hc rfl rfl (xretI rfl rfl)) hK
    · refine Rn_ifF hc rfl rfl (by decide) b3 ?_
      refine Rn_ms (σ' := (22, [some (vR 182), some (vI a1), some (vI a2)], [vI 7, vR 182, vR 182], (G0, M))) hc 3 rfl ?_
      refine R_bind e (fun k4 hk4 e => ?_)
      refine Rn_cv hc rfl rfl (by decide) (ii := xi_139) rfl rfl rfl (tgc_182 : Tg _ = 11) (by decide) rfl (le := [some (vR 182), some (vI 7)]) rfl (v := some (vI k4)) (M' := M) (t_139  (d := d + 3) hk4 rfl) ?_
      refine Rn_ms (σ' := (27, [some (vR 182), some (vI a1), some (vI a2)], [vI a2, vI a1, vI k4, vR 182], (G0, M))) hc 2 rfl ?_
      refine R_bind e (fun k5 hk5 e => ?_)
      refine Rn_cv hc rfl rfl (by decide) (ii := xi_197) rfl rfl rfl (tgc_182 : Tg _ = 11) (by decide) rfl (le := [some (vR 182), some (vI k4), some (vI a1), some (vI a2), none, none]) rfl (v := some (vI k5)) (M' := M) (t_197  (d := d + 1) hk5 rfl) ?_
      refine Rn_ms (σ' := (34, [some (vR 182), some (vI a1), some (vI a2)], [vI k5], (G0, M))) hc 1 rfl ?_
      cases e
      exact R_end (Rn_iret hc rfl rfl (xretI rfl rfl)) hK
def f_201_L114 (M : xM) (c1 : Int) (c2 : Int) (c3 : Int) (c5 : Int) (c6 : Int) (c7 : Int) (s0 : Int) : Option ((Int × Int × Int × Int) ⊕ (Int)) :=
  if wr c7 ≤ wr c5 then
    some (.inl (c3, s0, c5, (c6 + 1)))
  else
    some (.inl (c3, s0, c7, (c6 + 1)))
theorem t_201_L114 {rom : xRom} {d : Nat} {c1 : Int} {c2 : Int} {c3 : Int} {c5 : Int} {c6 : Int} {c7 : Int} {s0 : Int} {M : xM} {r : (Int × Int × Int × Int) ⊕ (Int)} {out : Option xV × xH} (e : f_201_L114 M c1 c2 c3 c5 c6 c7 s0 = some r) (hK : ((Sum.elim (fun s => Rn rom (d + 3) 201 (12, [some (vR 182), some (vI c1), some (vI c2), some (vI s.1), some (vI s.2.1), some (vI s.2.2.1), some (vI s.2.2.2), none, none], [], (G0, M)) out) (eI M out))) r) : Rn rom (d + 3) 201 (114, [some (vR 182), some (vI c1), some (vI c2), some (vI c3), none, some (vI c5), some (vI c6), some (vI c7), none], [vI s0], (G0, M)) out := by
  have hc : xkall.getD 201 [] = xk_201 := rfl
  unfold f_201_L114 at e
  refine Rn_ms (σ' := (120, [some (vR 182), some (vI c1), some (vI c2), some (vI c3), some (vI s0), some (vI c5), some (vI c6), some (vI c7), none], [vI c5, vI c7], (G0, M))) hc 3 rfl ?_
  refine R_ite e (fun b9 e => ?_) (fun b9 e => ?_)
  · refine Rn_icT (tgt := 128) hc rfl rfl (by decide) b9 ?_
    refine Rn_ms (σ' := (12, [some (vR 182), some (vI c1), some (vI c2), some (vI c3), some (vI s0), some (vI c5), some (vI (c6 + 1)), some (vI c7), none], [], (G0, M))) hc 4 rfl ?_
    cases e
    exact Rn_weak (xle_s (xle_s (xle_s (xle_s (xle_s (xle_s (xle_s (xle_n (xle_s xle_0))))))))) hK
  · refine Rn_icF hc rfl rfl (by decide) b9 ?_
    refine Rn_ms (σ' := (12, [some (vR 182), some (vI c1), some (vI c2), some (vI c3), some (vI s0), some (vI c7), some (vI (c6 + 1)), some (vI c7), none], [], (G0, M))) hc 5 rfl ?_
    cases e
    exact Rn_weak (xle_s (xle_s (xle_s (xle_s (xle_s (xle_s (xle_s (xle_n (xle_s xle_0))))))))) hK
def f_201_L100 (M : xM) (c1 : Int) (c2 : Int) (c3 : Int) (c4 : Int) (c5 : Int) (c6 : Int) (c7 : Int) (s0 : Int) : Option ((Int × Int × Int × Int) ⊕ (Int)) :=
  if wr s0 = 0 then
    f_201_L114 M c1 c2 c3 c5 c6 c7 c4
  else
    f_201_L114 M c1 c2 c3 c5 c6 c7 c6
theorem t_201_L100 {rom : xRom} {d : Nat} {c1 : Int} {c2 : Int} {c3 : Int} {c4 : Int} {c5 : Int} {c6 : Int} {c7 : Int} {s0 : Int} {M : xM} {r : (Int × Int × Int × Int) ⊕ (Int)} {out : Option xV × xH} (e : f_201_L100 M c1 c2 c3 c4 c5 c6 c7 s0 = some r) (hK : ((Sum.elim (fun s => Rn rom (d + 3) 201 (12, [some (vR 182), some (vI c1), some (vI c2), some (vI s.1), some (vI s.2.1), some (vI s.2.2.1), some (vI s.2.2.2), none, none], [], (G0, M)) out) (eI M out))) r) : Rn rom (d + 3) 201 (100, [some (vR 182), some (vI c1), some (vI c2), some (vI c3), some (vI c4), some (vI c5), some (vI c6), some (vI c7), none], [vI s0], (G0, M)) out := by
  have hc : xkall.getD 201 [] = xk_201 := rfl
  unfold f_201_L100 at e
  refine Rn_ms (σ' := (104, [some (vR 182), some (vI c1), some (vI c2), some (vI c3), some (vI c4), some (vI c5), some (vI c6), some (vI c7), some (vI s0)], [vI s0], (G0, M))) hc 2 rfl ?_
  refine R_ite e (fun b8 e => ?_) (fun b8 e => ?_)
  · refine Rn_ifT (tgt := 112) hc rfl rfl (by decide) b8 ?_
    refine Rn_ms (σ' := (114, [some (vR 182), some (vI c1), some (vI c2), some (vI c3), some (vI c4), some (vI c5), some (vI c6), some (vI c7), some (vI s0)], [vI c4], (G0, M))) hc 1 rfl ?_
    exact Rn_weak (xle_s (xle_s (xle_s (xle_s (xle_n (xle_s (xle_s (xle_s (xle_n xle_0))))))))) (t_201_L114  e hK)
  · refine Rn_ifF hc rfl rfl (by decide) b8 ?_
    refine Rn_ms (σ' := (114, [some (vR 182), some (vI c1), some (vI c2), some (vI c3), some (vI c4), some (vI c5), some (vI c6), some (vI c7), some (vI s0)], [vI c6], (G0, M))) hc 2 rfl ?_
    exact Rn_weak (xle_s (xle_s (xle_s (xle_s (xle_n (xle_s (xle_s (xle_s (xle_n xle_0))))))))) (t_201_L114  e hK)
def f_201_L84 (M : xM) (c1 : Int) (c2 : Int) (c3 : Int) (c4 : Int) (c5 : Int) (c6 : Int) (c7 : Int) : Option ((Int × Int × Int × Int) ⊕ (Int)) :=
  f_201_L100 M c1 c2 c3 c4 c5 c6 c7 0
theorem t_201_L84 {rom : xRom} {d : Nat} {c1 : Int} {c2 : Int} {c3 : Int} {c4 : Int} {c5 : Int} {c6 : Int} {c7 : Int} {M : xM} {r : (Int × Int × Int × Int) ⊕ (Int)} {out : Option xV × xH} (e : f_201_L84 M c1 c2 c3 c4 c5 c6 c7 = some r) (hK : ((Sum.elim (fun s => Rn rom (d + 3) 201 (12, [some (vR 182), some (vI c1), some (vI c2), some (vI s.1), some (vI s.2.1), some (vI s.2.2.1), some (vI s.2.2.2), none, none], [], (G0, M)) out) (eI M out))) r) : Rn rom (d + 3) 201 (84, [some (vR 182), some (vI c1), some (vI c2), some (vI c3), some (vI c4), some (vI c5), some (vI c6), some (vI c7), none], [], (G0, M)) out := by
  have hc : xkall.getD 201 [] = xk_201 := rfl
  unfold f_201_L84 at e
  refine Rn_ms (σ' := (100, [some (vR 182), some (vI c1), some (vI c2), some (vI c3), some (vI c4), some (vI c5), some (vI c6), some (vI c7), none], [vI 0], (G0, M))) hc 2 rfl ?_
  exact Rn_weak (xle_s (xle_s (xle_s (xle_s (xle_s (xle_s (xle_s (xle_s (xle_s xle_0))))))))) (t_201_L100  e hK)
def f_201_L45 (M : xM) (c1 : Int) (c2 : Int) (c4 : Int) (c5 : Int) (c6 : Int) (c7 : Int) (s0 : Int) (s1 : Int) : Option ((Int × Int × Int × Int) ⊕ (Int)) :=
  if wr c2 = 2 then
    if wr c7 ≤ 0 then
      f_201_L100 M c1 c2 (s0 + s1) c4 c5 c6 c7 0
    else
      f_201_L100 M c1 c2 (s0 + s1) c4 c5 c6 c7 1
  else
    if wr c2 = 3 then
      if wr c7 ≤ 0 then
        f_201_L84 M c1 c2 (s0 + s1) c4 c5 c6 c7
      else
        if 0 ≤ wr c4 then
          f_201_L84 M c1 c2 (s0 + s1) c4 c5 c6 c7
        else
          f_201_L100 M c1 c2 (s0 + s1) c4 c5 c6 c7 1
    else
      if wr c7 ≤ wr c5 then
        f_201_L100 M c1 c2 (s0 + s1) c4 c5 c6 c7 0
      else
        f_201_L100 M c1 c2 (s0 + s1) c4 c5 c6 c7 1
theorem t_201_L45 {rom : xRom} {d : Nat} {c1 : Int} {c2 : Int} {c4 : Int} {c5 : Int} {c6 : Int} {c7 : Int} {s0 : Int} {s1 : Int} {M : xM} {r : (Int × Int × Int × Int) ⊕ (Int)} {out : Option xV × xH} (e : f_201_L45 M c1 c2 c4 c5 c6 c7 s0 s1 = some r) (hK : ((Sum.elim (fun s => Rn rom (d + 3) 201 (12, [some (vR 182), some (vI c1), some (vI c2), some (vI s.1), some (vI s.2.1), some (vI s.2.2.1), some (vI s.2.2.2), none, none], [], (G0, M)) out) (eI M out))) r) : Rn rom (d + 3) 201 (45, [some (vR 182), some (vI c1), some (vI c2), none, some (vI c4), some (vI c5), some (vI c6), some (vI c7), none], [vI s1, vI s0], (G0, M)) out := by
  have hc : xkall.getD 201 [] = xk_201 := rfl
  unfold f_201_L45 at e
  refine Rn_ms (σ' := (49, [some (vR 182), some (vI c1), some (vI c2), some (vI (s0 + s1)), some (vI c4), some (vI c5), some (vI c6), some (vI c7), none], [vI 2, vI c2], (G0, M))) hc 4 rfl ?_
  refine R_ite e (fun b6 e => ?_) (fun b6 e => ?_)
  · refine Rn_icF hc rfl rfl (by decide) (fun w => w b6) ?_
    refine Rn_ms (σ' := (54, [some (vR 182), some (vI c1), some (vI c2), some (vI (s0 + s1)), some (vI c4), some (vI c5), some (vI c6), some (vI c7), none], [vI c7], (G0, M))) hc 1 rfl ?_
    refine R_ite e (fun b7 e => ?_) (fun b7 e => ?_)
    · refine Rn_ifT (tgt := 61) hc rfl rfl (by decide) b7 ?_
      refine Rn_ms (σ' := (100, [some (vR 182), some (vI c1), some (vI c2), some (vI (s0 + s1)), some (vI c4), some (vI c5), some (vI c6), some (vI c7), none], [vI 0], (G0, M))) hc 2 rfl ?_
      exact Rn_weak (xle_s (xle_s (xle_s (xle_s (xle_s (xle_s (xle_s (xle_s (xle_s xle_0))))))))) (t_201_L100  e hK)
    · refine Rn_ifF hc rfl rfl (by decide) b7 ?_
      refine Rn_ms (σ' := (100, [some (vR 182), some (vI c1), some (vI c2), some (vI (s0 + s1)), some (vI c4), some (vI c5), some (vI c6), some (vI c7), none], [vI 1], (G0, M))) hc 2 rfl ?_
      exact Rn_weak (xle_s (xle_s (xle_s (xle_s (xle_s (xle_s (xle_s (xle_s (xle_s xle_0))))))))) (t_201_L100  e hK)
  · refine Rn_icT (tgt := 65) hc rfl rfl (by decide) (fun w => b6 w) ?_
    refine Rn_ms (σ' := (67, [some (vR 182), some (vI c1), some (vI c2), some (vI (s0 + s1)), some (vI c4), some (vI c5), some (vI c6), some (vI c7), none], [vI 3, vI c2], (G0, M))) hc 2 rfl ?_
    refine R_ite e (fun b10 e => ?_) (fun b10 e => ?_)
    · refine Rn_icF hc rfl rfl (by decide) (fun w => w b10) ?_
      refine Rn_ms (σ' := (72, [some (vR 182), some (vI c1), some (vI c2), some (vI (s0 + s1)), some (vI c4), some (vI c5), some (vI c6), some (vI c7), none], [vI c7], (G0, M))) hc 1 rfl ?_
      refine R_ite e (fun b11 e => ?_) (fun b11 e => ?_)
      · refine Rn_ifT (tgt := 84) hc rfl rfl (by decide) b11 ?_
        show Rn rom (d + 3) 201 (84, [some (vR 182), some (vI c1), some (vI c2), some (vI (s0 + s1)), some (vI c4), some (vI c5), some (vI c6), some (vI c7), none], [], (G0, M)) out
        exact Rn_weak (xle_s (xle_s (xle_s (xle_s (xle_s (xle_s (xle_s (xle_s (xle_s xle_0))))))))) (t_201_L84  e hK)
      · refine Rn_ifF hc rfl rfl (by decide) b11 ?_
        refine Rn_ms (σ' := (77, [some (vR 182), some (vI c1), some (vI c2), some (vI (s0 + s1)), some (vI c4), some (vI c5), some (vI c6), some (vI c7), none], [vI c4], (G0, M))) hc 1 rfl ?_
        refine R_ite e (fun b12 e => ?_) (fun b12 e => ?_)
        · refine Rn_ifT (tgt := 84) hc rfl rfl (by decide) b12 ?_
          show Rn rom (d + 3) 201 (84, [some (vR 182), some (vI c1), some (vI c2), some (vI (s0 + s1)), some (vI c4), some (vI c5), some (vI c6), some (vI c7), none], [], (G0, M)) out
          exact Rn_weak (xle_s (xle_s (xle_s (xle_s (xle_s (xle_s (xle_s (xle_s (xle_s xle_0))))))))) (t_201_L84  e hK)
        · refine Rn_ifF hc rfl rfl (by decide) b12 ?_
          refine Rn_ms (σ' := (100, [some (vR 182), some (vI c1), some (vI c2), some (vI (s0 + s1)), some (vI c4), some (vI c5), some (vI c6), some (vI c7), none], [vI 1], (G0, M))) hc 2 rfl ?_
          exact Rn_weak (xle_s (xle_s (xle_s (xle_s (xle_s (xle_s (xle_s (xle_s (xle_s xle_0))))))))) (t_201_L100  e hK)
    · refine Rn_icT (tgt := 88) hc rfl rfl (by decide) (fun w => b10 w) ?_
      refine Rn_ms (σ' := (92, [some (vR 182), some (vI c1), some (vI c2), some (vI (s0 + s1)), some (vI c4), some (vI c5), some (vI c6), some (vI c7), none], [vI c5, vI c7], (G0, M))) hc 2 rfl ?_
      refine R_ite e (fun b13 e => ?_) (fun b13 e => ?_)
      · refine Rn_icT (tgt := 99) hc rfl rfl (by decide) b13 ?_
        refine Rn_ms (σ' := (100, [some (vR 182), some (vI c1), some (vI c2), some (vI (s0 + s1)), some (vI c4), some (vI c5), some (vI c6), some (vI c7), none], [vI 0], (G0, M))) hc 1 rfl ?_
        exact Rn_weak (xle_s (xle_s (xle_s (xle_s (xle_s (xle_s (xle_s (xle_s (xle_s xle_0))))))))) (t_201_L100  e hK)
      · refine Rn_icF hc rfl rfl (by decide) b13 ?_
        refine Rn_ms (σ' := (100, [some (vR 182), some (vI c1), some (vI c2), some (vI (s0 + s1)), some (vI c4), some (vI c5), some (vI c6), some (vI c7), none], [vI 1], (G0, M))) hc 2 rfl ?_
        exact Rn_weak (xle_s (xle_s (xle_s (xle_s (xle_s (xle_s (xle_s (xle_s (xle_s xle_0))))))))) (t_201_L100  e hK)
def f_201_L12b (M : xM) (c1 : Int) (c2 : Int) (v3 : Int) (v4 : Int) (v5 : Int) (v6 : Int) : Option ((Int × Int × Int × Int) ⊕ (Int)) :=
  if 36 ≤ wr v6 then
    if wr c2 = 0 then
      some (.inr (v3))
    else
      some (.inr (v4))
  else
    (f_139 M 7).bind (fun k3 =>
    (f_197 M k3 c1 v6).bind (fun k4 =>
    if wr k4 ≤ 0 then
      f_201_L45 M c1 c2 v4 v5 v6 k4 v3 0
    else
      f_201_L45 M c1 c2 v4 v5 v6 k4 v3 1
    ))
theorem t_201_L12b {rom : xRom} {d : Nat} {c1 : Int} {c2 : Int} {v3 : Int} {v4 : Int} {v5 : Int} {v6 : Int} {M : xM} {r : (Int × Int × Int × Int) ⊕ (Int)} {out : Option xV × xH} (e : f_201_L12b M c1 c2 v3 v4 v5 v6 = some r) (hK : ((Sum.elim (fun s => Rn rom (d + 3) 201 (12, [some (vR 182), some (vI c1), some (vI c2), some (vI s.1), some (vI s.2.1), some (vI s.2.2.1), some (vI s.2.2.2), none, none], [], (G0, M)) out) (eI M out))) r) : Rn rom (d + 3) 201 (12, [some (vR 182), some (vI c1), some (vI c2), some (vI v3), some (vI v4), some (vI v5), some (vI v6), none, none], [], (G0, M)) out := by
  have hc : xkall.getD 201 [] = xk_201 := rfl
  unfold f_201_L12b at e
  refine Rn_ms (σ' := (16, [some (vR 182), some (vI c1), some (vI c2), some (vI v3), some (vI v4), some (vI v5), some (vI v6), none, none], [vI 36, vI v6], (G0, M))) hc 2 rfl ?_
  refine R_ite e (fun b1 e => ?_) (fun b1 e => ?_)
  · refine Rn_icT (tgt := 138) hc rfl rfl (by decide) b1 ?_
    refine Rn_ms (σ' := (139, [some (vR 182), some (vI c1), some (vI c2), some (vI v3), some (vI v4), some (vI v5), some (vI v6), none, none], [vI c2], (G0, M))) hc 1 rfl ?_
    refine R_ite e (fun b2 e => ?_) (fun b2 e => ?_)
    · refine Rn_ifF hc rfl rfl (by decide) (fun w => w b2) ?_
      refine Rn_ms (σ' := (148, [some (vR 182), some (vI c1), some (vI c2), some (vI v3), some (vI v4), some (vI v5), some (vI v6), none, none], [vI v3], (G0, M))) hc 2 rfl ?_
      cases e
      exact R_end (Rn_iret hc rfl rfl (xretI rfl rfl)) hK
    · refine Rn_ifT (tgt := 146) hc rfl rfl (by decide) (fun w => b2 w) ?_
      refine Rn_ms (σ' := (148, [some (vR 182), some (vI c1), some (vI c2), some (vI v3), some (vI v4), some (vI v5), some (vI v6), none, none], [vI v4], (G0, M))) hc 1 rfl ?_
      cases e
      exact R_end (Rn_iret hc rfl rfl (xretI rfl rfl)) hK
  · refine Rn_icF hc rfl rfl (by decide) b1 ?_
    refine Rn_ms (σ' := (23, [some (vR 182), some (vI c1), some (vI c2), some (vI v3), some (vI v4), some (vI v5), some (vI v6), none, none], [vI 7, vR 182, vR 182], (G0, M))) hc 3 rfl ?_
    refine R_bind e (fun k3 hk3 e => ?_)
    refine Rn_cv hc rfl rfl (by decide) (ii := xi_139) rfl rfl rfl (tgc_182 : Tg _ = 11) (by decide) rfl (le := [some (vR 182), some (vI 7)]) rfl (v := some (vI k3)) (M' := M) (t_139  (d := d + 2) hk3 rfl) ?_
    refine Rn_ms (σ' := (29, [some (vR 182), some (vI c1), some (vI c2), some (vI v3), some (vI v4), some (vI v5), some (vI v6), none, none], [vI v6, vI c1, vI k3, vR 182], (G0, M))) hc 2 rfl ?_
    refine R_bind e (fun k4 hk4 e => ?_)
    refine Rn_cv hc rfl rfl (by decide) (ii := xi_197) rfl rfl rfl (tgc_182 : Tg _ = 11) (by decide) rfl (le := [some (vR 182), some (vI k3), some (vI c1), some (vI v6), none, none]) rfl (v := some (vI k4)) (M' := M) (t_197  (d := d + 0) hk4 rfl) ?_
    refine Rn_ms (σ' := (37, [some (vR 182), some (vI c1), some (vI c2), some (vI v3), some (vI v4), some (vI v5), some (vI v6), some (vI k4), none], [vI k4, vI v3], (G0, M))) hc 3 rfl ?_
    refine R_ite e (fun b5 e => ?_) (fun b5 e => ?_)
    · refine Rn_ifT (tgt := 44) hc rfl rfl (by decide) b5 ?_
      refine Rn_ms (σ' := (45, [some (vR 182), some (vI c1), some (vI c2), some (vI v3), some (vI v4), some (vI v5), some (vI v6), some (vI k4), none], [vI 0, vI v3], (G0, M))) hc 1 rfl ?_
      exact Rn_weak (xle_s (xle_s (xle_s (xle_n (xle_s (xle_s (xle_s (xle_s (xle_s xle_0))))))))) (t_201_L45  e hK)
    · refine Rn_ifF hc rfl rfl (by decide) b5 ?_
      refine Rn_ms (σ' := (45, [some (vR 182), some (vI c1), some (vI c2), some (vI v3), some (vI v4), some (vI v5), some (vI v6), some (vI k4), none], [vI 1, vI v3], (G0, M))) hc 2 rfl ?_
      exact Rn_weak (xle_s (xle_s (xle_s (xle_n (xle_s (xle_s (xle_s (xle_s (xle_s xle_0))))))))) (t_201_L45  e hK)
def f_201_L12 (M : xM) (c1 : Int) (c2 : Int) (s : Int × Int × Int × Int) : Option (Int) := loop NF (fun s => f_201_L12b M c1 c2 s.1 s.2.1 s.2.2.1 s.2.2.2) s
theorem t_201_L12 {rom : xRom} {d : Nat} {c1 : Int} {c2 : Int} {M : xM} {s : Int × Int × Int × Int} {r : Int} {out : Option xV × xH} (e : f_201_L12 M c1 c2 s = some r) (hK : (eI M out) r) : Rn rom (d + 3) 201 (12, [some (vR 182), some (vI c1), some (vI c2), some (vI s.1), some (vI s.2.1), some (vI s.2.2.1), some (vI s.2.2.2), none, none], [], (G0, M)) out := by
  unfold f_201_L12 at e
  revert e hK
  exact R_loop (b := fun s => f_201_L12b M c1 c2 s.1 s.2.1 s.2.2.1 s.2.2.2) (G := fun s => Rn rom (d + 3) 201 (12, [some (vR 182), some (vI c1), some (vI c2), some (vI s.1), some (vI s.2.1), some (vI s.2.2.1), some (vI s.2.2.2), none, none], [], (G0, M)) out) (K := eI M out) (fun s r e hK => t_201_L12b  e hK) NF s r
/-- PedalLayersModel.keys -/
def f_201 (M : xM) (a1 : Int) (a2 : Int) : Option (Int) :=
  f_201_L12 M a1 a2 (0, (-4), 0, 0)
theorem t_201 {rom : xRom} {d : Nat} {M : xM} {a1 : Int} {a2 : Int} {r : Int} {out : Option xV × xH} (e : f_201 M a1 a2 = some r) (hK : eI M out r) : Rn rom (d + 3) 201 (0, [some (vR 182), some (vI a1), some (vI a2), none, none, none, none, none, none], [], (G0, M)) out := by
  have hc : xkall.getD 201 [] = xk_201 := rfl
  unfold f_201 at e
  refine Rn_ms (σ' := (12, [some (vR 182), some (vI a1), some (vI a2), some (vI 0), some (vI (-4)), some (vI 0), some (vI 0), none, none], [], (G0, M))) hc 8 rfl ?_
  exact Rn_weak (xle_s (xle_s (xle_s (xle_s (xle_s (xle_s (xle_s (xle_s (xle_s xle_0))))))))) (t_201_L12  e hK)
/-- PedalLayersModel.heard -/
def f_202 (M : xM) (a1 : Int) (a2 : Int) : Option (Int) :=
  (f_199 M a1).bind (fun k1 =>
  if wr k1 = 0 then
    some (-1)
  else
    if wr (f_138 a2 0 4) = 0 then
      some (-1)
    else
      if wr a2 = 1 then
        (f_139 M 7).bind (fun k5 =>
        (f_198 M k5 a1).bind (fun k6 =>
        some (k6)
        ))
      else
        (f_201 M a1 a2).bind (fun k7 =>
        some (k7)
        )
  )
theorem t_202 {rom : xRom} {d : Nat} {M : xM} {a1 : Int} {a2 : Int} {r : Int} {out : Option xV × xH} (e : f_202 M a1 a2 = some r) (hK : eI M out r) : Rn rom (d + 4) 202 (0, [some (vR 182), some (vI a1), some (vI a2)], [], (G0, M)) out := by
  have hc : xkall.getD 202 [] = xk_202 := rfl
  unfold f_202 at e
  refine Rn_ms (σ' := (2, [some (vR 182), some (vI a1), some (vI a2)], [vI a1, vR 182], (G0, M))) hc 2 rfl ?_
  refine R_bind e (fun k1 hk1 e => ?_)
  refine Rn_cv hc rfl rfl (by decide) (ii := xi_199) rfl rfl rfl (tgc_182 : Tg _ = 11) (by decide) rfl (le := [some (vR 182), some (vI a1)]) rfl (v := some (vI k1)) (M' := M) (t_199  (d := d + 0) hk1 rfl) ?_
  show Rn rom (d + 4) 202 (5, [some (vR 182), some (vI a1), some (vI a2)], [vI k1], (G0, M)) out
  refine R_ite e (fun b2 e => ?_) (fun b2 e => ?_)
  · refine Rn_ifT (tgt := 17) hc rfl rfl (by decide) b2 ?_
    refine Rn_ms (σ' := (18, [some (vR 182), some (vI a1), some (vI a2)], [vI (-1)], (G0, M))) hc 1 rfl ?_
    cases e
    exact R_end (Rn_iret hc rfl rfl (xretI rfl rfl)) hK
  · refine Rn_ifF hc rfl rfl (by decide) b2 ?_
    refine Rn_ms (σ' := (11, [some (vR 182), some (vI a1), some (vI a2)], [vI 4, vI 0, vI a2], (G0, M))) hc 3 rfl ?_
    refine Rn_cs hc rfl rfl (by decide) (ii := xi_138) rfl rfl rfl (le := [some (vI a2), some (vI 0), some (vI 4)]) rfl (v := some (vI (f_138 a2 0 4))) (M' := M) (t_138  (d := d + 3) rfl rfl) ?_
    show Rn rom (d + 4) 202 (14, [some (vR 182), some (vI a1), some (vI a2)], [vI (f_138 a2 0 4)], (G0, M)) out
    refine R_ite e (fun b3 e => ?_) (fun b3 e => ?_)
    · refine Rn_ifF hc rfl rfl (by decide) (fun w => w b3) ?_
      refine Rn_ms (σ' := (18, [some (vR 182), some (vI a1), some (vI a2)], [vI (-1)], (G0, M))) hc 1 rfl ?_
      cases e
      exact R_end (Rn_iret hc rfl rfl (xretI rfl rfl)) hK
    · refine Rn_ifT (tgt := 19) hc rfl rfl (by decide) (fun w => b3 w) ?_
      refine Rn_ms (σ' := (21, [some (vR 182), some (vI a1), some (vI a2)], [vI 1, vI a2], (G0, M))) hc 2 rfl ?_
      refine R_ite e (fun b4 e => ?_) (fun b4 e => ?_)
      · refine Rn_icF hc rfl rfl (by decide) (fun w => w b4) ?_
        refine Rn_ms (σ' := (28, [some (vR 182), some (vI a1), some (vI a2)], [vI 7, vR 182, vR 182], (G0, M))) hc 3 rfl ?_
        refine R_bind e (fun k5 hk5 e => ?_)
        refine Rn_cv hc rfl rfl (by decide) (ii := xi_139) rfl rfl rfl (tgc_182 : Tg _ = 11) (by decide) rfl (le := [some (vR 182), some (vI 7)]) rfl (v := some (vI k5)) (M' := M) (t_139  (d := d + 3) hk5 rfl) ?_
        refine Rn_ms (σ' := (32, [some (vR 182), some (vI a1), some (vI a2)], [vI a1, vI k5, vR 182], (G0, M))) hc 1 rfl ?_
        refine R_bind e (fun k6 hk6 e => ?_)
        refine Rn_cv hc rfl rfl (by decide) (ii := xi_198) rfl rfl rfl (tgc_182 : Tg _ = 11) (by decide) rfl (le := [some (vR 182), some (vI k5), some (vI a1), none, none]) rfl (v := some (vI k6)) (M' := M) (t_198  (d := d + 0) hk6 rfl) ?_
        refine Rn_ms (σ' := (44, [some (vR 182), some (vI a1), some (vI a2)], [vI k6], (G0, M))) hc 1 rfl ?_
        cases e
        exact R_end (Rn_iret hc rfl rfl (xretI rfl rfl)) hK
      · refine Rn_icT (tgt := 38) hc rfl rfl (by decide) (fun w => b4 w) ?_
        refine Rn_ms (σ' := (41, [some (vR 182), some (vI a1), some (vI a2)], [vI a2, vI a1, vR 182], (G0, M))) hc 3 rfl ?_
        refine R_bind e (fun k7 hk7 e => ?_)
        refine Rn_cv hc rfl rfl (by decide) (ii := xi_201) rfl rfl rfl (tgc_182 : Tg _ = 11) (by decide) rfl (le := [some (vR 182), some (vI a1), some (vI a2), none, none, none, none, none, none]) rfl (v := some (vI k7)) (M' := M) (t_201  (d := d + 0) hk7 rfl) ?_
        show Rn rom (d + 4) 202 (44, [some (vR 182), some (vI a1), some (vI a2)], [vI k7], (G0, M)) out
        cases e
        exact R_end (Rn_iret hc rfl rfl (xretI rfl rfl)) hK
def f_203_L51 (M : xM) (c2 : Int) (c3 : Int) (c4 : Int) (s0 : Int) : Option ((Int × Int × Int) ⊕ (Int)) :=
  if wr c4 ≤ wr c2 then
    some (.inl (s0, c2, (c3 + 1)))
  else
    some (.inl (s0, c4, (c3 + 1)))
theorem t_203_L51 {rom : xRom} {d : Nat} {c2 : Int} {c3 : Int} {c4 : Int} {s0 : Int} {M : xM} {r : (Int × Int × Int) ⊕ (Int)} {out : Option xV × xH} (e : f_203_L51 M c2 c3 c4 s0 = some r) (hK : ((Sum.elim (fun s => Rn rom (d + 4) 203 (19, [some (vR 182), some (vI s.1), some (vI s.2.1), some (vI s.2.2), none], [], (G0, M)) out) (eI M out))) r) : Rn rom (d + 4) 203 (51, [some (vR 182), none, some (vI c2), some (vI c3), some (vI c4)], [vI s0], (G0, M)) out := by
  have hc : xkall.getD 203 [] = xk_203 := rfl
  unfold f_203_L51 at e
  refine Rn_ms (σ' := (55, [some (vR 182), some (vI s0), some (vI c2), some (vI c3), some (vI c4)], [vI c2, vI c4], (G0, M))) hc 3 rfl ?_
  refine R_ite e (fun b8 e => ?_) (fun b8 e => ?_)
  · refine Rn_icT (tgt := 63) hc rfl rfl (by decide) b8 ?_
    refine Rn_ms (σ' := (19, [some (vR 182), some (vI s0), some (vI c2), some (vI (c3 + 1)), some (vI c4)], [], (G0, M))) hc 4 rfl ?_
    cases e
    exact Rn_weak (xle_s (xle_s (xle_s (xle_s (xle_n xle_0))))) hK
  · refine Rn_icF hc rfl rfl (by decide) b8 ?_
    refine Rn_ms (σ' := (19, [some (vR 182), some (vI s0), some (vI c4), some (vI (c3 + 1)), some (vI c4)], [], (G0, M))) hc 5 rfl ?_
    cases e
    exact Rn_weak (xle_s (xle_s (xle_s (xle_s (xle_n xle_0))))) hK
def f_203_L19b (M : xM) (v1 : Int) (v2 : Int) (v3 : Int) : Option ((Int × Int × Int) ⊕ (Int)) :=
  (f_147 M).bind (fun k3 =>
  if wr k3 ≤ wr v3 then
    some (.inr (v1))
  else
    (f_139 M 7).bind (fun k5 =>
    (f_198 M k5 v3).bind (fun k6 =>
    if wr k6 ≤ wr v2 then
      f_203_L51 M v2 v3 k6 v1
    else
      f_203_L51 M v2 v3 k6 v3
    ))
  )
theorem t_203_L19b {rom : xRom} {d : Nat} {v1 : Int} {v2 : Int} {v3 : Int} {M : xM} {r : (Int × Int × Int) ⊕ (Int)} {out : Option xV × xH} (e : f_203_L19b M v1 v2 v3 = some r) (hK : ((Sum.elim (fun s => Rn rom (d + 4) 203 (19, [some (vR 182), some (vI s.1), some (vI s.2.1), some (vI s.2.2), none], [], (G0, M)) out) (eI M out))) r) : Rn rom (d + 4) 203 (19, [some (vR 182), some (vI v1), some (vI v2), some (vI v3), none], [], (G0, M)) out := by
  have hc : xkall.getD 203 [] = xk_203 := rfl
  unfold f_203_L19b at e
  refine Rn_ms (σ' := (21, [some (vR 182), some (vI v1), some (vI v2), some (vI v3), none], [vR 182, vI v3], (G0, M))) hc 2 rfl ?_
  refine R_bind e (fun k3 hk3 e => ?_)
  refine Rn_cv hc rfl rfl (by decide) (ii := xi_147) rfl rfl rfl (tgc_182 : Tg _ = 11) (by decide) rfl (le := [some (vR 182)]) rfl (v := some (vI k3)) (M' := M) (t_147  (d := d + 1) hk3 rfl) ?_
  show Rn rom (d + 4) 203 (24, [some (vR 182), some (vI v1), some (vI v2), some (vI v3), none], [vI k3, vI v3], (G0, M)) out
  refine R_ite e (fun b4 e => ?_) (fun b4 e => ?_)
  · refine Rn_icT (tgt := 71) hc rfl rfl (by decide) b4 ?_
    refine Rn_ms (σ' := (72, [some (vR 182), some (vI v1), some (vI v2), some (vI v3), none], [vI v1], (G0, M))) hc 1 rfl ?_
    cases e
    exact R_end (Rn_iret hc rfl rfl (xretI rfl rfl)) hK
  · refine Rn_icF hc rfl rfl (by decide) b4 ?_
    refine Rn_ms (σ' := (31, [some (vR 182), some (vI v1), some (vI v2), some (vI v3), none], [vI 7, vR 182, vR 182], (G0, M))) hc 3 rfl ?_
    refine R_bind e (fun k5 hk5 e => ?_)
    refine Rn_cv hc rfl rfl (by decide) (ii := xi_139) rfl rfl rfl (tgc_182 : Tg _ = 11) (by decide) rfl (le := [some (vR 182), some (vI 7)]) rfl (v := some (vI k5)) (M' := M) (t_139  (d := d + 3) hk5 rfl) ?_
    refine Rn_ms (σ' := (35, [some (vR 182), some (vI v1), some (vI v2), some (vI v3), none], [vI v3, vI k5, vR 182], (G0, M))) hc 1 rfl ?_
    refine R_bind e (fun k6 hk6 e => ?_)
    refine Rn_cv hc rfl rfl (by decide) (ii := xi_198) rfl rfl rfl (tgc_182 : Tg _ = 11) (by decide) rfl (le := [some (vR 182), some (vI k5), some (vI v3), none, none]) rfl (v := some (vI k6)) (M' := M) (t_198  (d := d + 0) hk6 rfl) ?_
    refine Rn_ms (σ' := (43, [some (vR 182), some (vI v1), some (vI v2), some (vI v3), some (vI k6)], [vI v2, vI k6], (G0, M))) hc 3 rfl ?_
    refine R_ite e (fun b7 e => ?_) (fun b7 e => ?_)
    · refine Rn_icT (tgt := 50) hc rfl rfl (by decide) b7 ?_
      refine Rn_ms (σ' := (51, [some (vR 182), some (vI v1), some (vI v2), some (vI v3), some (vI k6)], [vI v1], (G0, M))) hc 1 rfl ?_
      exact Rn_weak (xle_s (xle_n (xle_s (xle_s (xle_s xle_0))))) (t_203_L51  e hK)
    · refine Rn_icF hc rfl rfl (by decide) b7 ?_
      refine Rn_ms (σ' := (51, [some (vR 182), some (vI v1), some (vI v2), some (vI v3), some (vI k6)], [vI v3], (G0, M))) hc 2 rfl ?_
      exact Rn_weak (xle_s (xle_n (xle_s (xle_s (xle_s xle_0))))) (t_203_L51  e hK)
def f_203_L19 (M : xM) (s : Int × Int × Int) : Option (Int) := loop NF (fun s => f_203_L19b M s.1 s.2.1 s.2.2) s
theorem t_203_L19 {rom : xRom} {d : Nat}  {M : xM} {s : Int × Int × Int} {r : Int} {out : Option xV × xH} (e : f_203_L19 M s = some r) (hK : (eI M out) r) : Rn rom (d + 4) 203 (19, [some (vR 182), some (vI s.1), some (vI s.2.1), some (vI s.2.2), none], [], (G0, M)) out := by
  unfold f_203_L19 at e
  revert e hK
  exact R_loop (b := fun s => f_203_L19b M s.1 s.2.1 s.2.2) (G := fun s => Rn rom (d + 4) 203 (19, [some (vR 182), some (vI s.1), some (vI s.2.1), some (vI s.2.2), none], [], (G0, M)) out) (K := eI M out) (fun s r e hK => t_203_L19b  e hK) NF s r
/-- PedalLayersModel.loudest -/
def f_203 (M : xM) : Option (Int) :=
  (f_139 M 7).bind (fun k1 =>
  if wr k1 = 0 then
    some (-2)
  else
    f_203_L19 M ((-4), 0, 0)
  )
theorem t_203 {rom : xRom} {d : Nat} {M : xM}  {r : Int} {out : Option xV × xH} (e : f_203 M = some r) (hK : eI M out r) : Rn rom (d + 4) 203 (0, [some (vR 182), none, none, none, none], [], (G0, M)) out := by
  have hc : xkall.getD 203 [] = xk_203 := rfl
  unfold f_203 at e
  refine Rn_ms (σ' := (3, [some (vR 182), none, none, none, none], [vI 7, vR 182], (G0, M))) hc 2 rfl ?_
  refine R_bind e (fun k1 hk1 e => ?_)
  refine Rn_cv hc rfl rfl (by decide) (ii := xi_139) rfl rfl rfl (tgc_182 : Tg _ = 11) (by decide) rfl (le := [some (vR 182), some (vI 7)]) rfl (v := some (vI k1)) (M' := M) (t_139  (d := d + 3) hk1 rfl) ?_
  show Rn rom (d + 4) 203 (6, [some (vR 182), none, none, none, none], [vI k1], (G0, M)) out
  refine R_ite e (fun b2 e => ?_) (fun b2 e => ?_)
  · refine Rn_ifF hc rfl rfl (by decide) (fun w => w b2) ?_
    refine Rn_ms (σ' := (11, [some (vR 182), none, none, none, none], [vI (-2)], (G0, M))) hc 1 rfl ?_
    cases e
    exact R_end (Rn_iret hc rfl rfl (xretI rfl rfl)) hK
  · refine Rn_ifT (tgt := 12) hc rfl rfl (by decide) (fun w => b2 w) ?_
    refine Rn_ms (σ' := (19, [some (vR 182), some (vI (-4)), some (vI 0), some (vI 0), none], [], (G0, M))) hc 6 rfl ?_
    exact Rn_weak (xle_s (xle_s (xle_s (xle_s (xle_s xle_0))))) (t_203_L19  e hK)
def f_204_L4b (M : xM) (c1 : Int) (v2 : Int) (v3 : Int) : Option ((Int × Int) ⊕ (Int)) :=
  (f_147 M).bind (fun k1 =>
  if wr (k1 * 36) ≤ wr v3 then
    some (.inr (v2))
  else
    (f_196 M c1 ((wr v3).tdiv 36) ((wr v3).tmod 36)).bind (fun k3 =>
    if wr k3 ≤ 0 then
      some (.inl ((v2 + 0), (v3 + 1)))
    else
      (f_139 M 7).bind (fun k5 =>
      (f_197 M k5 ((wr v3).tdiv 36) ((wr v3).tmod 36)).bind (fun k6 =>
      if wr k6 ≤ wr (2 * k3) then
        some (.inl ((v2 + 0), (v3 + 1)))
      else
        some (.inl ((v2 + 1), (v3 + 1)))
      ))
    )
  )
theorem t_204_L4b {rom : xRom} {d : Nat} {c1 : Int} {v2 : Int} {v3 : Int} {M : xM} {r : (Int × Int) ⊕ (Int)} {out : Option xV × xH} (e : f_204_L4b M c1 v2 v3 = some r) (hK : ((Sum.elim (fun s => Rn rom (d + 3) 204 (4, [some (vR 182), some (vI c1), some (vI s.1), some (vI s.2), none], [], (G0, M)) out) (eI M out))) r) : Rn rom (d + 3) 204 (4, [some (vR 182), some (vI c1), some (vI v2), some (vI v3), none], [], (G0, M)) out := by
  have hc : xkall.getD 204 [] = xk_204 := rfl
  unfold f_204_L4b at e
  refine Rn_ms (σ' := (6, [some (vR 182), some (vI c1), some (vI v2), some (vI v3), none], [vR 182, vI v3], (G0, M))) hc 2 rfl ?_
  refine R_bind e (fun k1 hk1 e => ?_)
  refine Rn_cv hc rfl rfl (by decide) (ii := xi_147) rfl rfl rfl (tgc_182 : Tg _ = 11) (by decide) rfl (le := [some (vR 182)]) rfl (v := some (vI k1)) (M' := M) (t_147  (d := d + 0) hk1 rfl) ?_
  refine Rn_ms (σ' := (12, [some (vR 182), some (vI c1), some (vI v2), some (vI v3), none], [vI (k1 * 36), vI v3], (G0, M))) hc 2 rfl ?_
  refine R_ite e (fun b2 e => ?_) (fun b2 e => ?_)
  · refine Rn_icT (tgt := 74) hc rfl rfl (by decide) b2 ?_
    refine Rn_ms (σ' := (75, [some (vR 182), some (vI c1), some (vI v2), some (vI v3), none], [vI v2], (G0, M))) hc 1 rfl ?_
    cases e
    exact R_end (Rn_iret hc rfl rfl (xretI rfl rfl)) hK
  · refine Rn_icF hc rfl rfl (by decide) b2 ?_
    refine Rn_ms (σ' := (20, [some (vR 182), some (vI c1), some (vI v2), some (vI v3), none], [vI 36, vI v3, vI c1, vR 182], (G0, M))) hc 4 rfl ?_
    refine Rn_div hc rfl ⟨rfl, rfl⟩ (z' := 36) (by decide) (by decide) ?_
    refine Rn_ms (σ' := (24, [some (vR 182), some (vI c1), some (vI v2), some (vI v3), none], [vI 36, vI v3, vI ((wr v3).tdiv 36), vI c1, vR 182], (G0, M))) hc 2 rfl ?_
    refine Rn_rem hc rfl ⟨rfl, rfl⟩ (z' := 36) (by decide) (by decide) ?_
    show Rn rom (d + 3) 204 (25, [some (vR 182), some (vI c1), some (vI v2), some (vI v3), none], [vI ((wr v3).tmod 36), vI ((wr v3).tdiv 36), vI c1, vR 182], (G0, M)) out
    refine R_bind e (fun k3 hk3 e => ?_)
    refine Rn_cv hc rfl rfl (by decide) (ii := xi_196) rfl rfl rfl (tgc_182 : Tg _ = 11) (by decide) rfl (le := [some (vR 182), some (vI c1), some (vI ((wr v3).tdiv 36)), some (vI ((wr v3).tmod 36)), none]) rfl (v := some (vI k3)) (M' := M) (t_196  (d := d + 1) hk3 rfl) ?_
    refine Rn_ms (σ' := (33, [some (vR 182), some (vI c1), some (vI v2), some (vI v3), some (vI k3)], [vI k3, vI v2], (G0, M))) hc 3 rfl ?_
    refine R_ite e (fun b4 e => ?_) (fun b4 e => ?_)
    · refine Rn_ifT (tgt := 65) hc rfl rfl (by decide) b4 ?_
      refine Rn_ms (σ' := (4, [some (vR 182), some (vI c1), some (vI (v2 + 0)), some (vI (v3 + 1)), some (vI k3)], [], (G0, M))) hc 5 rfl ?_
      cases e
      exact Rn_weak (xle_s (xle_s (xle_s (xle_s (xle_n xle_0))))) hK
    · refine Rn_ifF hc rfl rfl (by decide) b4 ?_
      refine Rn_ms (σ' := (44, [some (vR 182), some (vI c1), some (vI v2), some (vI v3), some (vI k3)], [vI 7, vR 182, vR 182, vI (2 * k3), vI v2], (G0, M))) hc 6 rfl ?_
      refine R_bind e (fun k5 hk5 e => ?_)
      refine Rn_cv hc rfl rfl (by decide) (ii := xi_139) rfl rfl rfl (tgc_182 : Tg _ = 11) (by decide) rfl (le := [some (vR 182), some (vI 7)]) rfl (v := some (vI k5)) (M' := M) (t_139  (d := d + 2) hk5 rfl) ?_
      refine Rn_ms (σ' := (50, [some (vR 182), some (vI c1), some (vI v2), some (vI v3), some (vI k3)], [vI 36, vI v3, vI k5, vR 182, vI (2 * k3), vI v2], (G0, M))) hc 2 rfl ?_
      refine Rn_div hc rfl ⟨rfl, rfl⟩ (z' := 36) (by decide) (by decide) ?_
      refine Rn_ms (σ' := (54, [some (vR 182), some (vI c1), some (vI v2), some (vI v3), some (vI k3)], [vI 36, vI v3, vI ((wr v3).tdiv 36), vI k5, vR 182, vI (2 * k3), vI v2], (G0, M))) hc 2 rfl ?_
      refine Rn_rem hc rfl ⟨rfl, rfl⟩ (z' := 36) (by decide) (by decide) ?_
      show Rn rom (d + 3) 204 (55, [some (vR 182), some (vI c1), some (vI v2), some (vI v3), some (vI k3)], [vI ((wr v3).tmod 36), vI ((wr v3).tdiv 36), vI k5, vR 182, vI (2 * k3), vI v2], (G0, M)) out
      refine R_bind e (fun k6 hk6 e => ?_)
      refine Rn_cv hc rfl rfl (by decide) (ii := xi_197) rfl rfl rfl (tgc_182 : Tg _ = 11) (by decide) rfl (le := [some (vR 182), some (vI k5), some (vI ((wr v3).tdiv 36)), some (vI ((wr v3).tmod 36)), none, none]) rfl (v := some (vI k6)) (M' := M) (t_197  (d := d + 0) hk6 rfl) ?_
      show Rn rom (d + 3) 204 (58, [some (vR 182), some (vI c1), some (vI v2), some (vI v3), some (vI k3)], [vI k6, vI (2 * k3), vI v2], (G0, M)) out
      refine R_ite e (fun b7 e => ?_) (fun b7 e => ?_)
      · refine Rn_icT (tgt := 65) hc rfl rfl (by decide) b7 ?_
        refine Rn_ms (σ' := (4, [some (vR 182), some (vI c1), some (vI (v2 + 0)), some (vI (v3 + 1)), some (vI k3)], [], (G0, M))) hc 5 rfl ?_
        cases e
        exact Rn_weak (xle_s (xle_s (xle_s (xle_s (xle_n xle_0))))) hK
      · refine Rn_icF hc rfl rfl (by decide) b7 ?_
        refine Rn_ms (σ' := (4, [some (vR 182), some (vI c1), some (vI (v2 + 1)), some (vI (v3 + 1)), some (vI k3)], [], (G0, M))) hc 6 rfl ?_
        cases e
        exact Rn_weak (xle_s (xle_s (xle_s (xle_s (xle_n xle_0))))) hK
def f_204_L4 (M : xM) (c1 : Int) (s : Int × Int) : Option (Int) := loop NF (fun s => f_204_L4b M c1 s.1 s.2) s
theorem t_204_L4 {rom : xRom} {d : Nat} {c1 : Int} {M : xM} {s : Int × Int} {r : Int} {out : Option xV × xH} (e : f_204_L4 M c1 s = some r) (hK : (eI M out) r) : Rn rom (d + 3) 204 (4, [some (vR 182), some (vI c1), some (vI s.1), some (vI s.2), none], [], (G0, M)) out := by
  unfold f_204_L4 at e
  revert e hK
  exact R_loop (b := fun s => f_204_L4b M c1 s.1 s.2) (G := fun s => Rn rom (d + 3) 204 (4, [some (vR 182), some (vI c1), some (vI s.1), some (vI s.2), none], [], (G0, M)) out) (K := eI M out) (fun s r e hK => t_204_L4b  e hK) NF s r
/-- PedalLayersModel.buriedOf -/
def f_204 (M : xM) (a1 : Int) : Option (Int) :=
  f_204_L4 M a1 (0, 0)
theorem t_204 {rom : xRom} {d : Nat} {M : xM} {a1 : Int} {r : Int} {out : Option xV × xH} (e : f_204 M a1 = some r) (hK : eI M out r) : Rn rom (d + 3) 204 (0, [some (vR 182), some (vI a1), none, none, none], [], (G0, M)) out := by
  have hc : xkall.getD 204 [] = xk_204 := rfl
  unfold f_204 at e
  refine Rn_ms (σ' := (4, [some (vR 182), some (vI a1), some (vI 0), some (vI 0), none], [], (G0, M))) hc 4 rfl ?_
  exact Rn_weak (xle_s (xle_s (xle_s (xle_s (xle_s xle_0))))) (t_204_L4  e hK)
def f_205_L35 (M : xM) (c2 : Int) (c3 : Int) (c4 : Int) (s0 : Int) : Option ((Int × Int × Int) ⊕ (Int)) :=
  if wr c4 ≤ wr c2 then
    some (.inl (s0, c2, (c3 + 1)))
  else
    some (.inl (s0, c4, (c3 + 1)))
theorem t_205_L35 {rom : xRom} {d : Nat} {c2 : Int} {c3 : Int} {c4 : Int} {s0 : Int} {M : xM} {r : (Int × Int × Int) ⊕ (Int)} {out : Option xV × xH} (e : f_205_L35 M c2 c3 c4 s0 = some r) (hK : ((Sum.elim (fun s => Rn rom (d + 4) 205 (7, [some (vR 182), some (vI s.1), some (vI s.2.1), some (vI s.2.2), none], [], (G0, M)) out) (eI M out))) r) : Rn rom (d + 4) 205 (35, [some (vR 182), none, some (vI c2), some (vI c3), some (vI c4)], [vI s0], (G0, M)) out := by
  have hc : xkall.getD 205 [] = xk_205 := rfl
  unfold f_205_L35 at e
  refine Rn_ms (σ' := (39, [some (vR 182), some (vI s0), some (vI c2), some (vI c3), some (vI c4)], [vI c2, vI c4], (G0, M))) hc 3 rfl ?_
  refine R_ite e (fun b5 e => ?_) (fun b5 e => ?_)
  · refine Rn_icT (tgt := 47) hc rfl rfl (by decide) b5 ?_
    refine Rn_ms (σ' := (7, [some (vR 182), some (vI s0), some (vI c2), some (vI (c3 + 1)), some (vI c4)], [], (G0, M))) hc 4 rfl ?_
    cases e
    exact Rn_weak (xle_s (xle_s (xle_s (xle_s (xle_n xle_0))))) hK
  · refine Rn_icF hc rfl rfl (by decide) b5 ?_
    refine Rn_ms (σ' := (7, [some (vR 182), some (vI s0), some (vI c4), some (vI (c3 + 1)), some (vI c4)], [], (G0, M))) hc 5 rfl ?_
    cases e
    exact Rn_weak (xle_s (xle_s (xle_s (xle_s (xle_n xle_0))))) hK
def f_205_L7b (M : xM) (v1 : Int) (v2 : Int) (v3 : Int) : Option ((Int × Int × Int) ⊕ (Int)) :=
  (f_139 M 7).bind (fun k1 =>
  if wr k1 ≤ wr v3 then
    some (.inr (v1))
  else
    (f_204 M v3).bind (fun k3 =>
    if wr k3 ≤ wr v2 then
      f_205_L35 M v2 v3 k3 v1
    else
      f_205_L35 M v2 v3 k3 v3
    )
  )
theorem t_205_L7b {rom : xRom} {d : Nat} {v1 : Int} {v2 : Int} {v3 : Int} {M : xM} {r : (Int × Int × Int) ⊕ (Int)} {out : Option xV × xH} (e : f_205_L7b M v1 v2 v3 = some r) (hK : ((Sum.elim (fun s => Rn rom (d + 4) 205 (7, [some (vR 182), some (vI s.1), some (vI s.2.1), some (vI s.2.2), none], [], (G0, M)) out) (eI M out))) r) : Rn rom (d + 4) 205 (7, [some (vR 182), some (vI v1), some (vI v2), some (vI v3), none], [], (G0, M)) out := by
  have hc : xkall.getD 205 [] = xk_205 := rfl
  unfold f_205_L7b at e
  refine Rn_ms (σ' := (11, [some (vR 182), some (vI v1), some (vI v2), some (vI v3), none], [vI 7, vR 182, vI v3], (G0, M))) hc 3 rfl ?_
  refine R_bind e (fun k1 hk1 e => ?_)
  refine Rn_cv hc rfl rfl (by decide) (ii := xi_139) rfl rfl rfl (tgc_182 : Tg _ = 11) (by decide) rfl (le := [some (vR 182), some (vI 7)]) rfl (v := some (vI k1)) (M' := M) (t_139  (d := d + 3) hk1 rfl) ?_
  show Rn rom (d + 4) 205 (14, [some (vR 182), some (vI v1), some (vI v2), some (vI v3), none], [vI k1, vI v3], (G0, M)) out
  refine R_ite e (fun b2 e => ?_) (fun b2 e => ?_)
  · refine Rn_icT (tgt := 55) hc rfl rfl (by decide) b2 ?_
    refine Rn_ms (σ' := (56, [some (vR 182), some (vI v1), some (vI v2), some (vI v3), none], [vI v1], (G0, M))) hc 1 rfl ?_
    cases e
    exact R_end (Rn_iret hc rfl rfl (xretI rfl rfl)) hK
  · refine Rn_icF hc rfl rfl (by decide) b2 ?_
    refine Rn_ms (σ' := (19, [some (vR 182), some (vI v1), some (vI v2), some (vI v3), none], [vI v3, vR 182], (G0, M))) hc 2 rfl ?_
    refine R_bind e (fun k3 hk3 e => ?_)
    refine Rn_cv hc rfl rfl (by decide) (ii := xi_204) rfl rfl rfl (tgc_182 : Tg _ = 11) (by decide) rfl (le := [some (vR 182), some (vI v3), none, none, none]) rfl (v := some (vI k3)) (M' := M) (t_204  (d := d + 0) hk3 rfl) ?_
    refine Rn_ms (σ' := (27, [some (vR 182), some (vI v1), some (vI v2), some (vI v3), some (vI k3)], [vI v2, vI k3], (G0, M))) hc 3 rfl ?_
    refine R_ite e (fun b4 e => ?_) (fun b4 e => ?_)
    · refine Rn_icT (tgt := 34) hc rfl rfl (by decide) b4 ?_
      refine Rn_ms (σ' := (35, [some (vR 182), some (vI v1), some (vI v2), some (vI v3), some (vI k3)], [vI v1], (G0, M))) hc 1 rfl ?_
      exact Rn_weak (xle_s (xle_n (xle_s (xle_s (xle_s xle_0))))) (t_205_L35  e hK)
    · refine Rn_icF hc rfl rfl (by decide) b4 ?_
      refine Rn_ms (σ' := (35, [some (vR 182), some (vI v1), some (vI v2), some (vI v3), some (vI k3)], [vI v3], (G0, M))) hc 2 rfl ?_
      exact Rn_weak (xle_s (xle_n (xle_s (xle_s (xle_s xle_0))))) (t_205_L35  e hK)
def f_205_L7 (M : xM) (s : Int × Int × Int) : Option (Int) := loop NF (fun s => f_205_L7b M s.1 s.2.1 s.2.2) s
theorem t_205_L7 {rom : xRom} {d : Nat}  {M : xM} {s : Int × Int × Int} {r : Int} {out : Option xV × xH} (e : f_205_L7 M s = some r) (hK : (eI M out) r) : Rn rom (d + 4) 205 (7, [some (vR 182), some (vI s.1), some (vI s.2.1), some (vI s.2.2), none], [], (G0, M)) out := by
  unfold f_205_L7 at e
  revert e hK
  exact R_loop (b := fun s => f_205_L7b M s.1 s.2.1 s.2.2) (G := fun s => Rn rom (d + 4) 205 (7, [some (vR 182), some (vI s.1), some (vI s.2.1), some (vI s.2.2), none], [], (G0, M)) out) (K := eI M out) (fun s r e hK => t_205_L7b  e hK) NF s r
/-- PedalLayersModel.buried -/
def f_205 (M : xM) : Option (Int) :=
  f_205_L7 M ((-4), 0, 0)
theorem t_205 {rom : xRom} {d : Nat} {M : xM}  {r : Int} {out : Option xV × xH} (e : f_205 M = some r) (hK : eI M out r) : Rn rom (d + 4) 205 (0, [some (vR 182), none, none, none, none], [], (G0, M)) out := by
  have hc : xkall.getD 205 [] = xk_205 := rfl
  unfold f_205 at e
  refine Rn_ms (σ' := (7, [some (vR 182), some (vI (-4)), some (vI 0), some (vI 0), none], [], (G0, M))) hc 6 rfl ?_
  exact Rn_weak (xle_s (xle_s (xle_s (xle_s (xle_s xle_0))))) (t_205_L7  e hK)
def f_206_L40 (M : xM) (c3 : Int) (c4 : Int) (s0 : Int) : Option ((Int × Int × Int) ⊕ (Int)) :=
  (f_147 M).bind (fun k4 =>
  gd ((wr k4) ≠ 0) (
  (f_183 M c4 0 35).bind (fun k6 =>
  some (.inl (s0, ((wr (c3 + 1)).tmod (wr k4)), (k6 + 1)))
  )))
theorem t_206_L40 {rom : xRom} {d : Nat} {c3 : Int} {c4 : Int} {s0 : Int} {M : xM} {r : (Int × Int × Int) ⊕ (Int)} {out : Option xV × xH} (e : f_206_L40 M c3 c4 s0 = some r) (hK : ((Sum.elim (fun s => Rn rom (d + 4) 206 (7, [some (vR 182), none, some (vI s.1), some (vI s.2.1), some (vI s.2.2)], [], (G0, M)) out) (eI M out))) r) : Rn rom (d + 4) 206 (40, [some (vR 182), none, none, some (vI c3), some (vI c4)], [vI s0], (G0, M)) out := by
  have hc : xkall.getD 206 [] = xk_206 := rfl
  unfold f_206_L40 at e
  refine Rn_ms (σ' := (45, [some (vR 182), none, some (vI s0), some (vI c3), some (vI c4)], [vR 182, vI (c3 + 1)], (G0, M))) hc 5 rfl ?_
  refine R_bind e (fun k4 hk4 e => ?_)
  refine Rn_cv hc rfl rfl (by decide) (ii := xi_147) rfl rfl rfl (tgc_182 : Tg _ = 11) (by decide) rfl (le := [some (vR 182)]) rfl (v := some (vI k4)) (M' := M) (t_147  (d := d + 1) hk4 rfl) ?_
  show Rn rom (d + 4) 206 (48, [some (vR 182), none, some (vI s0), some (vI c3), some (vI c4)], [vI k4, vI (c3 + 1)], (G0, M)) out
  refine R_gd e (fun g5 e => ?_)
  refine Rn_rem hc rfl ⟨rfl, rfl⟩ (z' := (wr k4)) rfl g5 ?_
  refine Rn_ms (σ' := (56, [some (vR 182), none, some (vI s0), some (vI ((wr (c3 + 1)).tmod (wr k4))), some (vI c4)], [vI 35, vI 0, vI c4, vR 182], (G0, M))) hc 5 rfl ?_
  refine R_bind e (fun k6 hk6 e => ?_)
  refine Rn_cv hc rfl rfl (by decide) (ii := xi_183) rfl rfl rfl (tgc_182 : Tg _ = 11) (by decide) rfl (le := [some (vR 182), some (vI c4), some (vI 0), some (vI 35), none, none]) rfl (v := some (vI k6)) (M' := M) (t_183  (d := d + 1) hk6 rfl) ?_
  refine Rn_ms (σ' := (7, [some (vR 182), none, some (vI s0), some (vI ((wr (c3 + 1)).tmod (wr k4))), some (vI (k6 + 1))], [], (G0, M))) hc 4 rfl ?_
  cases e
  exact Rn_weak (xle_s (xle_s (xle_s (xle_s (xle_s xle_0))))) hK
def f_206_L39 (M : xM) (c3 : Int) (c4 : Int) : Option ((Int × Int × Int) ⊕ (Int)) :=
  f_206_L40 M c3 c4 0
theorem t_206_L39 {rom : xRom} {d : Nat} {c3 : Int} {c4 : Int} {M : xM} {r : (Int × Int × Int) ⊕ (Int)} {out : Option xV × xH} (e : f_206_L39 M c3 c4 = some r) (hK : ((Sum.elim (fun s => Rn rom (d + 4) 206 (7, [some (vR 182), none, some (vI s.1), some (vI s.2.1), some (vI s.2.2)], [], (G0, M)) out) (eI M out))) r) : Rn rom (d + 4) 206 (39, [some (vR 182), none, none, some (vI c3), some (vI c4)], [], (G0, M)) out := by
  have hc : xkall.getD 206 [] = xk_206 := rfl
  unfold f_206_L39 at e
  refine Rn_ms (σ' := (40, [some (vR 182), none, none, some (vI c3), some (vI c4)], [vI 0], (G0, M))) hc 1 rfl ?_
  exact Rn_weak (xle_s (xle_s (xle_s (xle_s (xle_s xle_0))))) (t_206_L40  e hK)
def f_206_L7b (M : xM) (v2 : Int) (v3 : Int) (v4 : Int) : Option ((Int × Int × Int) ⊕ (Int)) :=
  if wr (M 182 6) ≤ wr v4 then
    gd (wr v2 = 0 ∨ wr v2 = 1) (
    some (.inr (v2))
    )
  else
    if wr v2 = 0 then
      f_206_L39 M v3 v4
    else
      (f_201 M v3 2).bind (fun k7 =>
      (f_184 M v4).bind (fun k8 =>
      if wr k7 = wr k8 then
        f_206_L40 M v3 v4 1
      else
        f_206_L39 M v3 v4
      ))
theorem t_206_L7b {rom : xRom} {d : Nat} {v2 : Int} {v3 : Int} {v4 : Int} {M : xM} {r : (Int × Int × Int) ⊕ (Int)} {out : Option xV × xH} (e : f_206_L7b M v2 v3 v4 = some r) (hK : ((Sum.elim (fun s => Rn rom (d + 4) 206 (7, [some (vR 182), none, some (vI s.1), some (vI s.2.1), some (vI s.2.2)], [], (G0, M)) out) (eI M out))) r) : Rn rom (d + 4) 206 (7, [some (vR 182), none, some (vI v2), some (vI v3), some (vI v4)], [], (G0, M)) out := by
  have hc : xkall.getD 206 [] = xk_206 := rfl
  unfold f_206_L7b at e
  refine Rn_ms (σ' := (10, [some (vR 182), none, some (vI v2), some (vI v3), some (vI v4)], [vR 182, vI v4], (G0, M))) hc 2 rfl ?_
  refine Rn_getI hc rfl tgc_182 (by decide) (by decide) ?_
  show Rn rom (d + 4) 206 (13, [some (vR 182), none, some (vI v2), some (vI v3), some (vI v4)], [vI (M 182 6), vI v4], (G0, M)) out
  refine R_ite e (fun b1 e => ?_) (fun b1 e => ?_)
  · refine Rn_icT (tgt := 66) hc rfl rfl (by decide) b1 ?_
    refine Rn_ms (σ' := (67, [some (vR 182), none, some (vI v2), some (vI v3), some (vI v4)], [vI v2], (G0, M))) hc 1 rfl ?_
    refine R_gd e (fun g2 e => ?_)
    cases e
    exact R_end (Rn_iret hc rfl rfl (xretB rfl rfl g2)) hK
  · refine Rn_icF hc rfl rfl (by decide) b1 ?_
    refine Rn_ms (σ' := (17, [some (vR 182), none, some (vI v2), some (vI v3), some (vI v4)], [vI v2], (G0, M))) hc 1 rfl ?_
    refine R_ite e (fun b3 e => ?_) (fun b3 e => ?_)
    · refine Rn_ifT (tgt := 39) hc rfl rfl (by decide) b3 ?_
      show Rn rom (d + 4) 206 (39, [some (vR 182), none, some (vI v2), some (vI v3), some (vI v4)], [], (G0, M)) out
      exact Rn_weak (xle_s (xle_s (xle_n (xle_s (xle_s xle_0))))) (t_206_L39  e hK)
    · refine Rn_ifF hc rfl rfl (by decide) b3 ?_
      refine Rn_ms (σ' := (23, [some (vR 182), none, some (vI v2), some (vI v3), some (vI v4)], [vI 2, vI v3, vR 182], (G0, M))) hc 3 rfl ?_
      refine R_bind e (fun k7 hk7 e => ?_)
      refine Rn_cv hc rfl rfl (by decide) (ii := xi_201) rfl rfl rfl (tgc_182 : Tg _ = 11) (by decide) rfl (le := [some (vR 182), some (vI v3), some (vI 2), none, none, none, none, none, none]) rfl (v := some (vI k7)) (M' := M) (t_201  (d := d + 0) hk7 rfl) ?_
      refine Rn_ms (σ' := (29, [some (vR 182), none, some (vI v2), some (vI v3), some (vI v4)], [vI v4, vR 182, vI k7], (G0, M))) hc 2 rfl ?_
      refine R_bind e (fun k8 hk8 e => ?_)
      refine Rn_cv hc rfl rfl (by decide) (ii := xi_184) rfl rfl rfl (tgc_182 : Tg _ = 11) (by decide) rfl (le := [some (vR 182), some (vI v4), none, none]) rfl (v := some (vI k8)) (M' := M) (t_184  (d := d + 1) hk8 rfl) ?_
      show Rn rom (d + 4) 206 (32, [some (vR 182), none, some (vI v2), some (vI v3), some (vI v4)], [vI k8, vI k7], (G0, M)) out
      refine R_ite e (fun b9 e => ?_) (fun b9 e => ?_)
      · refine Rn_icF hc rfl rfl (by decide) (fun w => w b9) ?_
        refine Rn_ms (σ' := (40, [some (vR 182), none, some (vI v2), some (vI v3), some (vI v4)], [vI 1], (G0, M))) hc 2 rfl ?_
        exact Rn_weak (xle_s (xle_s (xle_n (xle_s (xle_s xle_0))))) (t_206_L40  e hK)
      · refine Rn_icT (tgt := 39) hc rfl rfl (by decide) (fun w => b9 w) ?_
        show Rn rom (d + 4) 206 (39, [some (vR 182), none, some (vI v2), some (vI v3), some (vI v4)], [], (G0, M)) out
        exact Rn_weak (xle_s (xle_s (xle_n (xle_s (xle_s xle_0))))) (t_206_L39  e hK)
def f_206_L7 (M : xM) (s : Int × Int × Int) : Option (Int) := loop NF (fun s => f_206_L7b M s.1 s.2.1 s.2.2) s
theorem t_206_L7 {rom : xRom} {d : Nat}  {M : xM} {s : Int × Int × Int} {r : Int} {out : Option xV × xH} (e : f_206_L7 M s = some r) (hK : (eI M out) r) : Rn rom (d + 4) 206 (7, [some (vR 182), none, some (vI s.1), some (vI s.2.1), some (vI s.2.2)], [], (G0, M)) out := by
  unfold f_206_L7 at e
  revert e hK
  exact R_loop (b := fun s => f_206_L7b M s.1 s.2.1 s.2.2) (G := fun s => Rn rom (d + 4) 206 (7, [some (vR 182), none, some (vI s.1), some (vI s.2.1), some (vI s.2.2)], [], (G0, M)) out) (K := eI M out) (fun s r e hK => t_206_L7b  e hK) NF s r
/-- PedalLayersModel.comesAt -/
def f_206 (M : xM) (a1 : Int) : Option (Int) :=
  f_206_L7 M (1, a1, 0)
theorem t_206 {rom : xRom} {d : Nat} {M : xM} {a1 : Int} {r : Int} {out : Option xV × xH} (e : f_206 M a1 = some r) (hK : eI M out r) : Rn rom (d + 4) 206 (0, [some (vR 182), some (vI a1), none, none, none], [], (G0, M)) out := by
  have hc : xkall.getD 206 [] = xk_206 := rfl
  unfold f_206 at e
  refine Rn_ms (σ' := (7, [some (vR 182), some (vI a1), some (vI 1), some (vI a1), some (vI 0)], [], (G0, M))) hc 6 rfl ?_
  exact Rn_weak (xle_s (xle_n (xle_s (xle_s (xle_s xle_0))))) (t_206_L7  e hK)
def f_207_L26b (M : xM) (v1 : Int) (v2 : Int) : Option ((Int × Int) ⊕ (Int)) :=
  (f_147 M).bind (fun k5 =>
  if wr k5 ≤ wr v2 then
    some (.inr (v1))
  else
    (f_206 M v2).bind (fun k7 =>
    if wr k7 = 0 then
      some (.inl ((v1 + 0), (v2 + 1)))
    else
      some (.inl ((v1 + 1), (v2 + 1)))
    )
  )
theorem t_207_L26b {rom : xRom} {d : Nat} {v1 : Int} {v2 : Int} {M : xM} {r : (Int × Int) ⊕ (Int)} {out : Option xV × xH} (e : f_207_L26b M v1 v2 = some r) (hK : ((Sum.elim (fun s => Rn rom (d + 5) 207 (26, [some (vR 182), some (vI s.1), some (vI s.2)], [], (G0, M)) out) (eI M out))) r) : Rn rom (d + 5) 207 (26, [some (vR 182), some (vI v1), some (vI v2)], [], (G0, M)) out := by
  have hc : xkall.getD 207 [] = xk_207 := rfl
  unfold f_207_L26b at e
  refine Rn_ms (σ' := (28, [some (vR 182), some (vI v1), some (vI v2)], [vR 182, vI v2], (G0, M))) hc 2 rfl ?_
  refine R_bind e (fun k5 hk5 e => ?_)
  refine Rn_cv hc rfl rfl (by decide) (ii := xi_147) rfl rfl rfl (tgc_182 : Tg _ = 11) (by decide) rfl (le := [some (vR 182)]) rfl (v := some (vI k5)) (M' := M) (t_147  (d := d + 2) hk5 rfl) ?_
  show Rn rom (d + 5) 207 (31, [some (vR 182), some (vI v1), some (vI v2)], [vI k5, vI v2], (G0, M)) out
  refine R_ite e (fun b6 e => ?_) (fun b6 e => ?_)
  · refine Rn_icT (tgt := 56) hc rfl rfl (by decide) b6 ?_
    refine Rn_ms (σ' := (57, [some (vR 182), some (vI v1), some (vI v2)], [vI v1], (G0, M))) hc 1 rfl ?_
    cases e
    exact R_end (Rn_iret hc rfl rfl (xretI rfl rfl)) hK
  · refine Rn_icF hc rfl rfl (by decide) b6 ?_
    refine Rn_ms (σ' := (37, [some (vR 182), some (vI v1), some (vI v2)], [vI v2, vR 182, vI v1], (G0, M))) hc 3 rfl ?_
    refine R_bind e (fun k7 hk7 e => ?_)
    refine Rn_cv hc rfl rfl (by decide) (ii := xi_206) rfl rfl rfl (tgc_182 : Tg _ = 11) (by decide) rfl (le := [some (vR 182), some (vI v2), none, none, none]) rfl (v := some (vI k7)) (M' := M) (t_206  (d := d + 0) hk7 rfl) ?_
    show Rn rom (d + 5) 207 (40, [some (vR 182), some (vI v1), some (vI v2)], [vI k7, vI v1], (G0, M)) out
    refine R_ite e (fun b8 e => ?_) (fun b8 e => ?_)
    · refine Rn_ifT (tgt := 47) hc rfl rfl (by decide) b8 ?_
      refine Rn_ms (σ' := (26, [some (vR 182), some (vI (v1 + 0)), some (vI (v2 + 1))], [], (G0, M))) hc 5 rfl ?_
      cases e
      exact Rn_weak (xle_s (xle_s (xle_s xle_0))) hK
    · refine Rn_ifF hc rfl rfl (by decide) b8 ?_
      refine Rn_ms (σ' := (26, [some (vR 182), some (vI (v1 + 1)), some (vI (v2 + 1))], [], (G0, M))) hc 6 rfl ?_
      cases e
      exact Rn_weak (xle_s (xle_s (xle_s xle_0))) hK
def f_207_L26 (M : xM) (s : Int × Int) : Option (Int) := loop NF (fun s => f_207_L26b M s.1 s.2) s
theorem t_207_L26 {rom : xRom} {d : Nat}  {M : xM} {s : Int × Int} {r : Int} {out : Option xV × xH} (e : f_207_L26 M s = some r) (hK : (eI M out) r) : Rn rom (d + 5) 207 (26, [some (vR 182), some (vI s.1), some (vI s.2)], [], (G0, M)) out := by
  unfold f_207_L26 at e
  revert e hK
  exact R_loop (b := fun s => f_207_L26b M s.1 s.2) (G := fun s => Rn rom (d + 5) 207 (26, [some (vR 182), some (vI s.1), some (vI s.2)], [], (G0, M)) out) (K := eI M out) (fun s r e hK => t_207_L26b  e hK) NF s r
/-- PedalLayersModel.tunes -/
def f_207 (M : xM) : Option (Int) :=
  (f_187 M 1).bind (fun k1 =>
  if wr k1 = (-4) then
    (f_139 M 7).bind (fun k3 =>
    if wr k3 = 0 then
      some (-2)
    else
      f_207_L26 M (0, 0)
    )
  else
    some (-2)
  )
theorem t_207 {rom : xRom} {d : Nat} {M : xM}  {r : Int} {out : Option xV × xH} (e : f_207 M = some r) (hK : eI M out r) : Rn rom (d + 5) 207 (0, [some (vR 182), none, none], [], (G0, M)) out := by
  have hc : xkall.getD 207 [] = xk_207 := rfl
  unfold f_207 at e
  refine Rn_ms (σ' := (2, [some (vR 182), none, none], [vI 1, vR 182], (G0, M))) hc 2 rfl ?_
  refine R_bind e (fun k1 hk1 e => ?_)
  refine Rn_cv hc rfl rfl (by decide) (ii := xi_187) rfl rfl rfl (tgc_182 : Tg _ = 11) (by decide) rfl (le := [some (vR 182), some (vI 1), none, none, none]) rfl (v := some (vI k1)) (M' := M) (t_187  (d := d + 0) hk1 rfl) ?_
  refine Rn_ms (σ' := (7, [some (vR 182), none, none], [vI (-4), vI k1], (G0, M))) hc 1 rfl ?_
  refine R_ite e (fun b2 e => ?_) (fun b2 e => ?_)
  · refine Rn_icF hc rfl rfl (by decide) (fun w => w b2) ?_
    refine Rn_ms (σ' := (13, [some (vR 182), none, none], [vI 7, vR 182], (G0, M))) hc 2 rfl ?_
    refine R_bind e (fun k3 hk3 e => ?_)
    refine Rn_cv hc rfl rfl (by decide) (ii := xi_139) rfl rfl rfl (tgc_182 : Tg _ = 11) (by decide) rfl (le := [some (vR 182), some (vI 7)]) rfl (v := some (vI k3)) (M' := M) (t_139  (d := d + 4) hk3 rfl) ?_
    show Rn rom (d + 5) 207 (16, [some (vR 182), none, none], [vI k3], (G0, M)) out
    refine R_ite e (fun b4 e => ?_) (fun b4 e => ?_)
    · refine Rn_ifF hc rfl rfl (by decide) (fun w => w b4) ?_
      refine Rn_ms (σ' := (21, [some (vR 182), none, none], [vI (-2)], (G0, M))) hc 1 rfl ?_
      cases e
      exact R_end (Rn_iret hc rfl rfl (xretI rfl rfl)) hK
    · refine Rn_ifT (tgt := 22) hc rfl rfl (by decide) (fun w => b4 w) ?_
      refine Rn_ms (σ' := (26, [some (vR 182), some (vI 0), some (vI 0)], [], (G0, M))) hc 4 rfl ?_
      exact Rn_weak (xle_s (xle_s (xle_s xle_0))) (t_207_L26  e hK)
  · refine Rn_icT (tgt := 19) hc rfl rfl (by decide) (fun w => b2 w) ?_
    refine Rn_ms (σ' := (21, [some (vR 182), none, none], [vI (-2)], (G0, M))) hc 1 rfl ?_
    cases e
    exact R_end (Rn_iret hc rfl rfl (xretI rfl rfl)) hK
def f_208_L183 (M : xM) (c1 : Int) : Option (Int) :=
  (f_139 M ((3 + c1) - 10)).bind (fun k29 =>
  some (k29)
  )
theorem t_208_L183 {rom : xRom} {d : Nat} {c1 : Int} {M : xM} {r : Int} {out : Option xV × xH} (e : f_208_L183 M c1 = some r) (hK : (eI M out) r) : Rn rom (d + 3) 208 (183, [some (vR 182), some (vI c1)], [], (G0, M)) out := by
  have hc : xkall.getD 208 [] = xk_208 := rfl
  unfold f_208_L183 at e
  refine Rn_ms (σ' := (190, [some (vR 182), some (vI c1)], [vI ((3 + c1) - 10), vR 182], (G0, M))) hc 6 rfl ?_
  refine R_bind e (fun k29 hk29 e => ?_)
  refine Rn_cv hc rfl rfl (by decide) (ii := xi_139) rfl rfl rfl (tgc_182 : Tg _ = 11) (by decide) rfl (le := [some (vR 182), some (vI ((3 + c1) - 10))]) rfl (v := some (vI k29)) (M' := M) (t_139  (d := d + 2) hk29 rfl) ?_
  show Rn rom (d + 3) 208 (193, [some (vR 182), some (vI c1)], [vI k29], (G0, M)) out
  cases e
  exact R_end (Rn_iret hc rfl rfl (xretI rfl rfl)) hK
/-- PedalLayersModel.count -/
def f_208 (M : xM) (a1 : Int) : Option (Int) :=
  if wr a1 = 0 then
    (f_139 M 0).bind (fun k2 =>
    some (k2)
    )
  else
  if wr a1 = 1 then
    (f_147 M).bind (fun k4 =>
    some (k4)
    )
  else
  if wr a1 = 2 then
    (f_139 M 7).bind (fun k6 =>
    if wr k6 = 0 then
      some (0)
    else
      (f_139 M 6).bind (fun k8 =>
      some (k8)
      )
    )
  else
  if wr a1 = 3 then
    (f_139 M 7).bind (fun k10 =>
    some (k10)
    )
  else
  if wr a1 = 4 then
    (f_139 M 8).bind (fun k12 =>
    some (k12)
    )
  else
  if wr a1 = 5 then
    (f_139 M 0).bind (fun k14 =>
    if wr k14 = 2 then
      (f_139 M 1).bind (fun k16 =>
      some (k16)
      )
    else
      (f_139 M 0).bind (fun k17 =>
      if wr k17 = 3 then
        (f_139 M 1).bind (fun k19 =>
        some (k19)
        )
      else
        some (0)
      )
    )
  else
  if wr a1 = 6 then
    (f_139 M 9).bind (fun k21 =>
    some (k21)
    )
  else
  if wr a1 = 7 then
    (f_139 M 11).bind (fun k23 =>
    some (k23)
    )
  else
  if wr a1 = 8 then
    (f_193 M 6 48 1).bind (fun k25 =>
    some (k25)
    )
  else
  if wr a1 = 9 then
    (f_139 M 2).bind (fun k27 =>
    some (k27)
    )
  else
  if wr a1 = 10 then
    f_208_L183 M a1
  else
  if wr a1 = 11 then
    f_208_L183 M a1
  else
  if wr a1 = 12 then
    f_208_L183 M a1
  else
  if wr a1 = 13 then
    some (M 182 6)
  else
  if wr a1 = 14 then
    some (M 182 2)
  else
  if wr a1 = 15 then
    (f_139 M 13).bind (fun k35 =>
    some (k35)
    )
  else
  some (-1)
theorem t_208 {rom : xRom} {d : Nat} {M : xM} {a1 : Int} {r : Int} {out : Option xV × xH} (e : f_208 M a1 = some r) (hK : eI M out r) : Rn rom (d + 3) 208 (0, [some (vR 182), some (vI a1)], [], (G0, M)) out := by
  have hc : xkall.getD 208 [] = xk_208 := rfl
  unfold f_208 at e
  refine Rn_ms (σ' := (1, [some (vR 182), some (vI a1)], [vI a1], (G0, M))) hc 1 rfl ?_
  refine R_ite e (fun b1 e => ?_) (fun b1 e => ?_)
  · refine Rn_tsw (off := 79) (tgt := 80) hc rfl rfl (xsw_at b1 (by decide) (by decide) (by decide) rfl) rfl ?_
    refine Rn_ms (σ' := (82, [some (vR 182), some (vI a1)], [vI 0, vR 182], (G0, M))) hc 2 rfl ?_
    refine R_bind e (fun k2 hk2 e => ?_)
    refine Rn_cv hc rfl rfl (by decide) (ii := xi_139) rfl rfl rfl (tgc_182 : Tg _ = 11) (by decide) rfl (le := [some (vR 182), some (vI 0)]) rfl (v := some (vI k2)) (M' := M) (t_139  (d := d + 2) hk2 rfl) ?_
    show Rn rom (d + 3) 208 (85, [some (vR 182), some (vI a1)], [vI k2], (G0, M)) out
    cases e
    exact R_end (Rn_iret hc rfl rfl (xretI rfl rfl)) hK
  refine R_ite e (fun b3 e => ?_) (fun b3 e => ?_)
  · refine Rn_tsw (off := 85) (tgt := 86) hc rfl rfl (xsw_at b3 (by decide) (by decide) (by decide) rfl) rfl ?_
    refine Rn_ms (σ' := (87, [some (vR 182), some (vI a1)], [vR 182], (G0, M))) hc 1 rfl ?_
    refine R_bind e (fun k4 hk4 e => ?_)
    refine Rn_cv hc rfl rfl (by decide) (ii := xi_147) rfl rfl rfl (tgc_182 : Tg _ = 11) (by decide) rfl (le := [some (vR 182)]) rfl (v := some (vI k4)) (M' := M) (t_147  (d := d + 0) hk4 rfl) ?_
    show Rn rom (d + 3) 208 (90, [some (vR 182), some (vI a1)], [vI k4], (G0, M)) out
    cases e
    exact R_end (Rn_iret hc rfl rfl (xretI rfl rfl)) hK
  refine R_ite e (fun b5 e => ?_) (fun b5 e => ?_)
  · refine Rn_tsw (off := 90) (tgt := 91) hc rfl rfl (xsw_at b5 (by decide) (by decide) (by decide) rfl) rfl ?_
    refine Rn_ms (σ' := (94, [some (vR 182), some (vI a1)], [vI 7, vR 182], (G0, M))) hc 2 rfl ?_
    refine R_bind e (fun k6 hk6 e => ?_)
    refine Rn_cv hc rfl rfl (by decide) (ii := xi_139) rfl rfl rfl (tgc_182 : Tg _ = 11) (by decide) rfl (le := [some (vR 182), some (vI 7)]) rfl (v := some (vI k6)) (M' := M) (t_139  (d := d + 2) hk6 rfl) ?_
    show Rn rom (d + 3) 208 (97, [some (vR 182), some (vI a1)], [vI k6], (G0, M)) out
    refine R_ite e (fun b7 e => ?_) (fun b7 e => ?_)
    · refine Rn_ifF hc rfl rfl (by decide) (fun w => w b7) ?_
      refine Rn_ms (σ' := (110, [some (vR 182), some (vI a1)], [vI 0], (G0, M))) hc 2 rfl ?_
      cases e
      exact R_end (Rn_iret hc rfl rfl (xretI rfl rfl)) hK
    · refine Rn_ifT (tgt := 104) hc rfl rfl (by decide) (fun w => b7 w) ?_
      refine Rn_ms (σ' := (107, [some (vR 182), some (vI a1)], [vI 6, vR 182], (G0, M))) hc 2 rfl ?_
      refine R_bind e (fun k8 hk8 e => ?_)
      refine Rn_cv hc rfl rfl (by decide) (ii := xi_139) rfl rfl rfl (tgc_182 : Tg _ = 11) (by decide) rfl (le := [some (vR 182), some (vI 6)]) rfl (v := some (vI k8)) (M' := M) (t_139  (d := d + 2) hk8 rfl) ?_
      show Rn rom (d + 3) 208 (110, [some (vR 182), some (vI a1)], [vI k8], (G0, M)) out
      cases e
      exact R_end (Rn_iret hc rfl rfl (xretI rfl rfl)) hK
  refine R_ite e (fun b9 e => ?_) (fun b9 e => ?_)
  · refine Rn_tsw (off := 110) (tgt := 111) hc rfl rfl (xsw_at b9 (by decide) (by decide) (by decide) rfl) rfl ?_
    refine Rn_ms (σ' := (114, [some (vR 182), some (vI a1)], [vI 7, vR 182], (G0, M))) hc 2 rfl ?_
    refine R_bind e (fun k10 hk10 e => ?_)
    refine Rn_cv hc rfl rfl (by decide) (ii := xi_139) rfl rfl rfl (tgc_182 : Tg _ = 11) (by decide) rfl (le := [some (vR 182), some (vI 7)]) rfl (v := some (vI k10)) (M' := M) (t_139  (d := d + 2) hk10 rfl) ?_
    show Rn rom (d + 3) 208 (117, [some (vR 182), some (vI a1)], [vI k10], (G0, M)) out
    cases e
    exact R_end (Rn_iret hc rfl rfl (xretI rfl rfl)) hK
  refine R_ite e (fun b11 e => ?_) (fun b11 e => ?_)
  · refine Rn_tsw (off := 117) (tgt := 118) hc rfl rfl (xsw_at b11 (by decide) (by decide) (by decide) rfl) rfl ?_
    refine Rn_ms (σ' := (121, [some (vR 182), some (vI a1)], [vI 8, vR 182], (G0, M))) hc 2 rfl ?_
    refine R_bind e (fun k12 hk12 e => ?_)
    refine Rn_cv hc rfl rfl (by decide) (ii := xi_139) rfl rfl rfl (tgc_182 : Tg _ = 11) (by decide) rfl (le := [some (vR 182), some (vI 8)]) rfl (v := some (vI k12)) (M' := M) (t_139  (d := d + 2) hk12 rfl) ?_
    show Rn rom (d + 3) 208 (124, [some (vR 182), some (vI a1)], [vI k12], (G0, M)) out
    cases e
    exact R_end (Rn_iret hc rfl rfl (xretI rfl rfl)) hK
  refine R_ite e (fun b13 e => ?_) (fun b13 e => ?_)
  · refine Rn_tsw (off := 124) (tgt := 125) hc rfl rfl (xsw_at b13 (by decide) (by decide) (by decide) rfl) rfl ?_
    refine Rn_ms (σ' := (127, [some (vR 182), some (vI a1)], [vI 0, vR 182], (G0, M))) hc 2 rfl ?_
    refine R_bind e (fun k14 hk14 e => ?_)
    refine Rn_cv hc rfl rfl (by decide) (ii := xi_139) rfl rfl rfl (tgc_182 : Tg _ = 11) (by decide) rfl (le := [some (vR 182), some (vI 0)]) rfl (v := some (vI k14)) (M' := M) (t_139  (d := d + 2) hk14 rfl) ?_
    refine Rn_ms (σ' := (131, [some (vR 182), some (vI a1)], [vI 2, vI k14], (G0, M))) hc 1 rfl ?_
    refine R_ite e (fun b15 e => ?_) (fun b15 e => ?_)
    · refine Rn_icT (tgt := 143) hc rfl rfl (by decide) b15 ?_
      refine Rn_ms (σ' := (145, [some (vR 182), some (vI a1)], [vI 1, vR 182], (G0, M))) hc 2 rfl ?_
      refine R_bind e (fun k16 hk16 e => ?_)
      refine Rn_cv hc rfl rfl (by decide) (ii := xi_139) rfl rfl rfl (tgc_182 : Tg _ = 11) (by decide) rfl (le := [some (vR 182), some (vI 1)]) rfl (v := some (vI k16)) (M' := M) (t_139  (d := d + 2) hk16 rfl) ?_
      refine Rn_ms (σ' := (152, [some (vR 182), some (vI a1)], [vI k16], (G0, M))) hc 1 rfl ?_
      cases e
      exact R_end (Rn_iret hc rfl rfl (xretI rfl rfl)) hK
    · refine Rn_icF hc rfl rfl (by decide) b15 ?_
      refine Rn_ms (σ' := (136, [some (vR 182), some (vI a1)], [vI 0, vR 182], (G0, M))) hc 2 rfl ?_
      refine R_bind e (fun k17 hk17 e => ?_)
      refine Rn_cv hc rfl rfl (by decide) (ii := xi_139) rfl rfl rfl (tgc_182 : Tg _ = 11) (by decide) rfl (le := [some (vR 182), some (vI 0)]) rfl (v := some (vI k17)) (M' := M) (t_139  (d := d + 2) hk17 rfl) ?_
      refine Rn_ms (σ' := (140, [some (vR 182), some (vI a1)], [vI 3, vI k17], (G0, M))) hc 1 rfl ?_
      refine R_ite e (fun b18 e => ?_) (fun b18 e => ?_)
      · refine Rn_icF hc rfl rfl (by decide) (fun w => w b18) ?_
        refine Rn_ms (σ' := (145, [some (vR 182), some (vI a1)], [vI 1, vR 182], (G0, M))) hc 2 rfl ?_
        refine R_bind e (fun k19 hk19 e => ?_)
        refine Rn_cv hc rfl rfl (by decide) (ii := xi_139) rfl rfl rfl (tgc_182 : Tg _ = 11) (by decide) rfl (le := [some (vR 182), some (vI 1)]) rfl (v := some (vI k19)) (M' := M) (t_139  (d := d + 2) hk19 rfl) ?_
        refine Rn_ms (σ' := (152, [some (vR 182), some (vI a1)], [vI k19], (G0, M))) hc 1 rfl ?_
        cases e
        exact R_end (Rn_iret hc rfl rfl (xretI rfl rfl)) hK
      · refine Rn_icT (tgt := 151) hc rfl rfl (by decide) (fun w => b18 w) ?_
        refine Rn_ms (σ' := (152, [some (vR 182), some (vI a1)], [vI 0], (G0, M))) hc 1 rfl ?_
        cases e
        exact R_end (Rn_iret hc rfl rfl (xretI rfl rfl)) hK
  refine R_ite e (fun b20 e => ?_) (fun b20 e => ?_)
  · refine Rn_tsw (off := 152) (tgt := 153) hc rfl rfl (xsw_at b20 (by decide) (by decide) (by decide) rfl) rfl ?_
    refine Rn_ms (σ' := (156, [some (vR 182), some (vI a1)], [vI 9, vR 182], (G0, M))) hc 2 rfl ?_
    refine R_bind e (fun k21 hk21 e => ?_)
    refine Rn_cv hc rfl rfl (by decide) (ii := xi_139) rfl rfl rfl (tgc_182 : Tg _ = 11) (by decide) rfl (le := [some (vR 182), some (vI 9)]) rfl (v := some (vI k21)) (M' := M) (t_139  (d := d + 2) hk21 rfl) ?_
    show Rn rom (d + 3) 208 (159, [some (vR 182), some (vI a1)], [vI k21], (G0, M)) out
    cases e
    exact R_end (Rn_iret hc rfl rfl (xretI rfl rfl)) hK
  refine R_ite e (fun b22 e => ?_) (fun b22 e => ?_)
  · refine Rn_tsw (off := 159) (tgt := 160) hc rfl rfl (xsw_at b22 (by decide) (by decide) (by decide) rfl) rfl ?_
    refine Rn_ms (σ' := (163, [some (vR 182), some (vI a1)], [vI 11, vR 182], (G0, M))) hc 2 rfl ?_
    refine R_bind e (fun k23 hk23 e => ?_)
    refine Rn_cv hc rfl rfl (by decide) (ii := xi_139) rfl rfl rfl (tgc_182 : Tg _ = 11) (by decide) rfl (le := [some (vR 182), some (vI 11)]) rfl (v := some (vI k23)) (M' := M) (t_139  (d := d + 2) hk23 rfl) ?_
    show Rn rom (d + 3) 208 (166, [some (vR 182), some (vI a1)], [vI k23], (G0, M)) out
    cases e
    exact R_end (Rn_iret hc rfl rfl (xretI rfl rfl)) hK
  refine R_ite e (fun b24 e => ?_) (fun b24 e => ?_)
  · refine Rn_tsw (off := 166) (tgt := 167) hc rfl rfl (xsw_at b24 (by decide) (by decide) (by decide) rfl) rfl ?_
    refine Rn_ms (σ' := (173, [some (vR 182), some (vI a1)], [vI 1, vI 48, vI 6, vR 182], (G0, M))) hc 4 rfl ?_
    refine R_bind e (fun k25 hk25 e => ?_)
    refine Rn_cv hc rfl rfl (by decide) (ii := xi_193) rfl rfl rfl (tgc_182 : Tg _ = 11) (by decide) rfl (le := [some (vR 182), some (vI 6), some (vI 48), some (vI 1), none, none, none, none]) rfl (v := some (vI k25)) (M' := M) (t_193  (d := d + 1) hk25 rfl) ?_
    show Rn rom (d + 3) 208 (176, [some (vR 182), some (vI a1)], [vI k25], (G0, M)) out
    cases e
    exact R_end (Rn_iret hc rfl rfl (xretI rfl rfl)) hK
  refine R_ite e (fun b26 e => ?_) (fun b26 e => ?_)
  · refine Rn_tsw (off := 176) (tgt := 177) hc rfl rfl (xsw_at b26 (by decide) (by decide) (by decide) rfl) rfl ?_
    refine Rn_ms (σ' := (179, [some (vR 182), some (vI a1)], [vI 2, vR 182], (G0, M))) hc 2 rfl ?_
    refine R_bind e (fun k27 hk27 e => ?_)
    refine Rn_cv hc rfl rfl (by decide) (ii := xi_139) rfl rfl rfl (tgc_182 : Tg _ = 11) (by decide) rfl (le := [some (vR 182), some (vI 2)]) rfl (v := some (vI k27)) (M' := M) (t_139  (d := d + 2) hk27 rfl) ?_
    show Rn rom (d + 3) 208 (182, [some (vR 182), some (vI a1)], [vI k27], (G0, M)) out
    cases e
    exact R_end (Rn_iret hc rfl rfl (xretI rfl rfl)) hK
  refine R_ite e (fun b28 e => ?_) (fun b28 e => ?_)
  · refine Rn_tsw (off := 182) (tgt := 183) hc rfl rfl (xsw_at b28 (by decide) (by decide) (by decide) rfl) rfl ?_
    show Rn rom (d + 3) 208 (183, [some (vR 182), some (vI a1)], [], (G0, M)) out
    exact Rn_weak (xle_s (xle_s xle_0)) (t_208_L183  e hK)
  refine R_ite e (fun b30 e => ?_) (fun b30 e => ?_)
  · refine Rn_tsw (off := 182) (tgt := 183) hc rfl rfl (xsw_at b30 (by decide) (by decide) (by decide) rfl) rfl ?_
    show Rn rom (d + 3) 208 (183, [some (vR 182), some (vI a1)], [], (G0, M)) out
    exact Rn_weak (xle_s (xle_s xle_0)) (t_208_L183  e hK)
  refine R_ite e (fun b31 e => ?_) (fun b31 e => ?_)
  · refine Rn_tsw (off := 182) (tgt := 183) hc rfl rfl (xsw_at b31 (by decide) (by decide) (by decide) rfl) rfl ?_
    show Rn rom (d + 3) 208 (183, [some (vR 182), some (vI a1)], [], (G0, M)) out
    exact Rn_weak (xle_s (xle_s xle_0)) (t_208_L183  e hK)
  refine R_ite e (fun b32 e => ?_) (fun b32 e => ?_)
  · refine Rn_tsw (off := 193) (tgt := 194) hc rfl rfl (xsw_at b32 (by decide) (by decide) (by decide) rfl) rfl ?_
    refine Rn_ms (σ' := (195, [some (vR 182), some (vI a1)], [vR 182], (G0, M))) hc 1 rfl ?_
    refine Rn_getI hc rfl tgc_182 (by decide) (by decide) ?_
    show Rn rom (d + 3) 208 (198, [some (vR 182), some (vI a1)], [vI (M 182 6)], (G0, M)) out
    cases e
    exact R_end (Rn_iret hc rfl rfl (xretI rfl rfl)) hK
  refine R_ite e (fun b33 e => ?_) (fun b33 e => ?_)
  · refine Rn_tsw (off := 198) (tgt := 199) hc rfl rfl (xsw_at b33 (by decide) (by decide) (by decide) rfl) rfl ?_
    refine Rn_ms (σ' := (200, [some (vR 182), some (vI a1)], [vR 182], (G0, M))) hc 1 rfl ?_
    refine Rn_getI hc rfl tgc_182 (by decide) (by decide) ?_
    show Rn rom (d + 3) 208 (203, [some (vR 182), some (vI a1)], [vI (M 182 2)], (G0, M)) out
    cases e
    exact R_end (Rn_iret hc rfl rfl (xretI rfl rfl)) hK
  refine R_ite e (fun b34 e => ?_) (fun b34 e => ?_)
  · refine Rn_tsw (off := 203) (tgt := 204) hc rfl rfl (xsw_at b34 (by decide) (by decide) (by decide) rfl) rfl ?_
    refine Rn_ms (σ' := (207, [some (vR 182), some (vI a1)], [vI 13, vR 182], (G0, M))) hc 2 rfl ?_
    refine R_bind e (fun k35 hk35 e => ?_)
    refine Rn_cv hc rfl rfl (by decide) (ii := xi_139) rfl rfl rfl (tgc_182 : Tg _ = 11) (by decide) rfl (le := [some (vR 182), some (vI 13)]) rfl (v := some (vI k35)) (M' := M) (t_139  (d := d + 2) hk35 rfl) ?_
    show Rn rom (d + 3) 208 (210, [some (vR 182), some (vI a1)], [vI k35], (G0, M)) out
    cases e
    exact R_end (Rn_iret hc rfl rfl (xretI rfl rfl)) hK
  refine Rn_tsw (off := 210) (tgt := 211) hc rfl rfl (xsw_df (by omega)) rfl ?_
  refine Rn_ms (σ' := (212, [some (vR 182), some (vI a1)], [vI (-1)], (G0, M))) hc 1 rfl ?_
  cases e
  exact R_end (Rn_iret hc rfl rfl (xretI rfl rfl)) hK
def f_209_L4b (M : xM) (c1 : Int) (v2 : Int) (v3 : Int) : Option ((Int × Int) ⊕ (Int)) :=
  (f_146 M c1).bind (fun k1 =>
  if wr k1 ≤ wr v3 then
    some (.inr (v2))
  else
    (f_198 M c1 v3).bind (fun k3 =>
    some (.inl ((v2 + k3), (v3 + 1)))
    )
  )
theorem t_209_L4b {rom : xRom} {d : Nat} {c1 : Int} {v2 : Int} {v3 : Int} {M : xM} {r : (Int × Int) ⊕ (Int)} {out : Option xV × xH} (e : f_209_L4b M c1 v2 v3 = some r) (hK : ((Sum.elim (fun s => Rn rom (d + 4) 209 (4, [some (vR 182), some (vI c1), some (vI s.1), some (vI s.2)], [], (G0, M)) out) (eI M out))) r) : Rn rom (d + 4) 209 (4, [some (vR 182), some (vI c1), some (vI v2), some (vI v3)], [], (G0, M)) out := by
  have hc : xkall.getD 209 [] = xk_209 := rfl
  unfold f_209_L4b at e
  refine Rn_ms (σ' := (7, [some (vR 182), some (vI c1), some (vI v2), some (vI v3)], [vI c1, vR 182, vI v3], (G0, M))) hc 3 rfl ?_
  refine R_bind e (fun k1 hk1 e => ?_)
  refine Rn_cv hc rfl rfl (by decide) (ii := xi_146) rfl rfl rfl (tgc_182 : Tg _ = 11) (by decide) rfl (le := [some (vR 182), some (vI c1), none, none]) rfl (v := some (vI k1)) (M' := M) (t_146  (d := d + 2) hk1 rfl) ?_
  show Rn rom (d + 4) 209 (10, [some (vR 182), some (vI c1), some (vI v2), some (vI v3)], [vI k1, vI v3], (G0, M)) out
  refine R_ite e (fun b2 e => ?_) (fun b2 e => ?_)
  · refine Rn_icT (tgt := 28) hc rfl rfl (by decide) b2 ?_
    refine Rn_ms (σ' := (29, [some (vR 182), some (vI c1), some (vI v2), some (vI v3)], [vI v2], (G0, M))) hc 1 rfl ?_
    cases e
    exact R_end (Rn_iret hc rfl rfl (xretI rfl rfl)) hK
  · refine Rn_icF hc rfl rfl (by decide) b2 ?_
    refine Rn_ms (σ' := (17, [some (vR 182), some (vI c1), some (vI v2), some (vI v3)], [vI v3, vI c1, vR 182, vI v2], (G0, M))) hc 4 rfl ?_
    refine R_bind e (fun k3 hk3 e => ?_)
    refine Rn_cv hc rfl rfl (by decide) (ii := xi_198) rfl rfl rfl (tgc_182 : Tg _ = 11) (by decide) rfl (le := [some (vR 182), some (vI c1), some (vI v3), none, none]) rfl (v := some (vI k3)) (M' := M) (t_198  (d := d + 0) hk3 rfl) ?_
    refine Rn_ms (σ' := (4, [some (vR 182), some (vI c1), some (vI (v2 + k3)), some (vI (v3 + 1))], [], (G0, M))) hc 4 rfl ?_
    cases e
    exact Rn_weak (xle_s (xle_s (xle_s (xle_s xle_0)))) hK
def f_209_L4 (M : xM) (c1 : Int) (s : Int × Int) : Option (Int) := loop NF (fun s => f_209_L4b M c1 s.1 s.2) s
theorem t_209_L4 {rom : xRom} {d : Nat} {c1 : Int} {M : xM} {s : Int × Int} {r : Int} {out : Option xV × xH} (e : f_209_L4 M c1 s = some r) (hK : (eI M out) r) : Rn rom (d + 4) 209 (4, [some (vR 182), some (vI c1), some (vI s.1), some (vI s.2)], [], (G0, M)) out := by
  unfold f_209_L4 at e
  revert e hK
  exact R_loop (b := fun s => f_209_L4b M c1 s.1 s.2) (G := fun s => Rn rom (d + 4) 209 (4, [some (vR 182), some (vI c1), some (vI s.1), some (vI s.2)], [], (G0, M)) out) (K := eI M out) (fun s r e hK => t_209_L4b  e hK) NF s r
/-- PedalLayersModel.sumOf -/
def f_209 (M : xM) (a1 : Int) : Option (Int) :=
  f_209_L4 M a1 (0, 0)
theorem t_209 {rom : xRom} {d : Nat} {M : xM} {a1 : Int} {r : Int} {out : Option xV × xH} (e : f_209 M a1 = some r) (hK : eI M out r) : Rn rom (d + 4) 209 (0, [some (vR 182), some (vI a1), none, none], [], (G0, M)) out := by
  have hc : xkall.getD 209 [] = xk_209 := rfl
  unfold f_209 at e
  refine Rn_ms (σ' := (4, [some (vR 182), some (vI a1), some (vI 0), some (vI 0)], [], (G0, M))) hc 4 rfl ?_
  exact Rn_weak (xle_s (xle_s (xle_s (xle_s xle_0)))) (t_209_L4  e hK)
/-- PedalLayersModel.loudness -/
def f_210 (M : xM) : Option (UInt64) :=
  (f_139 M 7).bind (fun k1 =>
  if wr k1 = 0 then
    some (FP.dconst0)
  else
    (f_139 M 7).bind (fun k3 =>
    (f_209 M k3).bind (fun k4 =>
    gn (FP.dmul (xi2d k4) FP.dconst1) (
    (f_147 M).bind (fun k6 =>
    gn (FP.ddiv (FP.dmul (xi2d k4) FP.dconst1) (xi2d k6)) (
    some (FP.ddiv (FP.dmul (xi2d k4) FP.dconst1) (xi2d k6))
    )))))
  )
theorem t_210 {rom : xRom} {d : Nat} {M : xM}  {r : UInt64} {out : Option xV × xH} (e : f_210 M = some r) (hK : eD M out r) : Rn rom (d + 5) 210 (0, [some (vR 182)], [], (G0, M)) out := by
  have hc : xkall.getD 210 [] = xk_210 := rfl
  unfold f_210 at e
  refine Rn_ms (σ' := (3, [some (vR 182)], [vI 7, vR 182], (G0, M))) hc 2 rfl ?_
  refine R_bind e (fun k1 hk1 e => ?_)
  refine Rn_cv hc rfl rfl (by decide) (ii := xi_139) rfl rfl rfl (tgc_182 : Tg _ = 11) (by decide) rfl (le := [some (vR 182), some (vI 7)]) rfl (v := some (vI k1)) (M' := M) (t_139  (d := d + 4) hk1 rfl) ?_
  show Rn rom (d + 5) 210 (6, [some (vR 182)], [vI k1], (G0, M)) out
  refine R_ite e (fun b2 e => ?_) (fun b2 e => ?_)
  · refine Rn_ifF hc rfl rfl (by decide) (fun w => w b2) ?_
    refine Rn_ms (σ' := (32, [some (vR 182)], [vD FP.dconst0], (G0, M))) hc 2 rfl ?_
    cases e
    exact R_end (Rn_dret hc rfl rfl rfl rfl) hK
  · refine Rn_ifT (tgt := 13) hc rfl rfl (by decide) (fun w => b2 w) ?_
    refine Rn_ms (σ' := (17, [some (vR 182)], [vI 7, vR 182, vR 182], (G0, M))) hc 3 rfl ?_
    refine R_bind e (fun k3 hk3 e => ?_)
    refine Rn_cv hc rfl rfl (by decide) (ii := xi_139) rfl rfl rfl (tgc_182 : Tg _ = 11) (by decide) rfl (le := [some (vR 182), some (vI 7)]) rfl (v := some (vI k3)) (M' := M) (t_139  (d := d + 4) hk3 rfl) ?_
    show Rn rom (d + 5) 210 (20, [some (vR 182)], [vI k3, vR 182], (G0, M)) out
    refine R_bind e (fun k4 hk4 e => ?_)
    refine Rn_cv hc rfl rfl (by decide) (ii := xi_209) rfl rfl rfl (tgc_182 : Tg _ = 11) (by decide) rfl (le := [some (vR 182), some (vI k3), none, none]) rfl (v := some (vI k4)) (M' := M) (t_209  (d := d + 0) hk4 rfl) ?_
    refine Rn_ms (σ' := (25, [some (vR 182)], [vD FP.dconst1, vD (xi2d k4)], (G0, M))) hc 2 rfl ?_
    refine R_gn e (fun g5 e => ?_)
    refine Rn_dmul hc rfl ⟨rfl, rfl⟩ g5 ?_
    refine Rn_ms (σ' := (27, [some (vR 182)], [vR 182, vD (FP.dmul (xi2d k4) FP.dconst1)], (G0, M))) hc 1 rfl ?_
    refine R_bind e (fun k6 hk6 e => ?_)
    refine Rn_cv hc rfl rfl (by decide) (ii := xi_147) rfl rfl rfl (tgc_182 : Tg _ = 11) (by decide) rfl (le := [some (vR 182)]) rfl (v := some (vI k6)) (M' := M) (t_147  (d := d + 2) hk6 rfl) ?_
    refine Rn_ms (σ' := (31, [some (vR 182)], [vD (xi2d k6), vD (FP.dmul (xi2d k4) FP.dconst1)], (G0, M))) hc 1 rfl ?_
    refine R_gn e (fun g7 e => ?_)
    refine Rn_ddiv hc rfl ⟨rfl, rfl⟩ g7 ?_
    show Rn rom (d + 5) 210 (32, [some (vR 182)], [vD (FP.ddiv (FP.dmul (xi2d k4) FP.dconst1) (xi2d k6))], (G0, M)) out
    cases e
    exact R_end (Rn_dret hc rfl rfl rfl rfl) hK
def f_211_L21 (M : xM) : Option (Int) :=
  (f_139 M 3).bind (fun k3 =>
  gd ((wl (wr (2 * k3))) ≠ 0) (
  if wr ((wl (M 183 10)).tmod (wl (wr (2 * k3)))) = 0 then
    some (0)
  else
    some ((2 * k3) - ((wl (M 183 10)).tmod (wl (wr (2 * k3)))))
  ))
theorem t_211_L21 {rom : xRom} {d : Nat} {M : xM} {r : Int} {out : Option xV × xH} (e : f_211_L21 M = some r) (hK : (eI M out) r) : Rn rom (d + 1) 211 (21, [some (vR 182), none, none], [], (G0, M)) out := by
  have hc : xkall.getD 211 [] = xk_211 := rfl
  unfold f_211_L21 at e
  refine Rn_ms (σ' := (24, [some (vR 182), none, none], [vI 3, vR 182, vI 2], (G0, M))) hc 3 rfl ?_
  refine R_bind e (fun k3 hk3 e => ?_)
  refine Rn_cv hc rfl rfl (by decide) (ii := xi_139) rfl rfl rfl (tgc_182 : Tg _ = 11) (by decide) rfl (le := [some (vR 182), some (vI 3)]) rfl (v := some (vI k3)) (M' := M) (t_139  (d := d + 0) hk3 rfl) ?_
  refine Rn_ms (σ' := (30, [some (vR 182), some (vI (2 * k3)), none], [vR 182], (G0, M))) hc 3 rfl ?_
  refine Rn_getR hc rfl tgc_182 (by decide) rfl prc_182_0 ?_
  refine Rn_ms (σ' := (35, [some (vR 182), some (vI (2 * k3)), none], [vI 10, vR 183], (G0, M))) hc 1 rfl ?_
  refine Rn_lald hc rfl rfl tgc_183 zsc_183 (by decide) rfl ?_
  refine Rn_ms (σ' := (38, [some (vR 182), some (vI (2 * k3)), none], [vL (wr (2 * k3)), vL (M 183 10)], (G0, M))) hc 2 rfl ?_
  refine R_gd e (fun g4 e => ?_)
  refine Rn_lrem hc rfl ⟨rfl, rfl⟩ (z' := (wl (wr (2 * k3)))) rfl g4 ?_
  refine Rn_ms (σ' := (42, [some (vR 182), some (vI (2 * k3)), some (vI ((wl (M 183 10)).tmod (wl (wr (2 * k3)))))], [vI ((wl (M 183 10)).tmod (wl (wr (2 * k3))))], (G0, M))) hc 3 rfl ?_
  refine R_ite e (fun b5 e => ?_) (fun b5 e => ?_)
  · refine Rn_ifF hc rfl rfl (by decide) (fun w => w b5) ?_
    refine Rn_ms (σ' := (52, [some (vR 182), some (vI (2 * k3)), some (vI ((wl (M 183 10)).tmod (wl (wr (2 * k3)))))], [vI 0], (G0, M))) hc 2 rfl ?_
    cases e
    exact R_end (Rn_iret hc rfl rfl (xretI rfl rfl)) hK
  · refine Rn_ifT (tgt := 49) hc rfl rfl (by decide) (fun w => b5 w) ?_
    refine Rn_ms (σ' := (52, [some (vR 182), some (vI (2 * k3)), some (vI ((wl (M 183 10)).tmod (wl (wr (2 * k3)))))], [vI ((2 * k3) - ((wl (M 183 10)).tmod (wl (wr (2 * k3)))))], (G0, M))) hc 3 rfl ?_
    cases e
    exact R_end (Rn_iret hc rfl rfl (xretI rfl rfl)) hK
/-- PedalLayersModel.barIn -/
def f_211 (M : xM) : Option (Int) :=
  (f_139 M 0).bind (fun k1 =>
  if wr k1 = 2 then
    f_211_L21 M
  else
    (f_139 M 0).bind (fun k6 =>
    if wr k6 = 3 then
      f_211_L21 M
    else
      some (-2)
    )
  )
theorem t_211 {rom : xRom} {d : Nat} {M : xM}  {r : Int} {out : Option xV × xH} (e : f_211 M = some r) (hK : eI M out r) : Rn rom (d + 1) 211 (0, [some (vR 182), none, none], [], (G0, M)) out := by
  have hc : xkall.getD 211 [] = xk_211 := rfl
  unfold f_211 at e
  refine Rn_ms (σ' := (2, [some (vR 182), none, none], [vI 0, vR 182], (G0, M))) hc 2 rfl ?_
  refine R_bind e (fun k1 hk1 e => ?_)
  refine Rn_cv hc rfl rfl (by decide) (ii := xi_139) rfl rfl rfl (tgc_182 : Tg _ = 11) (by decide) rfl (le := [some (vR 182), some (vI 0)]) rfl (v := some (vI k1)) (M' := M) (t_139  (d := d + 0) hk1 rfl) ?_
  refine Rn_ms (σ' := (6, [some (vR 182), none, none], [vI 2, vI k1], (G0, M))) hc 1 rfl ?_
  refine R_ite e (fun b2 e => ?_) (fun b2 e => ?_)
  · refine Rn_icT (tgt := 21) hc rfl rfl (by decide) b2 ?_
    show Rn rom (d + 1) 211 (21, [some (vR 182), none, none], [], (G0, M)) out
    exact Rn_weak (xle_s (xle_s (xle_s xle_0))) (t_211_L21  e hK)
  · refine Rn_icF hc rfl rfl (by decide) b2 ?_
    refine Rn_ms (σ' := (11, [some (vR 182), none, none], [vI 0, vR 182], (G0, M))) hc 2 rfl ?_
    refine R_bind e (fun k6 hk6 e => ?_)
    refine Rn_cv hc rfl rfl (by decide) (ii := xi_139) rfl rfl rfl (tgc_182 : Tg _ = 11) (by decide) rfl (le := [some (vR 182), some (vI 0)]) rfl (v := some (vI k6)) (M' := M) (t_139  (d := d + 0) hk6 rfl) ?_
    refine Rn_ms (σ' := (15, [some (vR 182), none, none], [vI 3, vI k6], (G0, M))) hc 1 rfl ?_
    refine R_ite e (fun b7 e => ?_) (fun b7 e => ?_)
    · refine Rn_icT (tgt := 21) hc rfl rfl (by decide) b7 ?_
      show Rn rom (d + 1) 211 (21, [some (vR 182), none, none], [], (G0, M)) out
      exact Rn_weak (xle_s (xle_s (xle_s xle_0))) (t_211_L21  e hK)
    · refine Rn_icF hc rfl rfl (by decide) b7 ?_
      refine Rn_ms (σ' := (20, [some (vR 182), none, none], [vI (-2)], (G0, M))) hc 1 rfl ?_
      cases e
      exact R_end (Rn_iret hc rfl rfl (xretI rfl rfl)) hK
