/-! functions for methods, by program (wip/whole/gen/dec.py) -/
def f_52_L33 (M : xM) (c2 : Int) (c3 : Int) (s0 : Int) : Option ((Int × Int × xM) ⊕ (Int × xM)) :=
  if wr s0 = 0 then
    some (.inl (c2, (c3 + 1), M))
  else
    if 60 ≤ wr c2 then
      some (.inl (c2, (c3 + 1), M))
    else
      (f_50 M c3).bind (fun k5 =>
      gd (0 ≤ wr c2 ∧ wr c2 < 60) (
      bnd (xset M 181 (wr c2).toNat k5) (fun M7 =>
      some (.inl ((c2 + 1), (c3 + 1), M7))
      )))
theorem t_52_L33 {rom : xRom} {d : Nat} {c2 : Int} {c3 : Int} {s0 : Int} {M : xM} {r : (Int × Int × xM) ⊕ (Int × xM)} {out : Option xV × xH} (e : f_52_L33 M c2 c3 s0 = some r) (hK : ((Sum.elim (fun s => Rn rom (d + 3) 52 (4, [some (vR 172), some (vR 181), some (vI s.1), some (vI s.2.1), none], [], (G0, s.2.2)) out) (eIW out))) r) : Rn rom (d + 3) 52 (33, [some (vR 172), some (vR 181), some (vI c2), some (vI c3), none], [vI s0], (G0, M)) out := by
  have hc : xkall.getD 52 [] = xk_52 := rfl
  unfold f_52_L33 at e
  refine Rn_ms (σ' := (37, [some (vR 172), some (vR 181), some (vI c2), some (vI c3), some (vI s0)], [vI s0], (G0, M))) hc 2 rfl ?_
  refine R_ite e (fun b3 e => ?_) (fun b3 e => ?_)
  · refine Rn_ifT (tgt := 57) hc rfl rfl (by decide) b3 ?_
    refine Rn_ms (σ' := (4, [some (vR 172), some (vR 181), some (vI c2), some (vI (c3 + 1)), some (vI s0)], [], (G0, M))) hc 2 rfl ?_
    cases e
    exact Rn_weak (xle_s (xle_s (xle_s (xle_s (xle_n xle_0))))) hK
  · refine Rn_ifF hc rfl rfl (by decide) b3 ?_
    refine Rn_ms (σ' := (42, [some (vR 172), some (vR 181), some (vI c2), some (vI c3), some (vI s0)], [vR 181, vI c2], (G0, M))) hc 2 rfl ?_
    refine Rn_alen hc rfl rfl tgc_181 (by decide) zsc_181 ?_
    show Rn rom (d + 3) 52 (43, [some (vR 172), some (vR 181), some (vI c2), some (vI c3), some (vI s0)], [vI 60, vI c2], (G0, M)) out
    refine R_ite e (fun b4 e => ?_) (fun b4 e => ?_)
    · refine Rn_icT (tgt := 57) hc rfl rfl (by decide) b4 ?_
      refine Rn_ms (σ' := (4, [some (vR 172), some (vR 181), some (vI c2), some (vI (c3 + 1)), some (vI s0)], [], (G0, M))) hc 2 rfl ?_
      cases e
      exact Rn_weak (xle_s (xle_s (xle_s (xle_s (xle_n xle_0))))) hK
    · refine Rn_icF hc rfl rfl (by decide) b4 ?_
      refine Rn_ms (σ' := (50, [some (vR 172), some (vR 181), some (vI c2), some (vI c3), some (vI s0)], [vI c3, vR 172, vI c2, vR 181], (G0, M))) hc 4 rfl ?_
      refine R_bind e (fun k5 hk5 e => ?_)
      refine Rn_cv hc rfl rfl (by decide) (ii := xi_50) rfl rfl rfl (tgc_172 : Tg _ = 6) (by decide) rfl (le := [some (vR 172), some (vI c3), none, none, none]) rfl (v := some (vI k5)) (M' := M) (t_50  (d := d + 0) hk5 rfl) ?_
      show Rn rom (d + 3) 52 (53, [some (vR 172), some (vR 181), some (vI c2), some (vI c3), some (vI s0)], [vI k5, vI c2, vR 181], (G0, M)) out
      refine R_gd e (fun g6 e => ?_)
      refine R_bnd e (fun M7 hM7 e => ?_)
      refine Rn_iast' hM7 hc rfl rfl tgc_181 zsc_181 g6 rfl ?_
      refine Rn_ms (σ' := (4, [some (vR 172), some (vR 181), some (vI (c2 + 1)), some (vI (c3 + 1)), some (vI s0)], [], (G0, M7))) hc 3 rfl ?_
      cases e
      exact Rn_weak (xle_s (xle_s (xle_s (xle_s (xle_n xle_0))))) hK
def f_52_L28 (M : xM) (c2 : Int) (c3 : Int) : Option ((Int × Int × xM) ⊕ (Int × xM)) :=
  f_52_L33 M c2 c3 1
theorem t_52_L28 {rom : xRom} {d : Nat} {c2 : Int} {c3 : Int} {M : xM} {r : (Int × Int × xM) ⊕ (Int × xM)} {out : Option xV × xH} (e : f_52_L28 M c2 c3 = some r) (hK : ((Sum.elim (fun s => Rn rom (d + 3) 52 (4, [some (vR 172), some (vR 181), some (vI s.1), some (vI s.2.1), none], [], (G0, s.2.2)) out) (eIW out))) r) : Rn rom (d + 3) 52 (28, [some (vR 172), some (vR 181), some (vI c2), some (vI c3), none], [], (G0, M)) out := by
  have hc : xkall.getD 52 [] = xk_52 := rfl
  unfold f_52_L28 at e
  refine Rn_ms (σ' := (33, [some (vR 172), some (vR 181), some (vI c2), some (vI c3), none], [vI 1], (G0, M))) hc 2 rfl ?_
  exact Rn_weak (xle_s (xle_s (xle_s (xle_s (xle_s xle_0))))) (t_52_L33  e hK)
def f_52_L4b (v2 : Int) (v3 : Int) (M : xM) : Option ((Int × Int × xM) ⊕ (Int × xM)) :=
  if wr (M 172 1) ≤ wr v3 then
    some (.inr ((v2, M)))
  else
    if wr v3 = 0 then
      f_52_L28 M v2 v3
    else
      (f_47 M (v3 - 1)).bind (fun k8 =>
      if wr k8 = 44 then
        f_52_L28 M v2 v3
      else
        f_52_L33 M v2 v3 0
      )
theorem t_52_L4b {rom : xRom} {d : Nat} {v2 : Int} {v3 : Int} {M : xM} {r : (Int × Int × xM) ⊕ (Int × xM)} {out : Option xV × xH} (e : f_52_L4b v2 v3 M = some r) (hK : ((Sum.elim (fun s => Rn rom (d + 3) 52 (4, [some (vR 172), some (vR 181), some (vI s.1), some (vI s.2.1), none], [], (G0, s.2.2)) out) (eIW out))) r) : Rn rom (d + 3) 52 (4, [some (vR 172), some (vR 181), some (vI v2), some (vI v3), none], [], (G0, M)) out := by
  have hc : xkall.getD 52 [] = xk_52 := rfl
  unfold f_52_L4b at e
  refine Rn_ms (σ' := (6, [some (vR 172), some (vR 181), some (vI v2), some (vI v3), none], [vR 172, vI v3], (G0, M))) hc 2 rfl ?_
  refine Rn_getI hc rfl tgc_172 (by decide) (by decide) ?_
  show Rn rom (d + 3) 52 (9, [some (vR 172), some (vR 181), some (vI v2), some (vI v3), none], [vI (M 172 1), vI v3], (G0, M)) out
  refine R_ite e (fun b1 e => ?_) (fun b1 e => ?_)
  · refine Rn_icT (tgt := 63) hc rfl rfl (by decide) b1 ?_
    refine Rn_ms (σ' := (64, [some (vR 172), some (vR 181), some (vI v2), some (vI v3), none], [vI v2], (G0, M))) hc 1 rfl ?_
    cases e
    exact R_end (Rn_iret hc rfl rfl (xretI rfl rfl)) hK
  · refine Rn_icF hc rfl rfl (by decide) b1 ?_
    refine Rn_ms (σ' := (13, [some (vR 172), some (vR 181), some (vI v2), some (vI v3), none], [vI v3], (G0, M))) hc 1 rfl ?_
    refine R_ite e (fun b2 e => ?_) (fun b2 e => ?_)
    · refine Rn_ifT (tgt := 28) hc rfl rfl (by decide) b2 ?_
      show Rn rom (d + 3) 52 (28, [some (vR 172), some (vR 181), some (vI v2), some (vI v3), none], [], (G0, M)) out
      exact Rn_weak (xle_s (xle_s (xle_s (xle_s (xle_s xle_0))))) (t_52_L28  e hK)
    · refine Rn_ifF hc rfl rfl (by decide) b2 ?_
      refine Rn_ms (σ' := (20, [some (vR 172), some (vR 181), some (vI v2), some (vI v3), none], [vI (v3 - 1), vR 172], (G0, M))) hc 4 rfl ?_
      refine R_bind e (fun k8 hk8 e => ?_)
      refine Rn_cv hc rfl rfl (by decide) (ii := xi_47) rfl rfl rfl (tgc_172 : Tg _ = 6) (by decide) rfl (le := [some (vR 172), some (vI (v3 - 1))]) rfl (v := some (vI k8)) (M' := M) (t_47  (d := d + 2) hk8 rfl) ?_
      refine Rn_ms (σ' := (25, [some (vR 172), some (vR 181), some (vI v2), some (vI v3), none], [vI 44, vI k8], (G0, M))) hc 1 rfl ?_
      refine R_ite e (fun b9 e => ?_) (fun b9 e => ?_)
      · refine Rn_icF hc rfl rfl (by decide) (fun w => w b9) ?_
        show Rn rom (d + 3) 52 (28, [some (vR 172), some (vR 181), some (vI v2), some (vI v3), none], [], (G0, M)) out
        exact Rn_weak (xle_s (xle_s (xle_s (xle_s (xle_s xle_0))))) (t_52_L28  e hK)
      · refine Rn_icT (tgt := 32) hc rfl rfl (by decide) (fun w => b9 w) ?_
        refine Rn_ms (σ' := (33, [some (vR 172), some (vR 181), some (vI v2), some (vI v3), none], [vI 0], (G0, M))) hc 1 rfl ?_
        exact Rn_weak (xle_s (xle_s (xle_s (xle_s (xle_s xle_0))))) (t_52_L33  e hK)
def f_52_L4  (s : Int × Int × xM) : Option (Int × xM) := loop NF (fun s => f_52_L4b s.1 s.2.1 s.2.2) s
theorem t_52_L4 {rom : xRom} {d : Nat}  {s : Int × Int × xM} {r : Int × xM} {out : Option xV × xH} (e : f_52_L4  s = some r) (hK : (eIW out) r) : Rn rom (d + 3) 52 (4, [some (vR 172), some (vR 181), some (vI s.1), some (vI s.2.1), none], [], (G0, s.2.2)) out := by
  unfold f_52_L4 at e
  revert e hK
  exact R_loop (b := fun s => f_52_L4b s.1 s.2.1 s.2.2) (G := fun s => Rn rom (d + 3) 52 (4, [some (vR 172), some (vR 181), some (vI s.1), some (vI s.2.1), none], [], (G0, s.2.2)) out) (K := eIW out) (fun s r e hK => t_52_L4b  e hK) NF s r
/-- PedalLayers$Pad.readTune -/
def f_52 (M : xM) : Option (Int × xM) :=
  f_52_L4 (0, 0, M)
theorem t_52 {rom : xRom} {d : Nat} {M : xM}  {r : Int × xM} {out : Option xV × xH} (e : f_52 M = some r) (hK : eIW out r) : Rn rom (d + 3) 52 (0, [some (vR 172), some (vR 181), none, none, none], [], (G0, M)) out := by
  have hc : xkall.getD 52 [] = xk_52 := rfl
  unfold f_52 at e
  refine Rn_ms (σ' := (4, [some (vR 172), some (vR 181), some (vI 0), some (vI 0), none], [], (G0, M))) hc 4 rfl ?_
  exact Rn_weak (xle_s (xle_s (xle_s (xle_s (xle_s xle_0))))) (t_52_L4  e hK)
def f_14_L3b (M : xM) (c1 : Int) (c2 : Int) (c3 : Int) (v4 : Int) : Option ((Int) ⊕ (Int)) :=
  if wr c2 ≤ wr v4 then
    some (.inr (1))
  else
    if 60 ≤ wr v4 then
      some (.inr (1))
    else
      if wr (f_134 (c1 + v4) c3) < 0 then
        some (.inr (0))
      else
        if 48 ≤ wr (f_134 (c1 + v4) c3) then
          some (.inr (0))
        else
          gd (0 ≤ wr v4 ∧ wr v4 < 60) (
          if wr (M 180 (wr (f_134 (c1 + v4) c3)).toNat) = wr (M 181 (wr v4).toNat) then
            some (.inl (v4 + 1))
          else
            some (.inr (0))
          )
theorem t_14_L3b {rom : xRom} {d : Nat} {c1 : Int} {c2 : Int} {c3 : Int} {v4 : Int} {M : xM} {r : (Int) ⊕ (Int)} {out : Option xV × xH} (e : f_14_L3b M c1 c2 c3 v4 = some r) (hK : ((Sum.elim (fun s => Rn rom (d + 1) 14 (3, [some (vR 177), some (vI c1), some (vI c2), some (vI c3), some (vI s), none], [], (G0, M)) out) (eI M out))) r) : Rn rom (d + 1) 14 (3, [some (vR 177), some (vI c1), some (vI c2), some (vI c3), some (vI v4), none], [], (G0, M)) out := by
  have hc : xkall.getD 14 [] = xk_14 := rfl
  unfold f_14_L3b at e
  refine Rn_ms (σ' := (6, [some (vR 177), some (vI c1), some (vI c2), some (vI c3), some (vI v4), none], [vI c2, vI v4], (G0, M))) hc 2 rfl ?_
  refine R_ite e (fun b1 e => ?_) (fun b1 e => ?_)
  · refine Rn_icT (tgt := 69) hc rfl rfl (by decide) b1 ?_
    refine Rn_ms (σ' := (70, [some (vR 177), some (vI c1), some (vI c2), some (vI c3), some (vI v4), none], [vI 1], (G0, M))) hc 1 rfl ?_
    cases e
    exact R_end (Rn_iret hc rfl rfl (xretB rfl rfl (by decide))) hK
  · refine Rn_icF hc rfl rfl (by decide) b1 ?_
    refine Rn_ms (σ' := (12, [some (vR 177), some (vI c1), some (vI c2), some (vI c3), some (vI v4), none], [vR 177, vI v4], (G0, M))) hc 2 rfl ?_
    refine Rn_getR hc rfl tgc_177 (by decide) rfl prc_177_3 ?_
    show Rn rom (d + 1) 14 (15, [some (vR 177), some (vI c1), some (vI c2), some (vI c3), some (vI v4), none], [vR 181, vI v4], (G0, M)) out
    refine Rn_alen hc rfl rfl tgc_181 (by decide) zsc_181 ?_
    show Rn rom (d + 1) 14 (16, [some (vR 177), some (vI c1), some (vI c2), some (vI c3), some (vI v4), none], [vI 60, vI v4], (G0, M)) out
    refine R_ite e (fun b2 e => ?_) (fun b2 e => ?_)
    · refine Rn_icT (tgt := 69) hc rfl rfl (by decide) b2 ?_
      refine Rn_ms (σ' := (70, [some (vR 177), some (vI c1), some (vI c2), some (vI c3), some (vI v4), none], [vI 1], (G0, M))) hc 1 rfl ?_
      cases e
      exact R_end (Rn_iret hc rfl rfl (xretB rfl rfl (by decide))) hK
    · refine Rn_icF hc rfl rfl (by decide) b2 ?_
      refine Rn_ms (σ' := (24, [some (vR 177), some (vI c1), some (vI c2), some (vI c3), some (vI v4), none], [vI c3, vI (c1 + v4)], (G0, M))) hc 4 rfl ?_
      refine Rn_cs hc rfl rfl (by decide) (ii := xi_134) rfl rfl rfl (le := [some (vI (c1 + v4)), some (vI c3)]) rfl (v := some (vI (f_134 (c1 + v4) c3))) (M' := M) (t_134  (d := d + 0) rfl rfl) ?_
      refine Rn_ms (σ' := (31, [some (vR 177), some (vI c1), some (vI c2), some (vI c3), some (vI v4), some (vI (f_134 (c1 + v4) c3))], [vI (f_134 (c1 + v4) c3)], (G0, M))) hc 2 rfl ?_
      refine R_ite e (fun b3 e => ?_) (fun b3 e => ?_)
      · refine Rn_ifT (tgt := 61) hc rfl rfl (by decide) b3 ?_
        refine Rn_ms (σ' := (62, [some (vR 177), some (vI c1), some (vI c2), some (vI c3), some (vI v4), some (vI (f_134 (c1 + v4) c3))], [vI 0], (G0, M))) hc 1 rfl ?_
        cases e
        exact R_end (Rn_iret hc rfl rfl (xretB rfl rfl (by decide))) hK
      · refine Rn_ifF hc rfl rfl (by decide) b3 ?_
        refine Rn_ms (σ' := (37, [some (vR 177), some (vI c1), some (vI c2), some (vI c3), some (vI v4), some (vI (f_134 (c1 + v4) c3))], [vR 177, vI (f_134 (c1 + v4) c3)], (G0, M))) hc 2 rfl ?_
        refine Rn_getR hc rfl tgc_177 (by decide) rfl prc_177_2 ?_
        show Rn rom (d + 1) 14 (40, [some (vR 177), some (vI c1), some (vI c2), some (vI c3), some (vI v4), some (vI (f_134 (c1 + v4) c3))], [vR 180, vI (f_134 (c1 + v4) c3)], (G0, M)) out
        refine Rn_alen hc rfl rfl tgc_180 (by decide) zsc_180 ?_
        show Rn rom (d + 1) 14 (41, [some (vR 177), some (vI c1), some (vI c2), some (vI c3), some (vI v4), some (vI (f_134 (c1 + v4) c3))], [vI 48, vI (f_134 (c1 + v4) c3)], (G0, M)) out
        refine R_ite e (fun b4 e => ?_) (fun b4 e => ?_)
        · refine Rn_icT (tgt := 61) hc rfl rfl (by decide) b4 ?_
          refine Rn_ms (σ' := (62, [some (vR 177), some (vI c1), some (vI c2), some (vI c3), some (vI v4), some (vI (f_134 (c1 + v4) c3))], [vI 0], (G0, M))) hc 1 rfl ?_
          cases e
          exact R_end (Rn_iret hc rfl rfl (xretB rfl rfl (by decide))) hK
        · refine Rn_icF hc rfl rfl (by decide) b4 ?_
          refine Rn_ms (σ' := (45, [some (vR 177), some (vI c1), some (vI c2), some (vI c3), some (vI v4), some (vI (f_134 (c1 + v4) c3))], [vR 177], (G0, M))) hc 1 rfl ?_
          refine Rn_getR hc rfl tgc_177 (by decide) rfl prc_177_2 ?_
          refine Rn_ms (σ' := (50, [some (vR 177), some (vI c1), some (vI c2), some (vI c3), some (vI v4), some (vI (f_134 (c1 + v4) c3))], [vI (f_134 (c1 + v4) c3), vR 180], (G0, M))) hc 1 rfl ?_
          refine Rn_iald hc rfl rfl tgc_180 zsc_180 (by omega) rfl ?_
          refine Rn_ms (σ' := (52, [some (vR 177), some (vI c1), some (vI c2), some (vI c3), some (vI v4), some (vI (f_134 (c1 + v4) c3))], [vR 177, vI (M 180 (wr (f_134 (c1 + v4) c3)).toNat)], (G0, M))) hc 1 rfl ?_
          refine Rn_getR hc rfl tgc_177 (by decide) rfl prc_177_3 ?_
          refine Rn_ms (σ' := (57, [some (vR 177), some (vI c1), some (vI c2), some (vI c3), some (vI v4), some (vI (f_134 (c1 + v4) c3))], [vI v4, vR 181, vI (M 180 (wr (f_134 (c1 + v4) c3)).toNat)], (G0, M))) hc 1 rfl ?_
          refine R_gd e (fun g5 e => ?_)
          refine Rn_iald hc rfl rfl tgc_181 zsc_181 g5 rfl ?_
          show Rn rom (d + 1) 14 (58, [some (vR 177), some (vI c1), some (vI c2), some (vI c3), some (vI v4), some (vI (f_134 (c1 + v4) c3))], [vI (M 181 (wr v4).toNat), vI (M 180 (wr (f_134 (c1 + v4) c3)).toNat)], (G0, M)) out
          refine R_ite e (fun b6 e => ?_) (fun b6 e => ?_)
          · refine Rn_icT (tgt := 63) hc rfl rfl (by decide) b6 ?_
            refine Rn_ms (σ' := (3, [some (vR 177), some (vI c1), some (vI c2), some (vI c3), some (vI (v4 + 1)), some (vI (f_134 (c1 + v4) c3))], [], (G0, M))) hc 2 rfl ?_
            cases e
            exact Rn_weak (xle_s (xle_s (xle_s (xle_s (xle_s (xle_n xle_0)))))) hK
          · refine Rn_icF hc rfl rfl (by decide) b6 ?_
            refine Rn_ms (σ' := (62, [some (vR 177), some (vI c1), some (vI c2), some (vI c3), some (vI v4), some (vI (f_134 (c1 + v4) c3))], [vI 0], (G0, M))) hc 1 rfl ?_
            cases e
            exact R_end (Rn_iret hc rfl rfl (xretB rfl rfl (by decide))) hK
def f_14_L3 (M : xM) (c1 : Int) (c2 : Int) (c3 : Int) (s : Int) : Option (Int) := loop NF (fun s => f_14_L3b M c1 c2 c3 s) s
theorem t_14_L3 {rom : xRom} {d : Nat} {c1 : Int} {c2 : Int} {c3 : Int} {M : xM} {s : Int} {r : Int} {out : Option xV × xH} (e : f_14_L3 M c1 c2 c3 s = some r) (hK : (eI M out) r) : Rn rom (d + 1) 14 (3, [some (vR 177), some (vI c1), some (vI c2), some (vI c3), some (vI s), none], [], (G0, M)) out := by
  unfold f_14_L3 at e
  revert e hK
  exact R_loop (b := fun s => f_14_L3b M c1 c2 c3 s) (G := fun s => Rn rom (d + 1) 14 (3, [some (vR 177), some (vI c1), some (vI c2), some (vI c3), some (vI s), none], [], (G0, M)) out) (K := eI M out) (fun s r e hK => t_14_L3b  e hK) NF s r
/-- PedalLayers$Ear.beginsAt -/
def f_14 (M : xM) (a1 : Int) (a2 : Int) (a3 : Int) : Option (Int) :=
  f_14_L3 M a1 a2 a3 (0)
theorem t_14 {rom : xRom} {d : Nat} {M : xM} {a1 : Int} {a2 : Int} {a3 : Int} {r : Int} {out : Option xV × xH} (e : f_14 M a1 a2 a3 = some r) (hK : eI M out r) : Rn rom (d + 1) 14 (0, [some (vR 177), some (vI a1), some (vI a2), some (vI a3), none, none], [], (G0, M)) out := by
  have hc : xkall.getD 14 [] = xk_14 := rfl
  unfold f_14 at e
  refine Rn_ms (σ' := (3, [some (vR 177), some (vI a1), some (vI a2), some (vI a3), some (vI 0), none], [], (G0, M))) hc 2 rfl ?_
  exact Rn_weak (xle_s (xle_s (xle_s (xle_s (xle_s (xle_s xle_0)))))) (t_14_L3  e hK)
def f_13_L81b (M : xM) (a1 : Nat) (c3 : Int) (c4 : Int) (v5 : Int) (v6 : Int) : Option ((Int × Int) ⊕ (Int × xM)) :=
  if wr c4 ≤ wr v6 then
    some (.inr ((v5, M)))
  else
    (f_14 M v6 c3 c4).bind (fun k5 =>
    if wr k5 = 0 then
      some (.inl (v5, (v6 + 1)))
    else
      some (.inl ((v5 + 1), (v6 + 1)))
    )
theorem t_13_L81b {rom : xRom} {d : Nat} {a1 : Nat} {c3 : Int} {c4 : Int} {v5 : Int} {v6 : Int} {M : xM} (h1 : Tg a1 = 7) {r : (Int × Int) ⊕ (Int × xM)} {out : Option xV × xH} (e : f_13_L81b M a1 c3 c4 v5 v6 = some r) (hK : ((Sum.elim (fun s => Rn rom (d + 4) 13 (81, [some (vR 177), none, none, some (vI c3), some (vI c4), some (vI s.1), some (vI s.2)], [], (G0, M)) out) (eIW out))) r) : Rn rom (d + 4) 13 (81, [some (vR 177), none, none, some (vI c3), some (vI c4), some (vI v5), some (vI v6)], [], (G0, M)) out := by
  have hc : xkall.getD 13 [] = xk_13 := rfl
  unfold f_13_L81b at e
  refine Rn_ms (σ' := (85, [some (vR 177), none, none, some (vI c3), some (vI c4), some (vI v5), some (vI v6)], [vI c4, vI v6], (G0, M))) hc 2 rfl ?_
  refine R_ite e (fun b4 e => ?_) (fun b4 e => ?_)
  · refine Rn_icT (tgt := 109) hc rfl rfl (by decide) b4 ?_
    refine Rn_ms (σ' := (111, [some (vR 177), none, none, some (vI c3), some (vI c4), some (vI v5), some (vI v6)], [vI v5], (G0, M))) hc 1 rfl ?_
    cases e
    exact R_end (Rn_iret hc rfl rfl (xretI rfl rfl)) hK
  · refine Rn_icF hc rfl rfl (by decide) b4 ?_
    refine Rn_ms (σ' := (94, [some (vR 177), none, none, some (vI c3), some (vI c4), some (vI v5), some (vI v6)], [vI c4, vI c3, vI v6, vR 177], (G0, M))) hc 4 rfl ?_
    refine R_bind e (fun k5 hk5 e => ?_)
    refine Rn_cv hc rfl rfl (by decide) (ii := xi_14) rfl rfl rfl (tgc_177 : Tg _ = 0) (by decide) rfl (le := [some (vR 177), some (vI v6), some (vI c3), some (vI c4), none, none]) rfl (v := some (vI k5)) (M' := M) (t_14  (d := d + 2) hk5 rfl) ?_
    show Rn rom (d + 4) 13 (97, [some (vR 177), none, none, some (vI c3), some (vI c4), some (vI v5), some (vI v6)], [vI k5], (G0, M)) out
    refine R_ite e (fun b6 e => ?_) (fun b6 e => ?_)
    · refine Rn_ifT (tgt := 103) hc rfl rfl (by decide) b6 ?_
      refine Rn_ms (σ' := (81, [some (vR 177), none, none, some (vI c3), some (vI c4), some (vI v5), some (vI (v6 + 1))], [], (G0, M))) hc 2 rfl ?_
      cases e
      exact Rn_weak (xle_s (xle_s (xle_s (xle_s (xle_s (xle_s (xle_s xle_0))))))) hK
    · refine Rn_ifF hc rfl rfl (by decide) b6 ?_
      refine Rn_ms (σ' := (81, [some (vR 177), none, none, some (vI c3), some (vI c4), some (vI (v5 + 1)), some (vI (v6 + 1))], [], (G0, M))) hc 3 rfl ?_
      cases e
      exact Rn_weak (xle_s (xle_s (xle_s (xle_s (xle_s (xle_s (xle_s xle_0))))))) hK
def f_13_L81 (M : xM) (a1 : Nat) (c3 : Int) (c4 : Int) (s : Int × Int) : Option (Int × xM) := loop NF (fun s => f_13_L81b M a1 c3 c4 s.1 s.2) s
theorem t_13_L81 {rom : xRom} {d : Nat} {a1 : Nat} {c3 : Int} {c4 : Int} {M : xM} (h1 : Tg a1 = 7) {s : Int × Int} {r : Int × xM} {out : Option xV × xH} (e : f_13_L81 M a1 c3 c4 s = some r) (hK : (eIW out) r) : Rn rom (d + 4) 13 (81, [some (vR 177), none, none, some (vI c3), some (vI c4), some (vI s.1), some (vI s.2)], [], (G0, M)) out := by
  unfold f_13_L81 at e
  revert e hK
  exact R_loop (b := fun s => f_13_L81b M a1 c3 c4 s.1 s.2) (G := fun s => Rn rom (d + 4) 13 (81, [some (vR 177), none, none, some (vI c3), some (vI c4), some (vI s.1), some (vI s.2)], [], (G0, M)) out) (K := eIW out) (fun s r e hK => t_13_L81b h1 e hK) NF s r
def f_13_L30b (a1 : Nat) (c3 : Int) (c4 : Int) (v5 : Int) (M : xM) : Option ((Int × xM) ⊕ (Int × xM)) :=
  if wr c4 ≤ wr v5 then
    (f_13_L81 M a1 c3 c4 (0, 0)).bind (fun o => some (.inr (o)))
  else
    if 48 ≤ wr v5 then
      (f_13_L81 M a1 c3 c4 (0, 0)).bind (fun o => some (.inr (o)))
    else
      (f_1 M a1 (M a1 5) v5).bind (fun k8 =>
      (f_5 k8).bind (fun k9 =>
      gd (0 ≤ wr v5 ∧ wr v5 < 48) (
      bnd (xset k8 180 (wr v5).toNat k9) (fun M11 =>
      some (.inl ((v5 + 1), M11))
      ))))
theorem t_13_L30b {rom : xRom} {d : Nat} {a1 : Nat} {c3 : Int} {c4 : Int} {v5 : Int} {M : xM} (h1 : Tg a1 = 7) {r : (Int × xM) ⊕ (Int × xM)} {out : Option xV × xH} (e : f_13_L30b a1 c3 c4 v5 M = some r) (hK : ((Sum.elim (fun s => Rn rom (d + 4) 13 (30, [some (vR 177), some (vR a1), none, some (vI c3), some (vI c4), some (vI s.1), none], [], (G0, s.2)) out) (eIW out))) r) : Rn rom (d + 4) 13 (30, [some (vR 177), some (vR a1), none, some (vI c3), some (vI c4), some (vI v5), none], [], (G0, M)) out := by
  have hc : xkall.getD 13 [] = xk_13 := rfl
  unfold f_13_L30b at e
  refine Rn_ms (σ' := (34, [some (vR 177), some (vR a1), none, some (vI c3), some (vI c4), some (vI v5), none], [vI c4, vI v5], (G0, M))) hc 2 rfl ?_
  refine R_ite e (fun b3 e => ?_) (fun b3 e => ?_)
  · refine Rn_icT (tgt := 75) hc rfl rfl (by decide) b3 ?_
    refine Rn_ms (σ' := (81, [some (vR 177), some (vR a1), none, some (vI c3), some (vI c4), some (vI 0), some (vI 0)], [], (G0, M))) hc 4 rfl ?_
    refine R_bind e (fun o ho e => ?_)
    cases e
    exact Rn_weak (xle_s (xle_n (xle_s (xle_s (xle_s (xle_s (xle_s xle_0))))))) (t_13_L81 h1 ho hK)
  · refine Rn_icF hc rfl rfl (by decide) b3 ?_
    refine Rn_ms (σ' := (40, [some (vR 177), some (vR a1), none, some (vI c3), some (vI c4), some (vI v5), none], [vR 177, vI v5], (G0, M))) hc 2 rfl ?_
    refine Rn_getR hc rfl tgc_177 (by decide) rfl prc_177_2 ?_
    show Rn rom (d + 4) 13 (43, [some (vR 177), some (vR a1), none, some (vI c3), some (vI c4), some (vI v5), none], [vR 180, vI v5], (G0, M)) out
    refine Rn_alen hc rfl rfl tgc_180 (by decide) zsc_180 ?_
    show Rn rom (d + 4) 13 (44, [some (vR 177), some (vR a1), none, some (vI c3), some (vI c4), some (vI v5), none], [vI 48, vI v5], (G0, M)) out
    refine R_ite e (fun b7 e => ?_) (fun b7 e => ?_)
    · refine Rn_icT (tgt := 75) hc rfl rfl (by decide) b7 ?_
      refine Rn_ms (σ' := (81, [some (vR 177), some (vR a1), none, some (vI c3), some (vI c4), some (vI 0), some (vI 0)], [], (G0, M))) hc 4 rfl ?_
      refine R_bind e (fun o ho e => ?_)
      cases e
      exact Rn_weak (xle_s (xle_n (xle_s (xle_s (xle_s (xle_s (xle_s xle_0))))))) (t_13_L81 h1 ho hK)
    · refine Rn_icF hc rfl rfl (by decide) b7 ?_
      refine Rn_ms (σ' := (50, [some (vR 177), some (vR a1), none, some (vI c3), some (vI c4), some (vI v5), none], [vR a1, vR a1, vR 177], (G0, M))) hc 3 rfl ?_
      refine Rn_getI hc rfl h1 (by decide) (by decide) ?_
      refine Rn_ms (σ' := (55, [some (vR 177), some (vR a1), none, some (vI c3), some (vI c4), some (vI v5), none], [vI v5, vI (M a1 5), vR a1, vR 177], (G0, M))) hc 1 rfl ?_
      refine R_bind e (fun k8 hk8 e => ?_)
      refine Rn_cv hc rfl rfl (by decide) (ii := xi_1) rfl rfl rfl (tgc_177 : Tg _ = 0) (by decide) rfl (le := [some (vR 177), some (vR a1), some (vI (M a1 5)), some (vI v5), none, none, none, none, none]) rfl (v := none) (M' := k8) (t_1 h1 (d := d + 0) hk8 rfl) ?_
      refine Rn_ms (σ' := (59, [some (vR 177), some (vR a1), none, some (vI c3), some (vI c4), some (vI v5), none], [vR 177], (G0, k8))) hc 1 rfl ?_
      refine Rn_getR hc rfl tgc_177 (by decide) rfl prc_177_2 ?_
      refine Rn_ms (σ' := (65, [some (vR 177), some (vR a1), none, some (vI c3), some (vI c4), some (vI v5), none], [vR 177, vI v5, vR 180], (G0, k8))) hc 2 rfl ?_
      refine R_bind e (fun k9 hk9 e => ?_)
      refine Rn_cv hc rfl rfl (by decide) (ii := xi_5) rfl rfl rfl (tgc_177 : Tg _ = 0) (by decide) rfl (le := [some (vR 177), none]) rfl (v := some (vI k9)) (M' := k8) (t_5  (d := d + 2) hk9 rfl) ?_
      show Rn rom (d + 4) 13 (68, [some (vR 177), some (vR a1), none, some (vI c3), some (vI c4), some (vI v5), none], [vI k9, vI v5, vR 180], (G0, k8)) out
      refine R_gd e (fun g10 e => ?_)
      refine R_bnd e (fun M11 hM11 e => ?_)
      refine Rn_iast' hM11 hc rfl rfl tgc_180 zsc_180 g10 rfl ?_
      refine Rn_ms (σ' := (30, [some (vR 177), some (vR a1), none, some (vI c3), some (vI c4), some (vI (v5 + 1)), none], [], (G0, M11))) hc 2 rfl ?_
      cases e
      exact Rn_weak (xle_s (xle_s (xle_s (xle_s (xle_s (xle_s (xle_s xle_0))))))) hK
def f_13_L30 (a1 : Nat) (c3 : Int) (c4 : Int) (s : Int × xM) : Option (Int × xM) := loop NF (fun s => f_13_L30b a1 c3 c4 s.1 s.2) s
theorem t_13_L30 {rom : xRom} {d : Nat} {a1 : Nat} {c3 : Int} {c4 : Int} (h1 : Tg a1 = 7) {s : Int × xM} {r : Int × xM} {out : Option xV × xH} (e : f_13_L30 a1 c3 c4 s = some r) (hK : (eIW out) r) : Rn rom (d + 4) 13 (30, [some (vR 177), some (vR a1), none, some (vI c3), some (vI c4), some (vI s.1), none], [], (G0, s.2)) out := by
  unfold f_13_L30 at e
  revert e hK
  exact R_loop (b := fun s => f_13_L30b a1 c3 c4 s.1 s.2) (G := fun s => Rn rom (d + 4) 13 (30, [some (vR 177), some (vR a1), none, some (vI c3), some (vI c4), some (vI s.1), none], [], (G0, s.2)) out) (K := eIW out) (fun s r e hK => t_13_L30b h1 e hK) NF s r
/-- PedalLayers$Ear.howOften -/
def f_13 (M : xM) (a1 : Nat) : Option (Int × xM) :=
  (f_52 M).bind (fun k1 =>
  (f_62 k1.2 a1 (k1.2 a1 5)).bind (fun k2 =>
  f_13_L30 a1 k1.1 (xmin k2 48) (0, k1.2)
  ))
theorem t_13 {rom : xRom} {d : Nat} {M : xM} {a1 : Nat} (h1 : Tg a1 = 7) {r : Int × xM} {out : Option xV × xH} (e : f_13 M a1 = some r) (hK : eIW out r) : Rn rom (d + 4) 13 (0, [some (vR 177), some (vR a1), some (vR 172), none, none, none, none], [], (G0, M)) out := by
  have hc : xkall.getD 13 [] = xk_13 := rfl
  unfold f_13 at e
  refine Rn_ms (σ' := (2, [some (vR 177), some (vR a1), some (vR 172), none, none, none, none], [vR 177, vR 172], (G0, M))) hc 2 rfl ?_
  refine Rn_getR hc rfl tgc_177 (by decide) rfl prc_177_3 ?_
  show Rn rom (d + 4) 13 (5, [some (vR 177), some (vR a1), some (vR 172), none, none, none, none], [vR 181, vR 172], (G0, M)) out
  refine R_bind e (fun k1 hk1 e => ?_)
  refine Rn_cv hc rfl rfl (by decide) (ii := xi_52) rfl rfl rfl (tgc_172 : Tg _ = 6) (by decide) rfl (le := [some (vR 172), some (vR 181), none, none, none]) rfl (v := some (vI k1.1)) (M' := k1.2) (t_52  (d := d + 0) hk1 rfl) ?_
  refine Rn_ms (σ' := (11, [some (vR 177), some (vR a1), some (vR 172), some (vI k1.1), none, none, none], [vR a1, vR a1], (G0, k1.2))) hc 3 rfl ?_
  refine Rn_getI hc rfl h1 (by decide) (by decide) ?_
  show Rn rom (d + 4) 13 (14, [some (vR 177), some (vR a1), some (vR 172), some (vI k1.1), none, none, none], [vI (k1.2 a1 5), vR a1], (G0, k1.2)) out
  refine R_bind e (fun k2 hk2 e => ?_)
  refine Rn_cv hc rfl rfl (by decide) (ii := xi_62) rfl rfl rfl (h1 : Tg _ = 7) (by decide) rfl (le := [some (vR a1), some (vI (k1.2 a1 5)), none, none, none]) rfl (v := some (vI k2)) (M' := k1.2) (t_62 h1 (d := d + 2) hk2 rfl) ?_
  refine Rn_ms (σ' := (18, [some (vR 177), some (vR a1), some (vR 172), some (vI k1.1), none, none, none], [vR 177, vI k2], (G0, k1.2))) hc 1 rfl ?_
  refine Rn_getR hc rfl tgc_177 (by decide) rfl prc_177_2 ?_
  show Rn rom (d + 4) 13 (21, [some (vR 177), some (vR a1), some (vR 172), some (vI k1.1), none, none, none], [vR 180, vI k2], (G0, k1.2)) out
  refine Rn_alen hc rfl rfl tgc_180 (by decide) zsc_180 ?_
  show Rn rom (d + 4) 13 (22, [some (vR 177), some (vR a1), some (vR 172), some (vI k1.1), none, none, none], [vI 48, vI k2], (G0, k1.2)) out
  refine Rn_min hc rfl rfl (Nat.le_of_ble_eq_true rfl) ?_
  refine Rn_ms (σ' := (30, [some (vR 177), some (vR a1), some (vR 172), some (vI k1.1), some (vI (xmin k2 48)), some (vI 0), none], [], (G0, k1.2))) hc 3 rfl ?_
  exact Rn_weak (xle_s (xle_s (xle_n (xle_s (xle_s (xle_s (xle_s xle_0))))))) (t_13_L30 h1 e hK)
/-- PedalLayers$Halt.isKnown -/
def f_16 (M : xM) : Option (Int) :=
  gd (wr (M 176 0) = 0 ∨ wr (M 176 0) = 1) (
  some (M 176 0)
  )
theorem t_16 {rom : xRom} {d : Nat} {M : xM}  {r : Int} {out : Option xV × xH} (e : f_16 M = some r) (hK : eI M out r) : Rn rom (d + 0) 16 (0, [some (vR 176)], [], (G0, M)) out := by
  have hc : xkall.getD 16 [] = xk_16 := rfl
  unfold f_16 at e
  refine Rn_ms (σ' := (1, [some (vR 176)], [vR 176], (G0, M))) hc 1 rfl ?_
  refine Rn_getI hc rfl tgc_176 (by decide) (by decide) ?_
  show Rn rom (d + 0) 16 (4, [some (vR 176)], [vI (M 176 0)], (G0, M)) out
  refine R_gd e (fun g1 e => ?_)
  cases e
  exact R_end (Rn_iret hc rfl rfl (xretB rfl rfl g1)) hK
/-- PedalLayers$Halt.forget -/
def f_17 (M : xM) : xM :=
  bnd (xset M 176 0 0) (fun M1 =>
  M1
  )
theorem t_17 {rom : xRom} {d : Nat} {M : xM}  {r : xM} {out : Option xV × xH} (e : f_17 M = r) (hK : eVW out r) : Rn rom (d + 0) 17 (0, [some (vR 176)], [], (G0, M)) out := by
  have hc : xkall.getD 17 [] = xk_17 := rfl
  unfold f_17 at e
  refine Rn_ms (σ' := (2, [some (vR 176)], [vI 0, vR 176], (G0, M))) hc 2 rfl ?_
  refine R_bnd e (fun M1 hM1 e => ?_)
  refine Rn_putI' hM1 hc rfl tgc_176 (by decide) (Or.inr ⟨rfl, by decide⟩) ?_
  show Rn rom (d + 0) 17 (5, [some (vR 176)], [], (G0, M1)) out
  cases e
  exact R_end (Rn_vret hc rfl rfl rfl rfl) hK
/-- PedalLayers$Halt.keep -/
def f_18 (M : xM) (a1 : Int) (a2 : Int) (a3 : Int) : xM :=
  bnd (xset M 176 0 1) (fun M1 =>
  bnd (xset M1 176 1 a1) (fun M2 =>
  bnd (xset M2 176 2 a2) (fun M3 =>
  bnd (xset M3 176 3 a3) (fun M4 =>
  M4
  ))))
theorem t_18 {rom : xRom} {d : Nat} {M : xM} {a1 : Int} {a2 : Int} {a3 : Int} {r : xM} {out : Option xV × xH} (e : f_18 M a1 a2 a3 = r) (hK : eVW out r) : Rn rom (d + 0) 18 (0, [some (vR 176), some (vI a1), some (vI a2), some (vI a3)], [], (G0, M)) out := by
  have hc : xkall.getD 18 [] = xk_18 := rfl
  unfold f_18 at e
  refine Rn_ms (σ' := (2, [some (vR 176), some (vI a1), some (vI a2), some (vI a3)], [vI 1, vR 176], (G0, M))) hc 2 rfl ?_
  refine R_bnd e (fun M1 hM1 e => ?_)
  refine Rn_putI' hM1 hc rfl tgc_176 (by decide) (Or.inr ⟨rfl, by decide⟩) ?_
  refine Rn_ms (σ' := (7, [some (vR 176), some (vI a1), some (vI a2), some (vI a3)], [vI a1, vR 176], (G0, M1))) hc 2 rfl ?_
  refine R_bnd e (fun M2 hM2 e => ?_)
  refine Rn_putI' hM2 hc rfl tgc_176 (by decide) (Or.inl rfl) ?_
  refine Rn_ms (σ' := (12, [some (vR 176), some (vI a1), some (vI a2), some (vI a3)], [vI a2, vR 176], (G0, M2))) hc 2 rfl ?_
  refine R_bnd e (fun M3 hM3 e => ?_)
  refine Rn_putI' hM3 hc rfl tgc_176 (by decide) (Or.inl rfl) ?_
  refine Rn_ms (σ' := (17, [some (vR 176), some (vI a1), some (vI a2), some (vI a3)], [vI a3, vR 176], (G0, M3))) hc 2 rfl ?_
  refine R_bnd e (fun M4 hM4 e => ?_)
  refine Rn_putI' hM4 hc rfl tgc_176 (by decide) (Or.inl rfl) ?_
  show Rn rom (d + 0) 18 (20, [some (vR 176), some (vI a1), some (vI a2), some (vI a3)], [], (G0, M4)) out
  cases e
  exact R_end (Rn_vret hc rfl rfl rfl rfl) hK
/-- PedalLayers$Halt.tell -/
def f_19 (M : xM) (a1 : Int) : Int :=
  if wr a1 < 0 then
    (-1)
  else
    if wr a1 ≤ 2 then
      if wr (M 176 0) = 0 then
        (-4)
      else
        if wr a1 = 0 then
          (M 176 1)
        else
          if wr a1 = 1 then
            (M 176 2)
          else
            (M 176 3)
    else
      (-1)
theorem t_19 {rom : xRom} {d : Nat} {M : xM} {a1 : Int} {r : Int} {out : Option xV × xH} (e : f_19 M a1 = r) (hK : eI M out r) : Rn rom (d + 0) 19 (0, [some (vR 176), some (vI a1)], [], (G0, M)) out := by
  have hc : xkall.getD 19 [] = xk_19 := rfl
  unfold f_19 at e
  refine Rn_ms (σ' := (1, [some (vR 176), some (vI a1)], [vI a1], (G0, M))) hc 1 rfl ?_
  refine R_ite e (fun b1 e => ?_) (fun b1 e => ?_)
  · refine Rn_ifT (tgt := 9) hc rfl rfl (by decide) b1 ?_
    refine Rn_ms (σ' := (10, [some (vR 176), some (vI a1)], [vI (-1)], (G0, M))) hc 1 rfl ?_
    cases e
    exact R_end (Rn_iret hc rfl rfl (xretI rfl rfl)) hK
  · refine Rn_ifF hc rfl rfl (by decide) b1 ?_
    refine Rn_ms (σ' := (6, [some (vR 176), some (vI a1)], [vI 2, vI a1], (G0, M))) hc 2 rfl ?_
    refine R_ite e (fun b2 e => ?_) (fun b2 e => ?_)
    · refine Rn_icT (tgt := 11) hc rfl rfl (by decide) b2 ?_
      refine Rn_ms (σ' := (12, [some (vR 176), some (vI a1)], [vR 176], (G0, M))) hc 1 rfl ?_
      refine Rn_getI hc rfl tgc_176 (by decide) (by decide) ?_
      show Rn rom (d + 0) 19 (15, [some (vR 176), some (vI a1)], [vI (M 176 0)], (G0, M)) out
      refine R_ite e (fun b3 e => ?_) (fun b3 e => ?_)
      · refine Rn_ifF hc rfl rfl (by decide) (fun w => w b3) ?_
        refine Rn_ms (σ' := (20, [some (vR 176), some (vI a1)], [vI (-4)], (G0, M))) hc 1 rfl ?_
        cases e
        exact R_end (Rn_iret hc rfl rfl (xretI rfl rfl)) hK
      · refine Rn_ifT (tgt := 21) hc rfl rfl (by decide) (fun w => b3 w) ?_
        refine Rn_ms (σ' := (22, [some (vR 176), some (vI a1)], [vI a1], (G0, M))) hc 1 rfl ?_
        refine R_ite e (fun b4 e => ?_) (fun b4 e => ?_)
        · refine Rn_ifF hc rfl rfl (by decide) (fun w => w b4) ?_
          refine Rn_ms (σ' := (26, [some (vR 176), some (vI a1)], [vR 176], (G0, M))) hc 1 rfl ?_
          refine Rn_getI hc rfl tgc_176 (by decide) (by decide) ?_
          refine Rn_ms (σ' := (48, [some (vR 176), some (vI a1)], [vI (M 176 1)], (G0, M))) hc 1 rfl ?_
          cases e
          exact R_end (Rn_iret hc rfl rfl (xretI rfl rfl)) hK
        · refine Rn_ifT (tgt := 32) hc rfl rfl (by decide) (fun w => b4 w) ?_
          refine Rn_ms (σ' := (34, [some (vR 176), some (vI a1)], [vI 1, vI a1], (G0, M))) hc 2 rfl ?_
          refine R_ite e (fun b5 e => ?_) (fun b5 e => ?_)
          · refine Rn_icF hc rfl rfl (by decide) (fun w => w b5) ?_
            refine Rn_ms (σ' := (38, [some (vR 176), some (vI a1)], [vR 176], (G0, M))) hc 1 rfl ?_
            refine Rn_getI hc rfl tgc_176 (by decide) (by decide) ?_
            refine Rn_ms (σ' := (48, [some (vR 176), some (vI a1)], [vI (M 176 2)], (G0, M))) hc 1 rfl ?_
            cases e
            exact R_end (Rn_iret hc rfl rfl (xretI rfl rfl)) hK
          · refine Rn_icT (tgt := 44) hc rfl rfl (by decide) (fun w => b5 w) ?_
            refine Rn_ms (σ' := (45, [some (vR 176), some (vI a1)], [vR 176], (G0, M))) hc 1 rfl ?_
            refine Rn_getI hc rfl tgc_176 (by decide) (by decide) ?_
            show Rn rom (d + 0) 19 (48, [some (vR 176), some (vI a1)], [vI (M 176 3)], (G0, M)) out
            cases e
            exact R_end (Rn_iret hc rfl rfl (xretI rfl rfl)) hK
    · refine Rn_icF hc rfl rfl (by decide) b2 ?_
      refine Rn_ms (σ' := (10, [some (vR 176), some (vI a1)], [vI (-1)], (G0, M))) hc 1 rfl ?_
      cases e
      exact R_end (Rn_iret hc rfl rfl (xretI rfl rfl)) hK
/-- PedalLayers$History.size -/
def f_21 (M : xM) : Int :=
  (M 50 2)
theorem t_21 {rom : xRom} {d : Nat} {M : xM}  {r : Int} {out : Option xV × xH} (e : f_21 M = r) (hK : eI M out r) : Rn rom (d + 0) 21 (0, [some (vR 50)], [], (G0, M)) out := by
  have hc : xkall.getD 21 [] = xk_21 := rfl
  unfold f_21 at e
  refine Rn_ms (σ' := (1, [some (vR 50)], [vR 50], (G0, M))) hc 1 rfl ?_
  refine Rn_getI hc rfl tgc_50 (by decide) (by decide) ?_
  show Rn rom (d + 0) 21 (4, [some (vR 50)], [vI (M 50 2)], (G0, M)) out
  cases e
  exact R_end (Rn_iret hc rfl rfl (xretI rfl rfl)) hK
/-- PedalLayers$History.stateAt -/
def f_22 (M : xM) (a1 : Int) : Nat :=
  if wr (f_134 ((M 50 1) + a1) 5) < 0 then
    0
  else
    if 5 ≤ wr (f_134 ((M 50 1) + a1) 5) then
      0
    else
      (52 + 24 * ((wr (f_134 ((M 50 1) + a1) 5)).toNat))
theorem t_22 {rom : xRom} {d : Nat} {M : xM} {a1 : Int} {r : Nat} {out : Option xV × xH} (e : f_22 M a1 = r) (hK : eR M out r) : Rn rom (d + 1) 22 (0, [some (vR 50), some (vI a1), none], [], (G0, M)) out := by
  have hc : xkall.getD 22 [] = xk_22 := rfl
  unfold f_22 at e
  refine Rn_ms (σ' := (1, [some (vR 50), some (vI a1), none], [vR 50], (G0, M))) hc 1 rfl ?_
  refine Rn_getI hc rfl tgc_50 (by decide) (by decide) ?_
  refine Rn_ms (σ' := (7, [some (vR 50), some (vI a1), none], [vR 50, vI ((M 50 1) + a1)], (G0, M))) hc 3 rfl ?_
  refine Rn_getR hc rfl tgc_50 (by decide) rfl prc_50_0 ?_
  show Rn rom (d + 1) 22 (10, [some (vR 50), some (vI a1), none], [vR 51, vI ((M 50 1) + a1)], (G0, M)) out
  refine Rn_alen hc rfl rfl tgc_51 (by decide) zsc_51 ?_
  show Rn rom (d + 1) 22 (11, [some (vR 50), some (vI a1), none], [vI 5, vI ((M 50 1) + a1)], (G0, M)) out
  refine Rn_cs hc rfl rfl (by decide) (ii := xi_134) rfl rfl rfl (le := [some (vI ((M 50 1) + a1)), some (vI 5)]) rfl (v := some (vI (f_134 ((M 50 1) + a1) 5))) (M' := M) (t_134  (d := d + 0) rfl rfl) ?_
  refine Rn_ms (σ' := (16, [some (vR 50), some (vI a1), some (vI (f_134 ((M 50 1) + a1) 5))], [vI (f_134 ((M 50 1) + a1) 5)], (G0, M))) hc 2 rfl ?_
  refine R_ite e (fun b1 e => ?_) (fun b1 e => ?_)
  · refine Rn_ifT (tgt := 37) hc rfl rfl (by decide) b1 ?_
    refine Rn_ms (σ' := (38, [some (vR 50), some (vI a1), some (vI (f_134 ((M 50 1) + a1) 5))], [vR 0], (G0, M))) hc 1 rfl ?_
    cases e
    exact R_end (Rn_aret hc rfl rfl rfl rfl) hK
  · refine Rn_ifF hc rfl rfl (by decide) b1 ?_
    refine Rn_ms (σ' := (21, [some (vR 50), some (vI a1), some (vI (f_134 ((M 50 1) + a1) 5))], [vR 50, vI (f_134 ((M 50 1) + a1) 5)], (G0, M))) hc 2 rfl ?_
    refine Rn_getR hc rfl tgc_50 (by decide) rfl prc_50_0 ?_
    show Rn rom (d + 1) 22 (24, [some (vR 50), some (vI a1), some (vI (f_134 ((M 50 1) + a1) 5))], [vR 51, vI (f_134 ((M 50 1) + a1) 5)], (G0, M)) out
    refine Rn_alen hc rfl rfl tgc_51 (by decide) zsc_51 ?_
    show Rn rom (d + 1) 22 (25, [some (vR 50), some (vI a1), some (vI (f_134 ((M 50 1) + a1) 5))], [vI 5, vI (f_134 ((M 50 1) + a1) 5)], (G0, M)) out
    refine R_ite e (fun b2 e => ?_) (fun b2 e => ?_)
    · refine Rn_icT (tgt := 37) hc rfl rfl (by decide) b2 ?_
      refine Rn_ms (σ' := (38, [some (vR 50), some (vI a1), some (vI (f_134 ((M 50 1) + a1) 5))], [vR 0], (G0, M))) hc 1 rfl ?_
      cases e
      exact R_end (Rn_aret hc rfl rfl rfl rfl) hK
    · refine Rn_icF hc rfl rfl (by decide) b2 ?_
      refine Rn_ms (σ' := (29, [some (vR 50), some (vI a1), some (vI (f_134 ((M 50 1) + a1) 5))], [vR 50], (G0, M))) hc 1 rfl ?_
      refine Rn_getR hc rfl tgc_50 (by decide) rfl prc_50_0 ?_
      refine Rn_ms (σ' := (33, [some (vR 50), some (vI a1), some (vI (f_134 ((M 50 1) + a1) 5))], [vI (f_134 ((M 50 1) + a1) 5), vR 51], (G0, M))) hc 1 rfl ?_
      refine Rn_aald' (gE51 _ (by omega)) hc rfl rfl (Or.inl tgc_51) zsc_51 (by omega) rfl ?_
      refine Rn_ms (σ' := (38, [some (vR 50), some (vI a1), some (vI (f_134 ((M 50 1) + a1) 5))], [vR (52 + 24 * ((wr (f_134 ((M 50 1) + a1) 5)).toNat))], (G0, M))) hc 1 rfl ?_
      cases e
      exact R_end (Rn_aret hc rfl rfl rfl rfl) hK
/-- PedalLayers$Pedal.setting -/
def f_59 (M : xM) (a0 : Nat) (a1 : Int) : Int :=
  if wr a1 < 0 then
    0
  else
    if 3 ≤ wr a1 then
      0
    else
      (M (a0 + 1) (wr a1).toNat)
theorem t_59 {rom : xRom} {d : Nat} {M : xM} {a0 : Nat} {a1 : Int} (h0 : Tg a0 = 7) {r : Int} {out : Option xV × xH} (e : f_59 M a0 a1 = r) (hK : eI M out r) : Rn rom (d + 0) 59 (0, [some (vR a0), some (vI a1)], [], (G0, M)) out := by
  have hc : xkall.getD 59 [] = xk_59 := rfl
  unfold f_59 at e
  refine Rn_ms (σ' := (1, [some (vR a0), some (vI a1)], [vI a1], (G0, M))) hc 1 rfl ?_
  refine R_ite e (fun b1 e => ?_) (fun b1 e => ?_)
  · refine Rn_ifT (tgt := 22) hc rfl rfl (by decide) b1 ?_
    refine Rn_ms (σ' := (23, [some (vR a0), some (vI a1)], [vI 0], (G0, M))) hc 1 rfl ?_
    cases e
    exact R_end (Rn_iret hc rfl rfl (xretI rfl rfl)) hK
  · refine Rn_ifF hc rfl rfl (by decide) b1 ?_
    refine Rn_ms (σ' := (6, [some (vR a0), some (vI a1)], [vR a0, vI a1], (G0, M))) hc 2 rfl ?_
    refine Rn_getR hc rfl h0 (by decide) rfl (gP7_0_0 h0) ?_
    show Rn rom (d + 0) 59 (9, [some (vR a0), some (vI a1)], [vR (a0 + 1), vI a1], (G0, M)) out
    refine Rn_alen hc rfl rfl (gT7_1 h0) (by decide) (gZ7_1 h0) ?_
    show Rn rom (d + 0) 59 (10, [some (vR a0), some (vI a1)], [vI 3, vI a1], (G0, M)) out
    refine R_ite e (fun b2 e => ?_) (fun b2 e => ?_)
    · refine Rn_icT (tgt := 22) hc rfl rfl (by decide) b2 ?_
      refine Rn_ms (σ' := (23, [some (vR a0), some (vI a1)], [vI 0], (G0, M))) hc 1 rfl ?_
      cases e
      exact R_end (Rn_iret hc rfl rfl (xretI rfl rfl)) hK
    · refine Rn_icF hc rfl rfl (by decide) b2 ?_
      refine Rn_ms (σ' := (14, [some (vR a0), some (vI a1)], [vR a0], (G0, M))) hc 1 rfl ?_
      refine Rn_getR hc rfl h0 (by decide) rfl (gP7_0_0 h0) ?_
      refine Rn_ms (σ' := (18, [some (vR a0), some (vI a1)], [vI a1, vR (a0 + 1)], (G0, M))) hc 1 rfl ?_
      refine Rn_iald hc rfl rfl (gT7_1 h0) (gZ7_1 h0) (by omega) rfl ?_
      refine Rn_ms (σ' := (23, [some (vR a0), some (vI a1)], [vI (M (a0 + 1) (wr a1).toNat)], (G0, M))) hc 1 rfl ?_
      cases e
      exact R_end (Rn_iret hc rfl rfl (xretI rfl rfl)) hK
/-- PedalLayers$Pedal.takeRuns -/
def f_60 (M : xM) (a0 : Nat) : Int :=
  if wr (M a0 4) = 1 then
    1
  else
    if wr (M a0 4) = 3 then
      1
    else
      0
theorem t_60 {rom : xRom} {d : Nat} {M : xM} {a0 : Nat} (h0 : Tg a0 = 7) {r : Int} {out : Option xV × xH} (e : f_60 M a0 = r) (hK : eI M out r) : Rn rom (d + 0) 60 (0, [some (vR a0)], [], (G0, M)) out := by
  have hc : xkall.getD 60 [] = xk_60 := rfl
  unfold f_60 at e
  refine Rn_ms (σ' := (1, [some (vR a0)], [vR a0], (G0, M))) hc 1 rfl ?_
  refine Rn_getI hc rfl h0 (by decide) (by decide) ?_
  refine Rn_ms (σ' := (5, [some (vR a0)], [vI 1, vI (M a0 4)], (G0, M))) hc 1 rfl ?_
  refine R_ite e (fun b1 e => ?_) (fun b1 e => ?_)
  · refine Rn_icT (tgt := 16) hc rfl rfl (by decide) b1 ?_
    refine Rn_ms (σ' := (21, [some (vR a0)], [vI 1], (G0, M))) hc 2 rfl ?_
    cases e
    exact R_end (Rn_iret hc rfl rfl (xretB rfl rfl (by decide))) hK
  · refine Rn_icF hc rfl rfl (by decide) b1 ?_
    refine Rn_ms (σ' := (9, [some (vR a0)], [vR a0], (G0, M))) hc 1 rfl ?_
    refine Rn_getI hc rfl h0 (by decide) (by decide) ?_
    refine Rn_ms (σ' := (13, [some (vR a0)], [vI 3, vI (M a0 4)], (G0, M))) hc 1 rfl ?_
    refine R_ite e (fun b2 e => ?_) (fun b2 e => ?_)
    · refine Rn_icF hc rfl rfl (by decide) (fun w => w b2) ?_
      refine Rn_ms (σ' := (21, [some (vR a0)], [vI 1], (G0, M))) hc 2 rfl ?_
      cases e
      exact R_end (Rn_iret hc rfl rfl (xretB rfl rfl (by decide))) hK
    · refine Rn_icT (tgt := 20) hc rfl rfl (by decide) (fun w => b2 w) ?_
      refine Rn_ms (σ' := (21, [some (vR a0)], [vI 0], (G0, M))) hc 1 rfl ?_
      cases e
      exact R_end (Rn_iret hc rfl rfl (xretB rfl rfl (by decide))) hK
/-- PedalLayers$Notes.copyFrom -/
def f_33 (M : xM) (a0 : Nat) (a1 : Nat) (a2 : Int) : Option (xM) :=
  if wr (a2 * 36) < 0 then
    some (M)
  else
    if 1728 < wr (a2 * 36) then
      some (M)
    else
      if 1728 < wr (a2 * 36) then
        some (M)
      else
        gd (0 ≤ wr (a2 * 36) ∧ wr (a2 * 36) ≤ 1728 ∧ wr (a2 * 36) ≤ 1728) (
        bnd (xrow M (a0 + 1) (xcpy (M (a1 + 1)) (M (a0 + 1)) 0 0 (wr (a2 * 36)).toNat)) (fun M5 =>
        bnd (xset M5 a0 1 a2) (fun M6 =>
        some (M6)
        )))
theorem t_33 {rom : xRom} {d : Nat} {M : xM} {a0 : Nat} {a1 : Nat} {a2 : Int} (h0 : Tg a0 = 4) (h1 : Tg a1 = 4) {r : xM} {out : Option xV × xH} (e : f_33 M a0 a1 a2 = some r) (hK : eVW out r) : Rn rom (d + 1) 33 (0, [some (vR a0), some (vR a1), some (vI a2), none], [], (G0, M)) out := by
  have hc : xkall.getD 33 [] = xk_33 := rfl
  unfold f_33 at e
  refine Rn_ms (σ' := (6, [some (vR a0), some (vR a1), some (vI a2), some (vI (a2 * 36))], [vI (a2 * 36)], (G0, M))) hc 5 rfl ?_
  refine R_ite e (fun b1 e => ?_) (fun b1 e => ?_)
  · refine Rn_ifT (tgt := 46) hc rfl rfl (by decide) b1 ?_
    show Rn rom (d + 1) 33 (46, [some (vR a0), some (vR a1), some (vI a2), some (vI (a2 * 36))], [], (G0, M)) out
    cases e
    exact R_end (Rn_vret hc rfl rfl rfl rfl) hK
  · refine Rn_ifF hc rfl rfl (by decide) b1 ?_
    refine Rn_ms (σ' := (11, [some (vR a0), some (vR a1), some (vI a2), some (vI (a2 * 36))], [vR a1, vI (a2 * 36)], (G0, M))) hc 2 rfl ?_
    refine Rn_getR hc rfl h1 (by decide) rfl (gP4_0_0 h1) ?_
    show Rn rom (d + 1) 33 (14, [some (vR a0), some (vR a1), some (vI a2), some (vI (a2 * 36))], [vR (a1 + 1), vI (a2 * 36)], (G0, M)) out
    refine Rn_alen hc rfl rfl (gT4_1 h1) (by decide) (gZ4_1 h1) ?_
    show Rn rom (d + 1) 33 (15, [some (vR a0), some (vR a1), some (vI a2), some (vI (a2 * 36))], [vI 1728, vI (a2 * 36)], (G0, M)) out
    refine R_ite e (fun b2 e => ?_) (fun b2 e => ?_)
    · refine Rn_icT (tgt := 46) hc rfl rfl (by decide) b2 ?_
      show Rn rom (d + 1) 33 (46, [some (vR a0), some (vR a1), some (vI a2), some (vI (a2 * 36))], [], (G0, M)) out
      cases e
      exact R_end (Rn_vret hc rfl rfl rfl rfl) hK
    · refine Rn_icF hc rfl rfl (by decide) b2 ?_
      refine Rn_ms (σ' := (20, [some (vR a0), some (vR a1), some (vI a2), some (vI (a2 * 36))], [vR a0, vI (a2 * 36)], (G0, M))) hc 2 rfl ?_
      refine Rn_getR hc rfl h0 (by decide) rfl (gP4_0_0 h0) ?_
      show Rn rom (d + 1) 33 (23, [some (vR a0), some (vR a1), some (vI a2), some (vI (a2 * 36))], [vR (a0 + 1), vI (a2 * 36)], (G0, M)) out
      refine Rn_alen hc rfl rfl (gT4_1 h0) (by decide) (gZ4_1 h0) ?_
      show Rn rom (d + 1) 33 (24, [some (vR a0), some (vR a1), some (vI a2), some (vI (a2 * 36))], [vI 1728, vI (a2 * 36)], (G0, M)) out
      refine R_ite e (fun b3 e => ?_) (fun b3 e => ?_)
      · refine Rn_icT (tgt := 46) hc rfl rfl (by decide) b3 ?_
        show Rn rom (d + 1) 33 (46, [some (vR a0), some (vR a1), some (vI a2), some (vI (a2 * 36))], [], (G0, M)) out
        cases e
        exact R_end (Rn_vret hc rfl rfl rfl rfl) hK
      · refine Rn_icF hc rfl rfl (by decide) b3 ?_
        refine Rn_ms (σ' := (28, [some (vR a0), some (vR a1), some (vI a2), some (vI (a2 * 36))], [vR a1], (G0, M))) hc 1 rfl ?_
        refine Rn_getR hc rfl h1 (by decide) rfl (gP4_0_0 h1) ?_
        refine Rn_ms (σ' := (33, [some (vR a0), some (vR a1), some (vI a2), some (vI (a2 * 36))], [vR a0, vI 0, vR (a1 + 1)], (G0, M))) hc 2 rfl ?_
        refine Rn_getR hc rfl h0 (by decide) rfl (gP4_0_0 h0) ?_
        refine Rn_ms (σ' := (38, [some (vR a0), some (vR a1), some (vI a2), some (vI (a2 * 36))], [vI (a2 * 36), vI 0, vR (a0 + 1), vI 0, vR (a1 + 1)], (G0, M))) hc 2 rfl ?_
        refine R_gd e (fun g4 e => ?_)
        refine R_bnd e (fun M5 hM5 e => ?_)
        refine Rn_copy' hM5 hc rfl rfl (gT4_1 h0) (gT4_1 h1) (gZ4_1 h0) (gZ4_1 h1) g4 (Nat.le_of_ble_eq_true rfl) ?_
        refine Rn_ms (σ' := (43, [some (vR a0), some (vR a1), some (vI a2), some (vI (a2 * 36))], [vI a2, vR a0], (G0, M5))) hc 2 rfl ?_
        refine R_bnd e (fun M6 hM6 e => ?_)
        refine Rn_putI' hM6 hc rfl h0 (by decide) (Or.inl rfl) ?_
        show Rn rom (d + 1) 33 (46, [some (vR a0), some (vR a1), some (vI a2), some (vI (a2 * 36))], [], (G0, M6)) out
        cases e
        exact R_end (Rn_vret hc rfl rfl rfl rfl) hK
/-- PedalLayers$Take.copyFrom -/
def f_91 (M : xM) (a0 : Nat) (a1 : Nat) : Option (xM) :=
  (f_33 M (a0 + 1) (a1 + 1) (f_29 M (a1 + 1))).bind (fun k1 =>
  bnd (xset k1 a0 1 (k1 a1 1)) (fun M2 =>
  bnd (xset M2 a0 2 (M2 a1 2)) (fun M3 =>
  some (M3)
  )))
theorem t_91 {rom : xRom} {d : Nat} {M : xM} {a0 : Nat} {a1 : Nat} (h0 : Tg a0 = 8) (h1 : Tg a1 = 8) {r : xM} {out : Option xV × xH} (e : f_91 M a0 a1 = some r) (hK : eVW out r) : Rn rom (d + 2) 91 (0, [some (vR a0), some (vR a1)], [], (G0, M)) out := by
  have hc : xkall.getD 91 [] = xk_91 := rfl
  unfold f_91 at e
  refine Rn_ms (σ' := (1, [some (vR a0), some (vR a1)], [vR a0], (G0, M))) hc 1 rfl ?_
  refine Rn_getR hc rfl h0 (by decide) rfl (gP8_0_0 h0) ?_
  refine Rn_ms (σ' := (5, [some (vR a0), some (vR a1)], [vR a1, vR (a0 + 1)], (G0, M))) hc 1 rfl ?_
  refine Rn_getR hc rfl h1 (by decide) rfl (gP8_0_0 h1) ?_
  refine Rn_ms (σ' := (9, [some (vR a0), some (vR a1)], [vR a1, vR (a1 + 1), vR (a0 + 1)], (G0, M))) hc 1 rfl ?_
  refine Rn_getR hc rfl h1 (by decide) rfl (gP8_0_0 h1) ?_
  show Rn rom (d + 2) 91 (12, [some (vR a0), some (vR a1)], [vR (a1 + 1), vR (a1 + 1), vR (a0 + 1)], (G0, M)) out
  refine Rn_cv hc rfl rfl (by decide) (ii := xi_29) rfl rfl rfl ((gT8_1 h1) : Tg _ = 4) (by decide) rfl (le := [some (vR (a1 + 1))]) rfl (v := some (vI (f_29 M (a1 + 1)))) (M' := M) (t_29 (gT8_1 h1) (d := d + 1) rfl rfl) ?_
  show Rn rom (d + 2) 91 (15, [some (vR a0), some (vR a1)], [vI (f_29 M (a1 + 1)), vR (a1 + 1), vR (a0 + 1)], (G0, M)) out
  refine R_bind e (fun k1 hk1 e => ?_)
  refine Rn_cv hc rfl rfl (by decide) (ii := xi_33) rfl rfl rfl ((gT8_1 h0) : Tg _ = 4) (by decide) rfl (le := [some (vR (a0 + 1)), some (vR (a1 + 1)), some (vI (f_29 M (a1 + 1))), none]) rfl (v := none) (M' := k1) (t_33 (gT8_1 h0) (gT8_1 h1) (d := d + 0) hk1 rfl) ?_
  refine Rn_ms (σ' := (20, [some (vR a0), some (vR a1)], [vR a1, vR a0], (G0, k1))) hc 2 rfl ?_
  refine Rn_getI hc rfl h1 (by decide) (by decide) ?_
  show Rn rom (d + 2) 91 (23, [some (vR a0), some (vR a1)], [vI (k1 a1 1), vR a0], (G0, k1)) out
  refine R_bnd e (fun M2 hM2 e => ?_)
  refine Rn_putI' hM2 hc rfl h0 (by decide) (Or.inl rfl) ?_
  refine Rn_ms (σ' := (28, [some (vR a0), some (vR a1)], [vR a1, vR a0], (G0, M2))) hc 2 rfl ?_
  refine Rn_getI hc rfl h1 (by decide) (by decide) ?_
  show Rn rom (d + 2) 91 (31, [some (vR a0), some (vR a1)], [vI (M2 a1 2), vR a0], (G0, M2)) out
  refine R_bnd e (fun M3 hM3 e => ?_)
  refine Rn_putI' hM3 hc rfl h0 (by decide) (Or.inl rfl) ?_
  show Rn rom (d + 2) 91 (34, [some (vR a0), some (vR a1)], [], (G0, M3)) out
  cases e
  exact R_end (Rn_vret hc rfl rfl rfl rfl) hK
/-- PedalLayers$Layer.copyFrom -/
def f_27 (M : xM) (a0 : Nat) (a1 : Nat) : Option (xM) :=
  (f_33 M (a0 + 1) (a1 + 1) (f_29 M (a1 + 1))).bind (fun k1 =>
  gd (wr (k1 a1 1) = 0 ∨ wr (k1 a1 1) = 1) (
  bnd (xset k1 a0 1 (k1 a1 1)) (fun M3 =>
  bnd (xset M3 a0 2 (M3 a1 2)) (fun M4 =>
  some (M4)
  ))))
theorem t_27 {rom : xRom} {d : Nat} {M : xM} {a0 : Nat} {a1 : Nat} (h0 : Tg a0 = 3) (h1 : Tg a1 = 3) {r : xM} {out : Option xV × xH} (e : f_27 M a0 a1 = some r) (hK : eVW out r) : Rn rom (d + 2) 27 (0, [some (vR a0), some (vR a1)], [], (G0, M)) out := by
  have hc : xkall.getD 27 [] = xk_27 := rfl
  unfold f_27 at e
  refine Rn_ms (σ' := (1, [some (vR a0), some (vR a1)], [vR a0], (G0, M))) hc 1 rfl ?_
  refine Rn_getR hc rfl h0 (by decide) rfl (gP3_0_0 h0) ?_
  refine Rn_ms (σ' := (5, [some (vR a0), some (vR a1)], [vR a1, vR (a0 + 1)], (G0, M))) hc 1 rfl ?_
  refine Rn_getR hc rfl h1 (by decide) rfl (gP3_0_0 h1) ?_
  refine Rn_ms (σ' := (9, [some (vR a0), some (vR a1)], [vR a1, vR (a1 + 1), vR (a0 + 1)], (G0, M))) hc 1 rfl ?_
  refine Rn_getR hc rfl h1 (by decide) rfl (gP3_0_0 h1) ?_
  show Rn rom (d + 2) 27 (12, [some (vR a0), some (vR a1)], [vR (a1 + 1), vR (a1 + 1), vR (a0 + 1)], (G0, M)) out
  refine Rn_cv hc rfl rfl (by decide) (ii := xi_29) rfl rfl rfl ((gT3_1 h1) : Tg _ = 4) (by decide) rfl (le := [some (vR (a1 + 1))]) rfl (v := some (vI (f_29 M (a1 + 1)))) (M' := M) (t_29 (gT3_1 h1) (d := d + 1) rfl rfl) ?_
  show Rn rom (d + 2) 27 (15, [some (vR a0), some (vR a1)], [vI (f_29 M (a1 + 1)), vR (a1 + 1), vR (a0 + 1)], (G0, M)) out
  refine R_bind e (fun k1 hk1 e => ?_)
  refine Rn_cv hc rfl rfl (by decide) (ii := xi_33) rfl rfl rfl ((gT3_1 h0) : Tg _ = 4) (by decide) rfl (le := [some (vR (a0 + 1)), some (vR (a1 + 1)), some (vI (f_29 M (a1 + 1))), none]) rfl (v := none) (M' := k1) (t_33 (gT3_1 h0) (gT3_1 h1) (d := d + 0) hk1 rfl) ?_
  refine Rn_ms (σ' := (20, [some (vR a0), some (vR a1)], [vR a1, vR a0], (G0, k1))) hc 2 rfl ?_
  refine Rn_getI hc rfl h1 (by decide) (by decide) ?_
  show Rn rom (d + 2) 27 (23, [some (vR a0), some (vR a1)], [vI (k1 a1 1), vR a0], (G0, k1)) out
  refine R_gd e (fun g2 e => ?_)
  refine R_bnd e (fun M3 hM3 e => ?_)
  refine Rn_putI' hM3 hc rfl h0 (by decide) (Or.inr ⟨rfl, g2⟩) ?_
  refine Rn_ms (σ' := (28, [some (vR a0), some (vR a1)], [vR a1, vR a0], (G0, M3))) hc 2 rfl ?_
  refine Rn_getI hc rfl h1 (by decide) (by decide) ?_
  show Rn rom (d + 2) 27 (31, [some (vR a0), some (vR a1)], [vI (M3 a1 2), vR a0], (G0, M3)) out
  refine R_bnd e (fun M4 hM4 e => ?_)
  refine Rn_putI' hM4 hc rfl h0 (by decide) (Or.inl rfl) ?_
  show Rn rom (d + 2) 27 (34, [some (vR a0), some (vR a1)], [], (G0, M4)) out
  cases e
  exact R_end (Rn_vret hc rfl rfl rfl rfl) hK
/-- PedalLayers$Pedal.copyLayer -/
def f_56 (M : xM) (a0 : Nat) (a1 : Nat) : Option (xM) :=
  if a0 = 0 then
    some (M)
  else
    if a1 = 0 then
      some (M)
    else
      gd (Tg a0 = 3) (
      gd (Tg a1 = 3) (
      (f_27 M a0 a1).bind (fun k5 =>
      some (k5)
      )))
theorem t_56 {rom : xRom} {d : Nat} {M : xM} {a0 : Nat} {a1 : Nat} {r : xM} {out : Option xV × xH} (e : f_56 M a0 a1 = some r) (hK : eVW out r) : Rn rom (d + 3) 56 (0, [some (vR a0), some (vR a1)], [], (G0, M)) out := by
  have hc : xkall.getD 56 [] = xk_56 := rfl
  unfold f_56 at e
  refine Rn_ms (σ' := (1, [some (vR a0), some (vR a1)], [vR a0], (G0, M))) hc 1 rfl ?_
  refine R_ite e (fun b1 e => ?_) (fun b1 e => ?_)
  · refine Rn_nuT (tgt := 13) hc rfl rfl (by decide) b1 ?_
    show Rn rom (d + 3) 56 (13, [some (vR a0), some (vR a1)], [], (G0, M)) out
    cases e
    exact R_end (Rn_vret hc rfl rfl rfl rfl) hK
  · refine Rn_nuF hc rfl rfl (by decide) b1 ?_
    refine Rn_ms (σ' := (5, [some (vR a0), some (vR a1)], [vR a1], (G0, M))) hc 1 rfl ?_
    refine R_ite e (fun b2 e => ?_) (fun b2 e => ?_)
    · refine Rn_nuT (tgt := 13) hc rfl rfl (by decide) b2 ?_
      show Rn rom (d + 3) 56 (13, [some (vR a0), some (vR a1)], [], (G0, M)) out
      cases e
      exact R_end (Rn_vret hc rfl rfl rfl rfl) hK
    · refine Rn_nuF hc rfl rfl (by decide) b2 ?_
      refine Rn_ms (σ' := (10, [some (vR a0), some (vR a1)], [vR a1, vR a0], (G0, M))) hc 2 rfl ?_
      refine R_gd e (fun g3 e => ?_)
      refine R_gd e (fun g4 e => ?_)
      refine R_bind e (fun k5 hk5 e => ?_)
      refine Rn_cv hc rfl rfl (by decide) (ii := xi_27) rfl rfl rfl (g3 : Tg _ = 3) (by decide) rfl (le := [some (vR a0), some (vR a1)]) rfl (v := none) (M' := k5) (t_27 g3 g4 (d := d + 0) hk5 rfl) ?_
      show Rn rom (d + 3) 56 (13, [some (vR a0), some (vR a1)], [], (G0, k5)) out
      cases e
      exact R_end (Rn_vret hc rfl rfl rfl rfl) hK
def f_55_L112b (a0 : Nat) (a1 : Nat) (v2 : Int) (M : xM) : Option ((Int × xM) ⊕ (xM)) :=
  if wr ((M a0 5) + (M a0 6)) ≤ wr v2 then
    some (.inr (M))
  else
    (f_56 M (f_57 a0 v2) (f_57 a1 v2)).bind (fun k13 =>
    some (.inl ((v2 + 1), k13))
    )
theorem t_55_L112b {rom : xRom} {d : Nat} {a0 : Nat} {a1 : Nat} {v2 : Int} {M : xM} (h0 : Tg a0 = 7) (h1 : Tg a1 = 7) {r : (Int × xM) ⊕ (xM)} {out : Option xV × xH} (e : f_55_L112b a0 a1 v2 M = some r) (hK : ((Sum.elim (fun s => Rn rom (d + 4) 55 (112, [some (vR a0), some (vR a1), some (vI s.1)], [], (G0, s.2)) out) (eVW out))) r) : Rn rom (d + 4) 55 (112, [some (vR a0), some (vR a1), some (vI v2)], [], (G0, M)) out := by
  have hc : xkall.getD 55 [] = xk_55 := rfl
  unfold f_55_L112b at e
  refine Rn_ms (σ' := (114, [some (vR a0), some (vR a1), some (vI v2)], [vR a0, vI v2], (G0, M))) hc 2 rfl ?_
  refine Rn_getI hc rfl h0 (by decide) (by decide) ?_
  refine Rn_ms (σ' := (118, [some (vR a0), some (vR a1), some (vI v2)], [vR a0, vI (M a0 5), vI v2], (G0, M))) hc 1 rfl ?_
  refine Rn_getI hc rfl h0 (by decide) (by decide) ?_
  refine Rn_ms (σ' := (122, [some (vR a0), some (vR a1), some (vI v2)], [vI ((M a0 5) + (M a0 6)), vI v2], (G0, M))) hc 1 rfl ?_
  refine R_ite e (fun b12 e => ?_) (fun b12 e => ?_)
  · refine Rn_icT (tgt := 144) hc rfl rfl (by decide) b12 ?_
    show Rn rom (d + 4) 55 (144, [some (vR a0), some (vR a1), some (vI v2)], [], (G0, M)) out
    cases e
    exact R_end (Rn_vret hc rfl rfl rfl rfl) hK
  · refine Rn_icF hc rfl rfl (by decide) b12 ?_
    refine Rn_ms (σ' := (127, [some (vR a0), some (vR a1), some (vI v2)], [vI v2, vR a0], (G0, M))) hc 2 rfl ?_
    refine Rn_cv hc rfl rfl (by decide) (ii := xi_57) rfl rfl rfl (h0 : Tg _ = 7) (by decide) rfl (le := [some (vR a0), some (vI v2)]) rfl (v := some (vR (f_57 a0 v2))) (M' := M) (t_57 h0 (d := d + 3) rfl rfl) ?_
    refine Rn_ms (σ' := (132, [some (vR a0), some (vR a1), some (vI v2)], [vI v2, vR a1, vR (f_57 a0 v2)], (G0, M))) hc 2 rfl ?_
    refine Rn_cv hc rfl rfl (by decide) (ii := xi_57) rfl rfl rfl (h1 : Tg _ = 7) (by decide) rfl (le := [some (vR a1), some (vI v2)]) rfl (v := some (vR (f_57 a1 v2))) (M' := M) (t_57 h1 (d := d + 3) rfl rfl) ?_
    show Rn rom (d + 4) 55 (135, [some (vR a0), some (vR a1), some (vI v2)], [vR (f_57 a1 v2), vR (f_57 a0 v2)], (G0, M)) out
    refine R_bind e (fun k13 hk13 e => ?_)
    refine Rn_cs hc rfl rfl (by decide) (ii := xi_56) rfl rfl rfl (le := [some (vR (f_57 a0 v2)), some (vR (f_57 a1 v2))]) rfl (v := none) (M' := k13) (t_56  (d := d + 0) hk13 rfl) ?_
    refine Rn_ms (σ' := (112, [some (vR a0), some (vR a1), some (vI (v2 + 1))], [], (G0, k13))) hc 2 rfl ?_
    cases e
    exact Rn_weak (xle_s (xle_s (xle_s xle_0))) hK
def f_55_L112 (a0 : Nat) (a1 : Nat) (s : Int × xM) : Option (xM) := loop NF (fun s => f_55_L112b a0 a1 s.1 s.2) s
theorem t_55_L112 {rom : xRom} {d : Nat} {a0 : Nat} {a1 : Nat} (h0 : Tg a0 = 7) (h1 : Tg a1 = 7) {s : Int × xM} {r : xM} {out : Option xV × xH} (e : f_55_L112 a0 a1 s = some r) (hK : (eVW out) r) : Rn rom (d + 4) 55 (112, [some (vR a0), some (vR a1), some (vI s.1)], [], (G0, s.2)) out := by
  unfold f_55_L112 at e
  revert e hK
  exact R_loop (b := fun s => f_55_L112b a0 a1 s.1 s.2) (G := fun s => Rn rom (d + 4) 55 (112, [some (vR a0), some (vR a1), some (vI s.1)], [], (G0, s.2)) out) (K := eVW out) (fun s r e hK => t_55_L112b h0 h1 e hK) NF s r
def f_55_L2b (a0 : Nat) (a1 : Nat) (v2 : Int) (M : xM) : Option ((Int × xM) ⊕ (xM)) :=
  if 3 ≤ wr v2 then
    gd (wr (M a1 3) = 0 ∨ wr (M a1 3) = 1) (
    bnd (xset M a0 3 (M a1 3)) (fun M3 =>
    bnd (xset M3 a0 4 (M3 a1 4)) (fun M4 =>
    bnd (xset M4 a0 5 (M4 a1 5)) (fun M5 =>
    bnd (xset M5 a0 6 (M5 a1 6)) (fun M6 =>
    bnd (xset M6 a0 7 (M6 a1 7)) (fun M7 =>
    bnd (xset M7 a0 8 (M7 a1 8)) (fun M8 =>
    bnd (xset M8 a0 9 (M8 a1 9)) (fun M9 =>
    bnd (xset M9 a0 10 (M9 a1 10)) (fun M10 =>
    if wr (f_60 M10 a0) = 0 then
      (f_55_L112 a0 a1 (0, M10)).bind (fun o => some (.inr (o)))
    else
      (f_91 M10 (a0 + 3) (a1 + 3)).bind (fun k14 =>
      (f_55_L112 a0 a1 (0, k14)).bind (fun o => some (.inr (o)))
      )
    )))))))))
  else
    gd (0 ≤ wr v2 ∧ wr v2 < 3) (
    bnd (xset M (a0 + 1) (wr v2).toNat (f_59 M a1 v2)) (fun M16 =>
    some (.inl ((v2 + 1), M16))
    ))
theorem t_55_L2b {rom : xRom} {d : Nat} {a0 : Nat} {a1 : Nat} {v2 : Int} {M : xM} (h0 : Tg a0 = 7) (h1 : Tg a1 = 7) {r : (Int × xM) ⊕ (xM)} {out : Option xV × xH} (e : f_55_L2b a0 a1 v2 M = some r) (hK : ((Sum.elim (fun s => Rn rom (d + 4) 55 (2, [some (vR a0), some (vR a1), some (vI s.1)], [], (G0, s.2)) out) (eVW out))) r) : Rn rom (d + 4) 55 (2, [some (vR a0), some (vR a1), some (vI v2)], [], (G0, M)) out := by
  have hc : xkall.getD 55 [] = xk_55 := rfl
  unfold f_55_L2b at e
  refine Rn_ms (σ' := (4, [some (vR a0), some (vR a1), some (vI v2)], [vR a0, vI v2], (G0, M))) hc 2 rfl ?_
  refine Rn_getR hc rfl h0 (by decide) rfl (gP7_0_0 h0) ?_
  show Rn rom (d + 4) 55 (7, [some (vR a0), some (vR a1), some (vI v2)], [vR (a0 + 1), vI v2], (G0, M)) out
  refine Rn_alen hc rfl rfl (gT7_1 h0) (by decide) (gZ7_1 h0) ?_
  show Rn rom (d + 4) 55 (8, [some (vR a0), some (vR a1), some (vI v2)], [vI 3, vI v2], (G0, M)) out
  refine R_ite e (fun b1 e => ?_) (fun b1 e => ?_)
  · refine Rn_icT (tgt := 28) hc rfl rfl (by decide) b1 ?_
    refine Rn_ms (σ' := (30, [some (vR a0), some (vR a1), some (vI v2)], [vR a1, vR a0], (G0, M))) hc 2 rfl ?_
    refine Rn_getI hc rfl h1 (by decide) (by decide) ?_
    show Rn rom (d + 4) 55 (33, [some (vR a0), some (vR a1), some (vI v2)], [vI (M a1 3), vR a0], (G0, M)) out
    refine R_gd e (fun g2 e => ?_)
    refine R_bnd e (fun M3 hM3 e => ?_)
    refine Rn_putI' hM3 hc rfl h0 (by decide) (Or.inr ⟨rfl, g2⟩) ?_
    refine Rn_ms (σ' := (38, [some (vR a0), some (vR a1), some (vI v2)], [vR a1, vR a0], (G0, M3))) hc 2 rfl ?_
    refine Rn_getI hc rfl h1 (by decide) (by decide) ?_
    show Rn rom (d + 4) 55 (41, [some (vR a0), some (vR a1), some (vI v2)], [vI (M3 a1 4), vR a0], (G0, M3)) out
    refine R_bnd e (fun M4 hM4 e => ?_)
    refine Rn_putI' hM4 hc rfl h0 (by decide) (Or.inl rfl) ?_
    refine Rn_ms (σ' := (46, [some (vR a0), some (vR a1), some (vI v2)], [vR a1, vR a0], (G0, M4))) hc 2 rfl ?_
    refine Rn_getI hc rfl h1 (by decide) (by decide) ?_
    show Rn rom (d + 4) 55 (49, [some (vR a0), some (vR a1), some (vI v2)], [vI (M4 a1 5), vR a0], (G0, M4)) out
    refine R_bnd e (fun M5 hM5 e => ?_)
    refine Rn_putI' hM5 hc rfl h0 (by decide) (Or.inl rfl) ?_
    refine Rn_ms (σ' := (54, [some (vR a0), some (vR a1), some (vI v2)], [vR a1, vR a0], (G0, M5))) hc 2 rfl ?_
    refine Rn_getI hc rfl h1 (by decide) (by decide) ?_
    show Rn rom (d + 4) 55 (57, [some (vR a0), some (vR a1), some (vI v2)], [vI (M5 a1 6), vR a0], (G0, M5)) out
    refine R_bnd e (fun M6 hM6 e => ?_)
    refine Rn_putI' hM6 hc rfl h0 (by decide) (Or.inl rfl) ?_
    refine Rn_ms (σ' := (62, [some (vR a0), some (vR a1), some (vI v2)], [vR a1, vR a0], (G0, M6))) hc 2 rfl ?_
    refine Rn_getI hc rfl h1 (by decide) (by decide) ?_
    show Rn rom (d + 4) 55 (65, [some (vR a0), some (vR a1), some (vI v2)], [vI (M6 a1 7), vR a0], (G0, M6)) out
    refine R_bnd e (fun M7 hM7 e => ?_)
    refine Rn_putI' hM7 hc rfl h0 (by decide) (Or.inl rfl) ?_
    refine Rn_ms (σ' := (70, [some (vR a0), some (vR a1), some (vI v2)], [vR a1, vR a0], (G0, M7))) hc 2 rfl ?_
    refine Rn_getI hc rfl h1 (by decide) (by decide) ?_
    show Rn rom (d + 4) 55 (73, [some (vR a0), some (vR a1), some (vI v2)], [vI (M7 a1 8), vR a0], (G0, M7)) out
    refine R_bnd e (fun M8 hM8 e => ?_)
    refine Rn_putI' hM8 hc rfl h0 (by decide) (Or.inl rfl) ?_
    refine Rn_ms (σ' := (78, [some (vR a0), some (vR a1), some (vI v2)], [vR a1, vR a0], (G0, M8))) hc 2 rfl ?_
    refine Rn_getI hc rfl h1 (by decide) (by decide) ?_
    show Rn rom (d + 4) 55 (81, [some (vR a0), some (vR a1), some (vI v2)], [vI (M8 a1 9), vR a0], (G0, M8)) out
    refine R_bnd e (fun M9 hM9 e => ?_)
    refine Rn_putI' hM9 hc rfl h0 (by decide) (Or.inl rfl) ?_
    refine Rn_ms (σ' := (86, [some (vR a0), some (vR a1), some (vI v2)], [vR a1, vR a0], (G0, M9))) hc 2 rfl ?_
    refine Rn_getI hc rfl h1 (by decide) (by decide) ?_
    show Rn rom (d + 4) 55 (89, [some (vR a0), some (vR a1), some (vI v2)], [vI (M9 a1 10), vR a0], (G0, M9)) out
    refine R_bnd e (fun M10 hM10 e => ?_)
    refine Rn_putI' hM10 hc rfl h0 (by decide) (Or.inl rfl) ?_
    refine Rn_ms (σ' := (93, [some (vR a0), some (vR a1), some (vI v2)], [vR a0], (G0, M10))) hc 1 rfl ?_
    refine Rn_cv hc rfl rfl (by decide) (ii := xi_60) rfl rfl rfl (h0 : Tg _ = 7) (by decide) rfl (le := [some (vR a0)]) rfl (v := some (vI (f_60 M10 a0))) (M' := M10) (t_60 h0 (d := d + 3) rfl rfl) ?_
    show Rn rom (d + 4) 55 (96, [some (vR a0), some (vR a1), some (vI v2)], [vI (f_60 M10 a0)], (G0, M10)) out
    refine R_ite e (fun b11 e => ?_) (fun b11 e => ?_)
    · refine Rn_ifT (tgt := 110) hc rfl rfl (by decide) b11 ?_
      refine Rn_ms (σ' := (112, [some (vR a0), some (vR a1), some (vI 0)], [], (G0, M10))) hc 2 rfl ?_
      refine R_bind e (fun o ho e => ?_)
      cases e
      exact Rn_weak (xle_s (xle_s (xle_s xle_0))) (t_55_L112 h0 h1 ho hK)
    · refine Rn_ifF hc rfl rfl (by decide) b11 ?_
      refine Rn_ms (σ' := (100, [some (vR a0), some (vR a1), some (vI v2)], [vR a0], (G0, M10))) hc 1 rfl ?_
      refine Rn_getR hc rfl h0 (by decide) rfl (gP7_0_2 h0) ?_
      refine Rn_ms (σ' := (104, [some (vR a0), some (vR a1), some (vI v2)], [vR a1, vR (a0 + 3)], (G0, M10))) hc 1 rfl ?_
      refine Rn_getR hc rfl h1 (by decide) rfl (gP7_0_2 h1) ?_
      show Rn rom (d + 4) 55 (107, [some (vR a0), some (vR a1), some (vI v2)], [vR (a1 + 3), vR (a0 + 3)], (G0, M10)) out
      refine R_bind e (fun k14 hk14 e => ?_)
      refine Rn_cv hc rfl rfl (by decide) (ii := xi_91) rfl rfl rfl ((gT7_3 h0) : Tg _ = 8) (by decide) rfl (le := [some (vR (a0 + 3)), some (vR (a1 + 3))]) rfl (v := none) (M' := k14) (t_91 (gT7_3 h0) (gT7_3 h1) (d := d + 1) hk14 rfl) ?_
      refine Rn_ms (σ' := (112, [some (vR a0), some (vR a1), some (vI 0)], [], (G0, k14))) hc 2 rfl ?_
      refine R_bind e (fun o ho e => ?_)
      cases e
      exact Rn_weak (xle_s (xle_s (xle_s xle_0))) (t_55_L112 h0 h1 ho hK)
  · refine Rn_icF hc rfl rfl (by decide) b1 ?_
    refine Rn_ms (σ' := (12, [some (vR a0), some (vR a1), some (vI v2)], [vR a0], (G0, M))) hc 1 rfl ?_
    refine Rn_getR hc rfl h0 (by decide) rfl (gP7_0_0 h0) ?_
    refine Rn_ms (σ' := (18, [some (vR a0), some (vR a1), some (vI v2)], [vI v2, vR a1, vI v2, vR (a0 + 1)], (G0, M))) hc 3 rfl ?_
    refine Rn_cv hc rfl rfl (by decide) (ii := xi_59) rfl rfl rfl (h1 : Tg _ = 7) (by decide) rfl (le := [some (vR a1), some (vI v2)]) rfl (v := some (vI (f_59 M a1 v2))) (M' := M) (t_59 h1 (d := d + 3) rfl rfl) ?_
    show Rn rom (d + 4) 55 (21, [some (vR a0), some (vR a1), some (vI v2)], [vI (f_59 M a1 v2), vI v2, vR (a0 + 1)], (G0, M)) out
    refine R_gd e (fun g15 e => ?_)
    refine R_bnd e (fun M16 hM16 e => ?_)
    refine Rn_iast' hM16 hc rfl rfl (gT7_1 h0) (gZ7_1 h0) g15 rfl ?_
    refine Rn_ms (σ' := (2, [some (vR a0), some (vR a1), some (vI (v2 + 1))], [], (G0, M16))) hc 2 rfl ?_
    cases e
    exact Rn_weak (xle_s (xle_s (xle_s xle_0))) hK
def f_55_L2 (a0 : Nat) (a1 : Nat) (s : Int × xM) : Option (xM) := loop NF (fun s => f_55_L2b a0 a1 s.1 s.2) s
theorem t_55_L2 {rom : xRom} {d : Nat} {a0 : Nat} {a1 : Nat} (h0 : Tg a0 = 7) (h1 : Tg a1 = 7) {s : Int × xM} {r : xM} {out : Option xV × xH} (e : f_55_L2 a0 a1 s = some r) (hK : (eVW out) r) : Rn rom (d + 4) 55 (2, [some (vR a0), some (vR a1), some (vI s.1)], [], (G0, s.2)) out := by
  unfold f_55_L2 at e
  revert e hK
  exact R_loop (b := fun s => f_55_L2b a0 a1 s.1 s.2) (G := fun s => Rn rom (d + 4) 55 (2, [some (vR a0), some (vR a1), some (vI s.1)], [], (G0, s.2)) out) (K := eVW out) (fun s r e hK => t_55_L2b h0 h1 e hK) NF s r
/-- PedalLayers$Pedal.copyFrom -/
def f_55 (M : xM) (a0 : Nat) (a1 : Nat) : Option (xM) :=
  f_55_L2 a0 a1 (0, M)
theorem t_55 {rom : xRom} {d : Nat} {M : xM} {a0 : Nat} {a1 : Nat} (h0 : Tg a0 = 7) (h1 : Tg a1 = 7) {r : xM} {out : Option xV × xH} (e : f_55 M a0 a1 = some r) (hK : eVW out r) : Rn rom (d + 4) 55 (0, [some (vR a0), some (vR a1), none], [], (G0, M)) out := by
  have hc : xkall.getD 55 [] = xk_55 := rfl
  unfold f_55 at e
  refine Rn_ms (σ' := (2, [some (vR a0), some (vR a1), some (vI 0)], [], (G0, M))) hc 2 rfl ?_
  exact Rn_weak (xle_s (xle_s (xle_s xle_0))) (t_55_L2 h0 h1 e hK)
/-- PedalLayers$History.prepare -/
def f_23 (M : xM) (a1 : Nat) : Option (xM) :=
  if (f_22 M (M 50 2)) = 0 then
    some (M)
  else
    gd (Tg (f_22 M (M 50 2)) = 7) (
    (f_55 M (f_22 M (M 50 2)) a1).bind (fun k3 =>
    some (k3)
    ))
theorem t_23 {rom : xRom} {d : Nat} {M : xM} {a1 : Nat} (h1 : Tg a1 = 7) {r : xM} {out : Option xV × xH} (e : f_23 M a1 = some r) (hK : eVW out r) : Rn rom (d + 5) 23 (0, [some (vR 50), some (vR a1), none], [], (G0, M)) out := by
  have hc : xkall.getD 23 [] = xk_23 := rfl
  unfold f_23 at e
  refine Rn_ms (σ' := (2, [some (vR 50), some (vR a1), none], [vR 50, vR 50], (G0, M))) hc 2 rfl ?_
  refine Rn_getI hc rfl tgc_50 (by decide) (by decide) ?_
  show Rn rom (d + 5) 23 (5, [some (vR 50), some (vR a1), none], [vI (M 50 2), vR 50], (G0, M)) out
  refine Rn_cv hc rfl rfl (by decide) (ii := xi_22) rfl rfl rfl (tgc_50 : Tg _ = 2) (by decide) rfl (le := [some (vR 50), some (vI (M 50 2)), none]) rfl (v := some (vR (f_22 M (M 50 2)))) (M' := M) (t_22  (d := d + 3) rfl rfl) ?_
  refine Rn_ms (σ' := (10, [some (vR 50), some (vR a1), some (vR (f_22 M (M 50 2)))], [vR (f_22 M (M 50 2))], (G0, M))) hc 2 rfl ?_
  refine R_ite e (fun b1 e => ?_) (fun b1 e => ?_)
  · refine Rn_nuT (tgt := 18) hc rfl rfl (by decide) b1 ?_
    show Rn rom (d + 5) 23 (18, [some (vR 50), some (vR a1), some (vR (f_22 M (M 50 2)))], [], (G0, M)) out
    cases e
    exact R_end (Rn_vret hc rfl rfl rfl rfl) hK
  · refine Rn_nuF hc rfl rfl (by decide) b1 ?_
    refine Rn_ms (σ' := (15, [some (vR 50), some (vR a1), some (vR (f_22 M (M 50 2)))], [vR a1, vR (f_22 M (M 50 2))], (G0, M))) hc 2 rfl ?_
    refine R_gd e (fun g2 e => ?_)
    refine R_bind e (fun k3 hk3 e => ?_)
    refine Rn_cv hc rfl rfl (by decide) (ii := xi_55) rfl rfl rfl (g2 : Tg _ = 7) (by decide) rfl (le := [some (vR (f_22 M (M 50 2))), some (vR a1), none]) rfl (v := none) (M' := k3) (t_55 g2 h1 (d := d + 0) hk3 rfl) ?_
    show Rn rom (d + 5) 23 (18, [some (vR 50), some (vR a1), some (vR (f_22 M (M 50 2)))], [], (G0, k3)) out
    cases e
    exact R_end (Rn_vret hc rfl rfl rfl rfl) hK
/-- PedalLayers$History.keep -/
def f_24 (M : xM) : xM :=
  if 4 ≤ wr (M 50 2) then
    bnd (xset M 50 1 (f_134 ((M 50 1) + 1) 5)) (fun M2 =>
    M2
    )
  else
    bnd (xset M 50 2 ((M 50 2) + 1)) (fun M3 =>
    M3
    )
theorem t_24 {rom : xRom} {d : Nat} {M : xM}  {r : xM} {out : Option xV × xH} (e : f_24 M = r) (hK : eVW out r) : Rn rom (d + 1) 24 (0, [some (vR 50)], [], (G0, M)) out := by
  have hc : xkall.getD 24 [] = xk_24 := rfl
  unfold f_24 at e
  refine Rn_ms (σ' := (1, [some (vR 50)], [vR 50], (G0, M))) hc 1 rfl ?_
  refine Rn_getI hc rfl tgc_50 (by decide) (by decide) ?_
  refine Rn_ms (σ' := (5, [some (vR 50)], [vI 4, vI (M 50 2)], (G0, M))) hc 1 rfl ?_
  refine R_ite e (fun b1 e => ?_) (fun b1 e => ?_)
  · refine Rn_icT (tgt := 21) hc rfl rfl (by decide) b1 ?_
    refine Rn_ms (σ' := (23, [some (vR 50)], [vR 50, vR 50], (G0, M))) hc 2 rfl ?_
    refine Rn_getI hc rfl tgc_50 (by decide) (by decide) ?_
    refine Rn_ms (σ' := (29, [some (vR 50)], [vR 50, vI ((M 50 1) + 1), vR 50], (G0, M))) hc 3 rfl ?_
    refine Rn_getR hc rfl tgc_50 (by decide) rfl prc_50_0 ?_
    show Rn rom (d + 1) 24 (32, [some (vR 50)], [vR 51, vI ((M 50 1) + 1), vR 50], (G0, M)) out
    refine Rn_alen hc rfl rfl tgc_51 (by decide) zsc_51 ?_
    show Rn rom (d + 1) 24 (33, [some (vR 50)], [vI 5, vI ((M 50 1) + 1), vR 50], (G0, M)) out
    refine Rn_cs hc rfl rfl (by decide) (ii := xi_134) rfl rfl rfl (le := [some (vI ((M 50 1) + 1)), some (vI 5)]) rfl (v := some (vI (f_134 ((M 50 1) + 1) 5))) (M' := M) (t_134  (d := d + 0) rfl rfl) ?_
    show Rn rom (d + 1) 24 (36, [some (vR 50)], [vI (f_134 ((M 50 1) + 1) 5), vR 50], (G0, M)) out
    refine R_bnd e (fun M2 hM2 e => ?_)
    refine Rn_putI' hM2 hc rfl tgc_50 (by decide) (Or.inl rfl) ?_
    show Rn rom (d + 1) 24 (39, [some (vR 50)], [], (G0, M2)) out
    cases e
    exact R_end (Rn_vret hc rfl rfl rfl rfl) hK
  · refine Rn_icF hc rfl rfl (by decide) b1 ?_
    refine Rn_ms (σ' := (10, [some (vR 50)], [vR 50, vR 50], (G0, M))) hc 2 rfl ?_
    refine Rn_getI hc rfl tgc_50 (by decide) (by decide) ?_
    refine Rn_ms (σ' := (15, [some (vR 50)], [vI ((M 50 2) + 1), vR 50], (G0, M))) hc 2 rfl ?_
    refine R_bnd e (fun M3 hM3 e => ?_)
    refine Rn_putI' hM3 hc rfl tgc_50 (by decide) (Or.inl rfl) ?_
    refine Rn_ms (σ' := (39, [some (vR 50)], [], (G0, M3))) hc 1 rfl ?_
    cases e
    exact R_end (Rn_vret hc rfl rfl rfl rfl) hK
/-- PedalLayers$History.takeLatest -/
def f_25 (M : xM) : Nat × xM :=
  if wr (M 50 2) = 0 then
    (0, M)
  else
    bnd (xset M 50 2 ((M 50 2) - 1)) (fun M2 =>
    ((f_22 M2 (M2 50 2)), M2)
    )
theorem t_25 {rom : xRom} {d : Nat} {M : xM}  {r : Nat × xM} {out : Option xV × xH} (e : f_25 M = r) (hK : eRW out r) : Rn rom (d + 2) 25 (0, [some (vR 50)], [], (G0, M)) out := by
  have hc : xkall.getD 25 [] = xk_25 := rfl
  unfold f_25 at e
  refine Rn_ms (σ' := (1, [some (vR 50)], [vR 50], (G0, M))) hc 1 rfl ?_
  refine Rn_getI hc rfl tgc_50 (by decide) (by decide) ?_
  show Rn rom (d + 2) 25 (4, [some (vR 50)], [vI (M 50 2)], (G0, M)) out
  refine R_ite e (fun b1 e => ?_) (fun b1 e => ?_)
  · refine Rn_ifF hc rfl rfl (by decide) (fun w => w b1) ?_
    refine Rn_ms (σ' := (8, [some (vR 50)], [vR 0], (G0, M))) hc 1 rfl ?_
    cases e
    exact R_end (Rn_aret hc rfl rfl rfl rfl) hK
  · refine Rn_ifT (tgt := 9) hc rfl rfl (by decide) (fun w => b1 w) ?_
    refine Rn_ms (σ' := (11, [some (vR 50)], [vR 50, vR 50], (G0, M))) hc 2 rfl ?_
    refine Rn_getI hc rfl tgc_50 (by decide) (by decide) ?_
    refine Rn_ms (σ' := (16, [some (vR 50)], [vI ((M 50 2) - 1), vR 50], (G0, M))) hc 2 rfl ?_
    refine R_bnd e (fun M2 hM2 e => ?_)
    refine Rn_putI' hM2 hc rfl tgc_50 (by decide) (Or.inl rfl) ?_
    refine Rn_ms (σ' := (21, [some (vR 50)], [vR 50, vR 50], (G0, M2))) hc 2 rfl ?_
    refine Rn_getI hc rfl tgc_50 (by decide) (by decide) ?_
    show Rn rom (d + 2) 25 (24, [some (vR 50)], [vI (M2 50 2), vR 50], (G0, M2)) out
    refine Rn_cv hc rfl rfl (by decide) (ii := xi_22) rfl rfl rfl (tgc_50 : Tg _ = 2) (by decide) rfl (le := [some (vR 50), some (vI (M2 50 2)), none]) rfl (v := some (vR (f_22 M2 (M2 50 2)))) (M' := M2) (t_22  (d := d + 0) rfl rfl) ?_
    show Rn rom (d + 2) 25 (27, [some (vR 50)], [vR (f_22 M2 (M2 50 2))], (G0, M2)) out
    cases e
    exact R_end (Rn_aret hc rfl rfl rfl rfl) hK
/-- PedalLayers$Notes.add -/
def f_31 (M : xM) (a0 : Nat) (a1 : Int) (a2 : Int) (a3 : Int) : Int × xM :=
  if wr (f_132 a2) = 0 then
    (0, M)
  else
    if wr ((a1 * 36) + a2) < 0 then
      (0, M)
    else
      if wr ((a1 * 36) + a2) < 1728 then
        bnd (xset M (a0 + 1) (wr ((a1 * 36) + a2)).toNat (xmin ((M (a0 + 1) (wr ((a1 * 36) + a2)).toNat) + a3) 99)) (fun M4 =>
        ((M4 (a0 + 1) (wr ((a1 * 36) + a2)).toNat), M4)
        )
      else
        (0, M)
theorem t_31 {rom : xRom} {d : Nat} {M : xM} {a0 : Nat} {a1 : Int} {a2 : Int} {a3 : Int} (h0 : Tg a0 = 4) {r : Int × xM} {out : Option xV × xH} (e : f_31 M a0 a1 a2 a3 = r) (hK : eIW out r) : Rn rom (d + 1) 31 (0, [some (vR a0), some (vI a1), some (vI a2), some (vI a3), none], [], (G0, M)) out := by
  have hc : xkall.getD 31 [] = xk_31 := rfl
  unfold f_31 at e
  refine Rn_ms (σ' := (9, [some (vR a0), some (vI a1), some (vI a2), some (vI a3), some (vI ((a1 * 36) + a2))], [vI a2], (G0, M))) hc 7 rfl ?_
  refine Rn_cs hc rfl rfl (by decide) (ii := xi_132) rfl rfl rfl (le := [some (vI a2)]) rfl (v := some (vI (f_132 a2))) (M' := M) (t_132  (d := d + 0) rfl rfl) ?_
  show Rn rom (d + 1) 31 (12, [some (vR a0), some (vI a1), some (vI a2), some (vI a3), some (vI ((a1 * 36) + a2))], [vI (f_132 a2)], (G0, M)) out
  refine R_ite e (fun b1 e => ?_) (fun b1 e => ?_)
  · refine Rn_ifT (tgt := 30) hc rfl rfl (by decide) b1 ?_
    refine Rn_ms (σ' := (31, [some (vR a0), some (vI a1), some (vI a2), some (vI a3), some (vI ((a1 * 36) + a2))], [vI 0], (G0, M))) hc 1 rfl ?_
    cases e
    exact R_end (Rn_iret hc rfl rfl (xretI rfl rfl)) hK
  · refine Rn_ifF hc rfl rfl (by decide) b1 ?_
    refine Rn_ms (σ' := (17, [some (vR a0), some (vI a1), some (vI a2), some (vI a3), some (vI ((a1 * 36) + a2))], [vI ((a1 * 36) + a2)], (G0, M))) hc 1 rfl ?_
    refine R_ite e (fun b2 e => ?_) (fun b2 e => ?_)
    · refine Rn_ifT (tgt := 30) hc rfl rfl (by decide) b2 ?_
      refine Rn_ms (σ' := (31, [some (vR a0), some (vI a1), some (vI a2), some (vI a3), some (vI ((a1 * 36) + a2))], [vI 0], (G0, M))) hc 1 rfl ?_
      cases e
      exact R_end (Rn_iret hc rfl rfl (xretI rfl rfl)) hK
    · refine Rn_ifF hc rfl rfl (by decide) b2 ?_
      refine Rn_ms (σ' := (23, [some (vR a0), some (vI a1), some (vI a2), some (vI a3), some (vI ((a1 * 36) + a2))], [vR a0, vI ((a1 * 36) + a2)], (G0, M))) hc 2 rfl ?_
      refine Rn_getR hc rfl h0 (by decide) rfl (gP4_0_0 h0) ?_
      show Rn rom (d + 1) 31 (26, [some (vR a0), some (vI a1), some (vI a2), some (vI a3), some (vI ((a1 * 36) + a2))], [vR (a0 + 1), vI ((a1 * 36) + a2)], (G0, M)) out
      refine Rn_alen hc rfl rfl (gT4_1 h0) (by decide) (gZ4_1 h0) ?_
      show Rn rom (d + 1) 31 (27, [some (vR a0), some (vI a1), some (vI a2), some (vI a3), some (vI ((a1 * 36) + a2))], [vI 1728, vI ((a1 * 36) + a2)], (G0, M)) out
      refine R_ite e (fun b3 e => ?_) (fun b3 e => ?_)
      · refine Rn_icT (tgt := 32) hc rfl rfl (by decide) b3 ?_
        refine Rn_ms (σ' := (33, [some (vR a0), some (vI a1), some (vI a2), some (vI a3), some (vI ((a1 * 36) + a2))], [vR a0], (G0, M))) hc 1 rfl ?_
        refine Rn_getR hc rfl h0 (by decide) rfl (gP4_0_0 h0) ?_
        refine Rn_ms (σ' := (39, [some (vR a0), some (vI a1), some (vI a2), some (vI a3), some (vI ((a1 * 36) + a2))], [vR a0, vI ((a1 * 36) + a2), vR (a0 + 1)], (G0, M))) hc 2 rfl ?_
        refine Rn_getR hc rfl h0 (by decide) rfl (gP4_0_0 h0) ?_
        refine Rn_ms (σ' := (44, [some (vR a0), some (vI a1), some (vI a2), some (vI a3), some (vI ((a1 * 36) + a2))], [vI ((a1 * 36) + a2), vR (a0 + 1), vI ((a1 * 36) + a2), vR (a0 + 1)], (G0, M))) hc 1 rfl ?_
        refine Rn_iald hc rfl rfl (gT4_1 h0) (gZ4_1 h0) (by omega) rfl ?_
        refine Rn_ms (σ' := (49, [some (vR a0), some (vI a1), some (vI a2), some (vI a3), some (vI ((a1 * 36) + a2))], [vI 99, vI ((M (a0 + 1) (wr ((a1 * 36) + a2)).toNat) + a3), vI ((a1 * 36) + a2), vR (a0 + 1)], (G0, M))) hc 3 rfl ?_
        refine Rn_min hc rfl rfl (Nat.le_of_ble_eq_true rfl) ?_
        show Rn rom (d + 1) 31 (52, [some (vR a0), some (vI a1), some (vI a2), some (vI a3), some (vI ((a1 * 36) + a2))], [vI (xmin ((M (a0 + 1) (wr ((a1 * 36) + a2)).toNat) + a3) 99), vI ((a1 * 36) + a2), vR (a0 + 1)], (G0, M)) out
        refine R_bnd e (fun M4 hM4 e => ?_)
        refine Rn_iast' hM4 hc rfl rfl (gT4_1 h0) (gZ4_1 h0) (by omega) rfl ?_
        refine Rn_ms (σ' := (54, [some (vR a0), some (vI a1), some (vI a2), some (vI a3), some (vI ((a1 * 36) + a2))], [vR a0], (G0, M4))) hc 1 rfl ?_
        refine Rn_getR hc rfl h0 (by decide) rfl (gP4_0_0 h0) ?_
        refine Rn_ms (σ' := (59, [some (vR a0), some (vI a1), some (vI a2), some (vI a3), some (vI ((a1 * 36) + a2))], [vI ((a1 * 36) + a2), vR (a0 + 1)], (G0, M4))) hc 1 rfl ?_
        refine Rn_iald hc rfl rfl (gT4_1 h0) (gZ4_1 h0) (by omega) rfl ?_
        show Rn rom (d + 1) 31 (60, [some (vR a0), some (vI a1), some (vI a2), some (vI a3), some (vI ((a1 * 36) + a2))], [vI (M4 (a0 + 1) (wr ((a1 * 36) + a2)).toNat)], (G0, M4)) out
        cases e
        exact R_end (Rn_iret hc rfl rfl (xretI rfl rfl)) hK
      · refine Rn_icF hc rfl rfl (by decide) b3 ?_
        refine Rn_ms (σ' := (31, [some (vR a0), some (vI a1), some (vI a2), some (vI a3), some (vI ((a1 * 36) + a2))], [vI 0], (G0, M))) hc 1 rfl ?_
        cases e
        exact R_end (Rn_iret hc rfl rfl (xretI rfl rfl)) hK
def f_32_L7b (a0 : Nat) (v2 : Int) (M : xM) : Option ((Int × xM) ⊕ (xM)) :=
  if wr ((M a0 1) * 36) ≤ wr v2 then
    some (.inr (M))
  else
    if 1728 ≤ wr v2 then
      some (.inr (M))
    else
      gd (0 ≤ wr v2 ∧ wr v2 < 1728) (
      bnd (xset M (a0 + 1) (wr v2).toNat 0) (fun M5 =>
      some (.inl ((v2 + 1), M5))
      ))
theorem t_32_L7b {rom : xRom} {d : Nat} {a0 : Nat} {v2 : Int} {M : xM} (h0 : Tg a0 = 4) {r : (Int × xM) ⊕ (xM)} {out : Option xV × xH} (e : f_32_L7b a0 v2 M = some r) (hK : ((Sum.elim (fun s => Rn rom (d + 0) 32 (7, [some (vR a0), none, some (vI s.1)], [], (G0, s.2)) out) (eVW out))) r) : Rn rom (d + 0) 32 (7, [some (vR a0), none, some (vI v2)], [], (G0, M)) out := by
  have hc : xkall.getD 32 [] = xk_32 := rfl
  unfold f_32_L7b at e
  refine Rn_ms (σ' := (9, [some (vR a0), none, some (vI v2)], [vR a0, vI v2], (G0, M))) hc 2 rfl ?_
  refine Rn_getI hc rfl h0 (by decide) (by decide) ?_
  refine Rn_ms (σ' := (15, [some (vR a0), none, some (vI v2)], [vI ((M a0 1) * 36), vI v2], (G0, M))) hc 2 rfl ?_
  refine R_ite e (fun b2 e => ?_) (fun b2 e => ?_)
  · refine Rn_icT (tgt := 40) hc rfl rfl (by decide) b2 ?_
    show Rn rom (d + 0) 32 (40, [some (vR a0), none, some (vI v2)], [], (G0, M)) out
    cases e
    exact R_end (Rn_vret hc rfl rfl rfl rfl) hK
  · refine Rn_icF hc rfl rfl (by decide) b2 ?_
    refine Rn_ms (σ' := (20, [some (vR a0), none, some (vI v2)], [vR a0, vI v2], (G0, M))) hc 2 rfl ?_
    refine Rn_getR hc rfl h0 (by decide) rfl (gP4_0_0 h0) ?_
    show Rn rom (d + 0) 32 (23, [some (vR a0), none, some (vI v2)], [vR (a0 + 1), vI v2], (G0, M)) out
    refine Rn_alen hc rfl rfl (gT4_1 h0) (by decide) (gZ4_1 h0) ?_
    show Rn rom (d + 0) 32 (24, [some (vR a0), none, some (vI v2)], [vI 1728, vI v2], (G0, M)) out
    refine R_ite e (fun b3 e => ?_) (fun b3 e => ?_)
    · refine Rn_icT (tgt := 40) hc rfl rfl (by decide) b3 ?_
      show Rn rom (d + 0) 32 (40, [some (vR a0), none, some (vI v2)], [], (G0, M)) out
      cases e
      exact R_end (Rn_vret hc rfl rfl rfl rfl) hK
    · refine Rn_icF hc rfl rfl (by decide) b3 ?_
      refine Rn_ms (σ' := (28, [some (vR a0), none, some (vI v2)], [vR a0], (G0, M))) hc 1 rfl ?_
      refine Rn_getR hc rfl h0 (by decide) rfl (gP4_0_0 h0) ?_
      refine Rn_ms (σ' := (33, [some (vR a0), none, some (vI v2)], [vI 0, vI v2, vR (a0 + 1)], (G0, M))) hc 2 rfl ?_
      refine R_gd e (fun g4 e => ?_)
      refine R_bnd e (fun M5 hM5 e => ?_)
      refine Rn_iast' hM5 hc rfl rfl (gT4_1 h0) (gZ4_1 h0) g4 rfl ?_
      refine Rn_ms (σ' := (7, [some (vR a0), none, some (vI (v2 + 1))], [], (G0, M5))) hc 2 rfl ?_
      cases e
      exact Rn_weak (xle_s (xle_s (xle_s xle_0))) hK
def f_32_L7 (a0 : Nat) (s : Int × xM) : Option (xM) := loop NF (fun s => f_32_L7b a0 s.1 s.2) s
theorem t_32_L7 {rom : xRom} {d : Nat} {a0 : Nat} (h0 : Tg a0 = 4) {s : Int × xM} {r : xM} {out : Option xV × xH} (e : f_32_L7 a0 s = some r) (hK : (eVW out) r) : Rn rom (d + 0) 32 (7, [some (vR a0), none, some (vI s.1)], [], (G0, s.2)) out := by
  unfold f_32_L7 at e
  revert e hK
  exact R_loop (b := fun s => f_32_L7b a0 s.1 s.2) (G := fun s => Rn rom (d + 0) 32 (7, [some (vR a0), none, some (vI s.1)], [], (G0, s.2)) out) (K := eVW out) (fun s r e hK => t_32_L7b h0 e hK) NF s r
/-- PedalLayers$Notes.clear -/
def f_32 (M : xM) (a0 : Nat) (a1 : Int) : Option (xM) :=
  bnd (xset M a0 1 a1) (fun M1 =>
  f_32_L7 a0 (0, M1)
  )
theorem t_32 {rom : xRom} {d : Nat} {M : xM} {a0 : Nat} {a1 : Int} (h0 : Tg a0 = 4) {r : xM} {out : Option xV × xH} (e : f_32 M a0 a1 = some r) (hK : eVW out r) : Rn rom (d + 0) 32 (0, [some (vR a0), some (vI a1), none], [], (G0, M)) out := by
  have hc : xkall.getD 32 [] = xk_32 := rfl
  unfold f_32 at e
  refine Rn_ms (σ' := (2, [some (vR a0), some (vI a1), none], [vI a1, vR a0], (G0, M))) hc 2 rfl ?_
  refine R_bnd e (fun M1 hM1 e => ?_)
  refine Rn_putI' hM1 hc rfl h0 (by decide) (Or.inl rfl) ?_
  refine Rn_ms (σ' := (7, [some (vR a0), some (vI a1), some (vI 0)], [], (G0, M1))) hc 2 rfl ?_
  exact Rn_weak (xle_s (xle_n (xle_s xle_0))) (t_32_L7 h0 e hK)
def f_34_L9b (a0 : Nat) (c1 : Int) (c2 : Int) (v3 : Int) (M : xM) : Option ((Int × xM) ⊕ ((Int × xM) ⊕ (xM))) :=
  if 36 ≤ wr v3 then
    some (.inr (.inl ((c2 + 1), M)))
  else
    bnd (f_31 M a0 c2 v3 (f_30 M a0 (c2 + c1) v3)) (fun k3 =>
    some (.inl ((v3 + 1), k3.2))
    )
theorem t_34_L9b {rom : xRom} {d : Nat} {a0 : Nat} {c1 : Int} {c2 : Int} {v3 : Int} {M : xM} (h0 : Tg a0 = 4) {r : (Int × xM) ⊕ ((Int × xM) ⊕ (xM))} {out : Option xV × xH} (e : f_34_L9b a0 c1 c2 v3 M = some r) (hK : ((Sum.elim (fun s => Rn rom (d + 2) 34 (9, [some (vR a0), some (vI c1), some (vI c2), some (vI s.1)], [], (G0, s.2)) out) ((Sum.elim (fun s => Rn rom (d + 2) 34 (2, [some (vR a0), some (vI c1), some (vI s.1), none], [], (G0, s.2)) out) (eVW out))))) r) : Rn rom (d + 2) 34 (9, [some (vR a0), some (vI c1), some (vI c2), some (vI v3)], [], (G0, M)) out := by
  have hc : xkall.getD 34 [] = xk_34 := rfl
  unfold f_34_L9b at e
  refine Rn_ms (σ' := (12, [some (vR a0), some (vI c1), some (vI c2), some (vI v3)], [vI 36, vI v3], (G0, M))) hc 2 rfl ?_
  refine R_ite e (fun b2 e => ?_) (fun b2 e => ?_)
  · refine Rn_icT (tgt := 36) hc rfl rfl (by decide) b2 ?_
    refine Rn_ms (σ' := (2, [some (vR a0), some (vI c1), some (vI (c2 + 1)), some (vI v3)], [], (G0, M))) hc 2 rfl ?_
    cases e
    exact Rn_weak (xle_s (xle_s (xle_s (xle_n xle_0)))) hK
  · refine Rn_icF hc rfl rfl (by decide) b2 ?_
    refine Rn_ms (σ' := (23, [some (vR a0), some (vI c1), some (vI c2), some (vI v3)], [vI v3, vI (c2 + c1), vR a0, vI v3, vI c2, vR a0], (G0, M))) hc 8 rfl ?_
    refine Rn_cv hc rfl rfl (by decide) (ii := xi_30) rfl rfl rfl (h0 : Tg _ = 4) (by decide) rfl (le := [some (vR a0), some (vI (c2 + c1)), some (vI v3), none]) rfl (v := some (vI (f_30 M a0 (c2 + c1) v3))) (M' := M) (t_30 h0 (d := d + 0) rfl rfl) ?_
    show Rn rom (d + 2) 34 (26, [some (vR a0), some (vI c1), some (vI c2), some (vI v3)], [vI (f_30 M a0 (c2 + c1) v3), vI v3, vI c2, vR a0], (G0, M)) out
    refine R_bnd e (fun k3 hk3 e => ?_)
    refine Rn_cv hc rfl rfl (by decide) (ii := xi_31) rfl rfl rfl (h0 : Tg _ = 4) (by decide) rfl (le := [some (vR a0), some (vI c2), some (vI v3), some (vI (f_30 M a0 (c2 + c1) v3)), none]) rfl (v := some (vI k3.1)) (M' := k3.2) (t_31 h0 (d := d + 0) hk3.symm rfl) ?_
    refine Rn_ms (σ' := (9, [some (vR a0), some (vI c1), some (vI c2), some (vI (v3 + 1))], [], (G0, k3.2))) hc 3 rfl ?_
    cases e
    exact Rn_weak (xle_s (xle_s (xle_s (xle_s xle_0)))) hK
def f_34_L9 (a0 : Nat) (c1 : Int) (c2 : Int) (s : Int × xM) : Option ((Int × xM) ⊕ (xM)) := loop NF (fun s => f_34_L9b a0 c1 c2 s.1 s.2) s
theorem t_34_L9 {rom : xRom} {d : Nat} {a0 : Nat} {c1 : Int} {c2 : Int} (h0 : Tg a0 = 4) {s : Int × xM} {r : (Int × xM) ⊕ (xM)} {out : Option xV × xH} (e : f_34_L9 a0 c1 c2 s = some r) (hK : ((Sum.elim (fun s => Rn rom (d + 2) 34 (2, [some (vR a0), some (vI c1), some (vI s.1), none], [], (G0, s.2)) out) (eVW out))) r) : Rn rom (d + 2) 34 (9, [some (vR a0), some (vI c1), some (vI c2), some (vI s.1)], [], (G0, s.2)) out := by
  unfold f_34_L9 at e
  revert e hK
  exact R_loop (b := fun s => f_34_L9b a0 c1 c2 s.1 s.2) (G := fun s => Rn rom (d + 2) 34 (9, [some (vR a0), some (vI c1), some (vI c2), some (vI s.1)], [], (G0, s.2)) out) (K := (Sum.elim (fun s => Rn rom (d + 2) 34 (2, [some (vR a0), some (vI c1), some (vI s.1), none], [], (G0, s.2)) out) (eVW out))) (fun s r e hK => t_34_L9b h0 e hK) NF s r
def f_34_L2b (a0 : Nat) (c1 : Int) (v2 : Int) (M : xM) : Option ((Int × xM) ⊕ (xM)) :=
  if wr c1 ≤ wr v2 then
    some (.inr (M))
  else
    f_34_L9 a0 c1 v2 (0, M)
theorem t_34_L2b {rom : xRom} {d : Nat} {a0 : Nat} {c1 : Int} {v2 : Int} {M : xM} (h0 : Tg a0 = 4) {r : (Int × xM) ⊕ (xM)} {out : Option xV × xH} (e : f_34_L2b a0 c1 v2 M = some r) (hK : ((Sum.elim (fun s => Rn rom (d + 2) 34 (2, [some (vR a0), some (vI c1), some (vI s.1), none], [], (G0, s.2)) out) (eVW out))) r) : Rn rom (d + 2) 34 (2, [some (vR a0), some (vI c1), some (vI v2), none], [], (G0, M)) out := by
  have hc : xkall.getD 34 [] = xk_34 := rfl
  unfold f_34_L2b at e
  refine Rn_ms (σ' := (4, [some (vR a0), some (vI c1), some (vI v2), none], [vI c1, vI v2], (G0, M))) hc 2 rfl ?_
  refine R_ite e (fun b1 e => ?_) (fun b1 e => ?_)
  · refine Rn_icT (tgt := 42) hc rfl rfl (by decide) b1 ?_
    show Rn rom (d + 2) 34 (42, [some (vR a0), some (vI c1), some (vI v2), none], [], (G0, M)) out
    cases e
    exact R_end (Rn_vret hc rfl rfl rfl rfl) hK
  · refine Rn_icF hc rfl rfl (by decide) b1 ?_
    refine Rn_ms (σ' := (9, [some (vR a0), some (vI c1), some (vI v2), some (vI 0)], [], (G0, M))) hc 2 rfl ?_
    exact Rn_weak (xle_s (xle_s (xle_s (xle_s xle_0)))) (t_34_L9 h0 e hK)
def f_34_L2 (a0 : Nat) (c1 : Int) (s : Int × xM) : Option (xM) := loop NF (fun s => f_34_L2b a0 c1 s.1 s.2) s
theorem t_34_L2 {rom : xRom} {d : Nat} {a0 : Nat} {c1 : Int} (h0 : Tg a0 = 4) {s : Int × xM} {r : xM} {out : Option xV × xH} (e : f_34_L2 a0 c1 s = some r) (hK : (eVW out) r) : Rn rom (d + 2) 34 (2, [some (vR a0), some (vI c1), some (vI s.1), none], [], (G0, s.2)) out := by
  unfold f_34_L2 at e
  revert e hK
  exact R_loop (b := fun s => f_34_L2b a0 c1 s.1 s.2) (G := fun s => Rn rom (d + 2) 34 (2, [some (vR a0), some (vI c1), some (vI s.1), none], [], (G0, s.2)) out) (K := eVW out) (fun s r e hK => t_34_L2b h0 e hK) NF s r
/-- PedalLayers$Notes.fold -/
def f_34 (M : xM) (a0 : Nat) (a1 : Int) : Option (xM) :=
  f_34_L2 a0 a1 (0, M)
theorem t_34 {rom : xRom} {d : Nat} {M : xM} {a0 : Nat} {a1 : Int} (h0 : Tg a0 = 4) {r : xM} {out : Option xV × xH} (e : f_34 M a0 a1 = some r) (hK : eVW out r) : Rn rom (d + 2) 34 (0, [some (vR a0), some (vI a1), none, none], [], (G0, M)) out := by
  have hc : xkall.getD 34 [] = xk_34 := rfl
  unfold f_34 at e
  refine Rn_ms (σ' := (2, [some (vR a0), some (vI a1), some (vI 0), none], [], (G0, M))) hc 2 rfl ?_
  exact Rn_weak (xle_s (xle_s (xle_s (xle_s xle_0)))) (t_34_L2 h0 e hK)
/-- PedalLayers.faded -/
def f_136 (a0 : Int) (a1 : Int) : Int :=
  ((wr (a0 * (100 - a1))).tdiv 100)
theorem t_136 {rom : xRom} {d : Nat} {M : xM} {a0 : Int} {a1 : Int} {r : Int} {out : Option xV × xH} (e : f_136 a0 a1 = r) (hK : eI M out r) : Rn rom (d + 0) 136 (0, [some (vI a0), some (vI a1)], [], (G0, M)) out := by
  have hc : xkall.getD 136 [] = xk_136 := rfl
  unfold f_136 at e
  refine Rn_ms (σ' := (8, [some (vI a0), some (vI a1)], [vI 100, vI (a0 * (100 - a1))], (G0, M))) hc 6 rfl ?_
  refine Rn_div hc rfl ⟨rfl, rfl⟩ (z' := 100) (by decide) (by decide) ?_
  show Rn rom (d + 0) 136 (9, [some (vI a0), some (vI a1)], [vI ((wr (a0 * (100 - a1))).tdiv 100)], (G0, M)) out
  cases e
  exact R_end (Rn_iret hc rfl rfl (xretI rfl rfl)) hK
def f_35_L2b (a0 : Nat) (c1 : Int) (v2 : Int) (M : xM) : Option ((Int × xM) ⊕ (xM)) :=
  if wr ((M a0 1) * 36) ≤ wr v2 then
    some (.inr (M))
  else
    if 1728 ≤ wr v2 then
      some (.inr (M))
    else
      gd (0 ≤ wr v2 ∧ wr v2 < 1728) (
      gd (0 ≤ wr v2 ∧ wr v2 < 1728) (
      bnd (xset M (a0 + 1) (wr v2).toNat (f_136 (M (a0 + 1) (wr v2).toNat) c1)) (fun M5 =>
      some (.inl ((v2 + 1), M5))
      )))
theorem t_35_L2b {rom : xRom} {d : Nat} {a0 : Nat} {c1 : Int} {v2 : Int} {M : xM} (h0 : Tg a0 = 4) {r : (Int × xM) ⊕ (xM)} {out : Option xV × xH} (e : f_35_L2b a0 c1 v2 M = some r) (hK : ((Sum.elim (fun s => Rn rom (d + 1) 35 (2, [some (vR a0), some (vI c1), some (vI s.1)], [], (G0, s.2)) out) (eVW out))) r) : Rn rom (d + 1) 35 (2, [some (vR a0), some (vI c1), some (vI v2)], [], (G0, M)) out := by
  have hc : xkall.getD 35 [] = xk_35 := rfl
  unfold f_35_L2b at e
  refine Rn_ms (σ' := (4, [some (vR a0), some (vI c1), some (vI v2)], [vR a0, vI v2], (G0, M))) hc 2 rfl ?_
  refine Rn_getI hc rfl h0 (by decide) (by decide) ?_
  refine Rn_ms (σ' := (10, [some (vR a0), some (vI c1), some (vI v2)], [vI ((M a0 1) * 36), vI v2], (G0, M))) hc 2 rfl ?_
  refine R_ite e (fun b1 e => ?_) (fun b1 e => ?_)
  · refine Rn_icT (tgt := 44) hc rfl rfl (by decide) b1 ?_
    show Rn rom (d + 1) 35 (44, [some (vR a0), some (vI c1), some (vI v2)], [], (G0, M)) out
    cases e
    exact R_end (Rn_vret hc rfl rfl rfl rfl) hK
  · refine Rn_icF hc rfl rfl (by decide) b1 ?_
    refine Rn_ms (σ' := (15, [some (vR a0), some (vI c1), some (vI v2)], [vR a0, vI v2], (G0, M))) hc 2 rfl ?_
    refine Rn_getR hc rfl h0 (by decide) rfl (gP4_0_0 h0) ?_
    show Rn rom (d + 1) 35 (18, [some (vR a0), some (vI c1), some (vI v2)], [vR (a0 + 1), vI v2], (G0, M)) out
    refine Rn_alen hc rfl rfl (gT4_1 h0) (by decide) (gZ4_1 h0) ?_
    show Rn rom (d + 1) 35 (19, [some (vR a0), some (vI c1), some (vI v2)], [vI 1728, vI v2], (G0, M)) out
    refine R_ite e (fun b2 e => ?_) (fun b2 e => ?_)
    · refine Rn_icT (tgt := 44) hc rfl rfl (by decide) b2 ?_
      show Rn rom (d + 1) 35 (44, [some (vR a0), some (vI c1), some (vI v2)], [], (G0, M)) out
      cases e
      exact R_end (Rn_vret hc rfl rfl rfl rfl) hK
    · refine Rn_icF hc rfl rfl (by decide) b2 ?_
      refine Rn_ms (σ' := (23, [some (vR a0), some (vI c1), some (vI v2)], [vR a0], (G0, M))) hc 1 rfl ?_
      refine Rn_getR hc rfl h0 (by decide) rfl (gP4_0_0 h0) ?_
      refine Rn_ms (σ' := (28, [some (vR a0), some (vI c1), some (vI v2)], [vR a0, vI v2, vR (a0 + 1)], (G0, M))) hc 2 rfl ?_
      refine Rn_getR hc rfl h0 (by decide) rfl (gP4_0_0 h0) ?_
      refine Rn_ms (σ' := (32, [some (vR a0), some (vI c1), some (vI v2)], [vI v2, vR (a0 + 1), vI v2, vR (a0 + 1)], (G0, M))) hc 1 rfl ?_
      refine R_gd e (fun g3 e => ?_)
      refine Rn_iald hc rfl rfl (gT4_1 h0) (gZ4_1 h0) g3 rfl ?_
      refine Rn_ms (σ' := (34, [some (vR a0), some (vI c1), some (vI v2)], [vI c1, vI (M (a0 + 1) (wr v2).toNat), vI v2, vR (a0 + 1)], (G0, M))) hc 1 rfl ?_
      refine Rn_cs hc rfl rfl (by decide) (ii := xi_136) rfl rfl rfl (le := [some (vI (M (a0 + 1) (wr v2).toNat)), some (vI c1)]) rfl (v := some (vI (f_136 (M (a0 + 1) (wr v2).toNat) c1))) (M' := M) (t_136  (d := d + 0) rfl rfl) ?_
      show Rn rom (d + 1) 35 (37, [some (vR a0), some (vI c1), some (vI v2)], [vI (f_136 (M (a0 + 1) (wr v2).toNat) c1), vI v2, vR (a0 + 1)], (G0, M)) out
      refine R_gd e (fun g4 e => ?_)
      refine R_bnd e (fun M5 hM5 e => ?_)
      refine Rn_iast' hM5 hc rfl rfl (gT4_1 h0) (gZ4_1 h0) g4 rfl ?_
      refine Rn_ms (σ' := (2, [some (vR a0), some (vI c1), some (vI (v2 + 1))], [], (G0, M5))) hc 2 rfl ?_
      cases e
      exact Rn_weak (xle_s (xle_s (xle_s xle_0))) hK
def f_35_L2 (a0 : Nat) (c1 : Int) (s : Int × xM) : Option (xM) := loop NF (fun s => f_35_L2b a0 c1 s.1 s.2) s
theorem t_35_L2 {rom : xRom} {d : Nat} {a0 : Nat} {c1 : Int} (h0 : Tg a0 = 4) {s : Int × xM} {r : xM} {out : Option xV × xH} (e : f_35_L2 a0 c1 s = some r) (hK : (eVW out) r) : Rn rom (d + 1) 35 (2, [some (vR a0), some (vI c1), some (vI s.1)], [], (G0, s.2)) out := by
  unfold f_35_L2 at e
  revert e hK
  exact R_loop (b := fun s => f_35_L2b a0 c1 s.1 s.2) (G := fun s => Rn rom (d + 1) 35 (2, [some (vR a0), some (vI c1), some (vI s.1)], [], (G0, s.2)) out) (K := eVW out) (fun s r e hK => t_35_L2b h0 e hK) NF s r
/-- PedalLayers$Notes.fade -/
def f_35 (M : xM) (a0 : Nat) (a1 : Int) : Option (xM) :=
  f_35_L2 a0 a1 (0, M)
theorem t_35 {rom : xRom} {d : Nat} {M : xM} {a0 : Nat} {a1 : Int} (h0 : Tg a0 = 4) {r : xM} {out : Option xV × xH} (e : f_35 M a0 a1 = some r) (hK : eVW out r) : Rn rom (d + 1) 35 (0, [some (vR a0), some (vI a1), none], [], (G0, M)) out := by
  have hc : xkall.getD 35 [] = xk_35 := rfl
  unfold f_35 at e
  refine Rn_ms (σ' := (2, [some (vR a0), some (vI a1), some (vI 0)], [], (G0, M))) hc 2 rfl ?_
  exact Rn_weak (xle_s (xle_s (xle_s xle_0))) (t_35_L2 h0 e hK)
def f_36_L4b (M : xM) (a0 : Nat) (v1 : Int) (v2 : Int) : Option ((Int × Int) ⊕ (Int)) :=
  if wr ((M a0 1) * 36) ≤ wr v2 then
    some (.inr (v1))
  else
    if 1728 ≤ wr v2 then
      some (.inr (v1))
    else
      gd (0 ≤ wr v2 ∧ wr v2 < 1728) (
      if wr (M (a0 + 1) (wr v2).toNat) ≤ 0 then
        some (.inl (v1, (v2 + 1)))
      else
        some (.inl ((v1 + 1), (v2 + 1)))
      )
theorem t_36_L4b {rom : xRom} {d : Nat} {a0 : Nat} {v1 : Int} {v2 : Int} {M : xM} (h0 : Tg a0 = 4) {r : (Int × Int) ⊕ (Int)} {out : Option xV × xH} (e : f_36_L4b M a0 v1 v2 = some r) (hK : ((Sum.elim (fun s => Rn rom (d + 0) 36 (4, [some (vR a0), some (vI s.1), some (vI s.2)], [], (G0, M)) out) (eI M out))) r) : Rn rom (d + 0) 36 (4, [some (vR a0), some (vI v1), some (vI v2)], [], (G0, M)) out := by
  have hc : xkall.getD 36 [] = xk_36 := rfl
  unfold f_36_L4b at e
  refine Rn_ms (σ' := (6, [some (vR a0), some (vI v1), some (vI v2)], [vR a0, vI v2], (G0, M))) hc 2 rfl ?_
  refine Rn_getI hc rfl h0 (by decide) (by decide) ?_
  refine Rn_ms (σ' := (12, [some (vR a0), some (vI v1), some (vI v2)], [vI ((M a0 1) * 36), vI v2], (G0, M))) hc 2 rfl ?_
  refine R_ite e (fun b1 e => ?_) (fun b1 e => ?_)
  · refine Rn_icT (tgt := 42) hc rfl rfl (by decide) b1 ?_
    refine Rn_ms (σ' := (43, [some (vR a0), some (vI v1), some (vI v2)], [vI v1], (G0, M))) hc 1 rfl ?_
    cases e
    exact R_end (Rn_iret hc rfl rfl (xretI rfl rfl)) hK
  · refine Rn_icF hc rfl rfl (by decide) b1 ?_
    refine Rn_ms (σ' := (17, [some (vR a0), some (vI v1), some (vI v2)], [vR a0, vI v2], (G0, M))) hc 2 rfl ?_
    refine Rn_getR hc rfl h0 (by decide) rfl (gP4_0_0 h0) ?_
    show Rn rom (d + 0) 36 (20, [some (vR a0), some (vI v1), some (vI v2)], [vR (a0 + 1), vI v2], (G0, M)) out
    refine Rn_alen hc rfl rfl (gT4_1 h0) (by decide) (gZ4_1 h0) ?_
    show Rn rom (d + 0) 36 (21, [some (vR a0), some (vI v1), some (vI v2)], [vI 1728, vI v2], (G0, M)) out
    refine R_ite e (fun b2 e => ?_) (fun b2 e => ?_)
    · refine Rn_icT (tgt := 42) hc rfl rfl (by decide) b2 ?_
      refine Rn_ms (σ' := (43, [some (vR a0), some (vI v1), some (vI v2)], [vI v1], (G0, M))) hc 1 rfl ?_
      cases e
      exact R_end (Rn_iret hc rfl rfl (xretI rfl rfl)) hK
    · refine Rn_icF hc rfl rfl (by decide) b2 ?_
      refine Rn_ms (σ' := (25, [some (vR a0), some (vI v1), some (vI v2)], [vR a0], (G0, M))) hc 1 rfl ?_
      refine Rn_getR hc rfl h0 (by decide) rfl (gP4_0_0 h0) ?_
      refine Rn_ms (σ' := (29, [some (vR a0), some (vI v1), some (vI v2)], [vI v2, vR (a0 + 1)], (G0, M))) hc 1 rfl ?_
      refine R_gd e (fun g3 e => ?_)
      refine Rn_iald hc rfl rfl (gT4_1 h0) (gZ4_1 h0) g3 rfl ?_
      show Rn rom (d + 0) 36 (30, [some (vR a0), some (vI v1), some (vI v2)], [vI (M (a0 + 1) (wr v2).toNat)], (G0, M)) out
      refine R_ite e (fun b4 e => ?_) (fun b4 e => ?_)
      · refine Rn_ifT (tgt := 36) hc rfl rfl (by decide) b4 ?_
        refine Rn_ms (σ' := (4, [some (vR a0), some (vI v1), some (vI (v2 + 1))], [], (G0, M))) hc 2 rfl ?_
        cases e
        exact Rn_weak (xle_s (xle_s (xle_s xle_0))) hK
      · refine Rn_ifF hc rfl rfl (by decide) b4 ?_
        refine Rn_ms (σ' := (4, [some (vR a0), some (vI (v1 + 1)), some (vI (v2 + 1))], [], (G0, M))) hc 3 rfl ?_
        cases e
        exact Rn_weak (xle_s (xle_s (xle_s xle_0))) hK
def f_36_L4 (M : xM) (a0 : Nat) (s : Int × Int) : Option (Int) := loop NF (fun s => f_36_L4b M a0 s.1 s.2) s
theorem t_36_L4 {rom : xRom} {d : Nat} {a0 : Nat} {M : xM} (h0 : Tg a0 = 4) {s : Int × Int} {r : Int} {out : Option xV × xH} (e : f_36_L4 M a0 s = some r) (hK : (eI M out) r) : Rn rom (d + 0) 36 (4, [some (vR a0), some (vI s.1), some (vI s.2)], [], (G0, M)) out := by
  unfold f_36_L4 at e
  revert e hK
  exact R_loop (b := fun s => f_36_L4b M a0 s.1 s.2) (G := fun s => Rn rom (d + 0) 36 (4, [some (vR a0), some (vI s.1), some (vI s.2)], [], (G0, M)) out) (K := eI M out) (fun s r e hK => t_36_L4b h0 e hK) NF s r
/-- PedalLayers$Notes.howMany -/
def f_36 (M : xM) (a0 : Nat) : Option (Int) :=
  f_36_L4 M a0 (0, 0)
theorem t_36 {rom : xRom} {d : Nat} {M : xM} {a0 : Nat} (h0 : Tg a0 = 4) {r : Int} {out : Option xV × xH} (e : f_36 M a0 = some r) (hK : eI M out r) : Rn rom (d + 0) 36 (0, [some (vR a0), none, none], [], (G0, M)) out := by
  have hc : xkall.getD 36 [] = xk_36 := rfl
  unfold f_36 at e
  refine Rn_ms (σ' := (4, [some (vR a0), some (vI 0), some (vI 0)], [], (G0, M))) hc 4 rfl ?_
  exact Rn_weak (xle_s (xle_s (xle_s xle_0))) (t_36_L4 h0 e hK)
