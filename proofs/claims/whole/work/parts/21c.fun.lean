/-! functions for methods, by program (wip/whole/gen/dec.py) -/
def f_37_L4b (M : xM) (a0 : Nat) (v1 : Int) (v2 : Int) : Option ((Int × Int) ⊕ (Int)) :=
  if wr ((M a0 1) * 36) ≤ wr v2 then
    some (.inr (v1))
  else
    if 1728 ≤ wr v2 then
      some (.inr (v1))
    else
      gd (0 ≤ wr v2 ∧ wr v2 < 1728) (
      some (.inl ((v1 + (M (a0 + 1) (wr v2).toNat)), (v2 + 1)))
      )
theorem t_37_L4b {rom : xRom} {d : Nat} {a0 : Nat} {v1 : Int} {v2 : Int} {M : xM} (h0 : Tg a0 = 4) {r : (Int × Int) ⊕ (Int)} {out : Option xV × xH} (e : f_37_L4b M a0 v1 v2 = some r) (hK : ((Sum.elim (fun s => Rn rom (d + 0) 37 (4, [some (vR a0), some (vI s.1), some (vI s.2)], [], (G0, M)) out) (eI M out))) r) : Rn rom (d + 0) 37 (4, [some (vR a0), some (vI v1), some (vI v2)], [], (G0, M)) out := by
  have hc : xkall.getD 37 [] = xk_37 := rfl
  unfold f_37_L4b at e
  refine Rn_ms (σ' := (6, [some (vR a0), some (vI v1), some (vI v2)], [vR a0, vI v2], (G0, M))) hc 2 rfl ?_
  refine Rn_getI hc rfl h0 (by decide) (by decide) ?_
  refine Rn_ms (σ' := (12, [some (vR a0), some (vI v1), some (vI v2)], [vI ((M a0 1) * 36), vI v2], (G0, M))) hc 2 rfl ?_
  refine R_ite e (fun b1 e => ?_) (fun b1 e => ?_)
  · refine Rn_icT (tgt := 39) hc rfl rfl (by decide) b1 ?_
    refine Rn_ms (σ' := (40, [some (vR a0), some (vI v1), some (vI v2)], [vI v1], (G0, M))) hc 1 rfl ?_
    cases e
    exact R_end (Rn_iret hc rfl rfl (xretI rfl rfl)) hK
  · refine Rn_icF hc rfl rfl (by decide) b1 ?_
    refine Rn_ms (σ' := (17, [some (vR a0), some (vI v1), some (vI v2)], [vR a0, vI v2], (G0, M))) hc 2 rfl ?_
    refine Rn_getR hc rfl h0 (by decide) rfl (gP4_0_0 h0) ?_
    show Rn rom (d + 0) 37 (20, [some (vR a0), some (vI v1), some (vI v2)], [vR (a0 + 1), vI v2], (G0, M)) out
    refine Rn_alen hc rfl rfl (gT4_1 h0) (by decide) (gZ4_1 h0) ?_
    show Rn rom (d + 0) 37 (21, [some (vR a0), some (vI v1), some (vI v2)], [vI 1728, vI v2], (G0, M)) out
    refine R_ite e (fun b2 e => ?_) (fun b2 e => ?_)
    · refine Rn_icT (tgt := 39) hc rfl rfl (by decide) b2 ?_
      refine Rn_ms (σ' := (40, [some (vR a0), some (vI v1), some (vI v2)], [vI v1], (G0, M))) hc 1 rfl ?_
      cases e
      exact R_end (Rn_iret hc rfl rfl (xretI rfl rfl)) hK
    · refine Rn_icF hc rfl rfl (by decide) b2 ?_
      refine Rn_ms (σ' := (26, [some (vR a0), some (vI v1), some (vI v2)], [vR a0, vI v1], (G0, M))) hc 2 rfl ?_
      refine Rn_getR hc rfl h0 (by decide) rfl (gP4_0_0 h0) ?_
      refine Rn_ms (σ' := (30, [some (vR a0), some (vI v1), some (vI v2)], [vI v2, vR (a0 + 1), vI v1], (G0, M))) hc 1 rfl ?_
      refine R_gd e (fun g3 e => ?_)
      refine Rn_iald hc rfl rfl (gT4_1 h0) (gZ4_1 h0) g3 rfl ?_
      refine Rn_ms (σ' := (4, [some (vR a0), some (vI (v1 + (M (a0 + 1) (wr v2).toNat))), some (vI (v2 + 1))], [], (G0, M))) hc 4 rfl ?_
      cases e
      exact Rn_weak (xle_s (xle_s (xle_s xle_0))) hK
def f_37_L4 (M : xM) (a0 : Nat) (s : Int × Int) : Option (Int) := loop NF (fun s => f_37_L4b M a0 s.1 s.2) s
theorem t_37_L4 {rom : xRom} {d : Nat} {a0 : Nat} {M : xM} (h0 : Tg a0 = 4) {s : Int × Int} {r : Int} {out : Option xV × xH} (e : f_37_L4 M a0 s = some r) (hK : (eI M out) r) : Rn rom (d + 0) 37 (4, [some (vR a0), some (vI s.1), some (vI s.2)], [], (G0, M)) out := by
  unfold f_37_L4 at e
  revert e hK
  exact R_loop (b := fun s => f_37_L4b M a0 s.1 s.2) (G := fun s => Rn rom (d + 0) 37 (4, [some (vR a0), some (vI s.1), some (vI s.2)], [], (G0, M)) out) (K := eI M out) (fun s r e hK => t_37_L4b h0 e hK) NF s r
/-- PedalLayers$Notes.sum -/
def f_37 (M : xM) (a0 : Nat) : Option (Int) :=
  f_37_L4 M a0 (0, 0)
theorem t_37 {rom : xRom} {d : Nat} {M : xM} {a0 : Nat} (h0 : Tg a0 = 4) {r : Int} {out : Option xV × xH} (e : f_37 M a0 = some r) (hK : eI M out r) : Rn rom (d + 0) 37 (0, [some (vR a0), none, none], [], (G0, M)) out := by
  have hc : xkall.getD 37 [] = xk_37 := rfl
  unfold f_37 at e
  refine Rn_ms (σ' := (4, [some (vR a0), some (vI 0), some (vI 0)], [], (G0, M))) hc 4 rfl ?_
  exact Rn_weak (xle_s (xle_s (xle_s xle_0))) (t_37_L4 h0 e hK)
def f_38_L15b (M : xM) (a0 : Nat) (c1 : Int) (c3 : Int) (v2 : Int) (v4 : Int) : Option ((Int × Int) ⊕ ((Int × Int) ⊕ (Int))) :=
  if 36 ≤ wr v4 then
    some (.inr (.inl (v2, (c3 + 1))))
  else
    some (.inl ((xmax v2 (f_30 M a0 c3 v4)), (v4 + 1)))
theorem t_38_L15b {rom : xRom} {d : Nat} {a0 : Nat} {c1 : Int} {c3 : Int} {v2 : Int} {v4 : Int} {M : xM} (h0 : Tg a0 = 4) {r : (Int × Int) ⊕ ((Int × Int) ⊕ (Int))} {out : Option xV × xH} (e : f_38_L15b M a0 c1 c3 v2 v4 = some r) (hK : ((Sum.elim (fun s => Rn rom (d + 2) 38 (15, [some (vR a0), some (vI c1), some (vI s.1), some (vI c3), some (vI s.2)], [], (G0, M)) out) ((Sum.elim (fun s => Rn rom (d + 2) 38 (4, [some (vR a0), some (vI c1), some (vI s.1), some (vI s.2), none], [], (G0, M)) out) (eI M out))))) r) : Rn rom (d + 2) 38 (15, [some (vR a0), some (vI c1), some (vI v2), some (vI c3), some (vI v4)], [], (G0, M)) out := by
  have hc : xkall.getD 38 [] = xk_38 := rfl
  unfold f_38_L15b at e
  refine Rn_ms (σ' := (19, [some (vR a0), some (vI c1), some (vI v2), some (vI c3), some (vI v4)], [vI 36, vI v4], (G0, M))) hc 2 rfl ?_
  refine R_ite e (fun b2 e => ?_) (fun b2 e => ?_)
  · refine Rn_icT (tgt := 40) hc rfl rfl (by decide) b2 ?_
    refine Rn_ms (σ' := (4, [some (vR a0), some (vI c1), some (vI v2), some (vI (c3 + 1)), some (vI v4)], [], (G0, M))) hc 2 rfl ?_
    cases e
    exact Rn_weak (xle_s (xle_s (xle_s (xle_s (xle_n xle_0))))) hK
  · refine Rn_icF hc rfl rfl (by decide) b2 ?_
    refine Rn_ms (σ' := (27, [some (vR a0), some (vI c1), some (vI v2), some (vI c3), some (vI v4)], [vI v4, vI c3, vR a0, vI v2], (G0, M))) hc 4 rfl ?_
    refine Rn_cv hc rfl rfl (by decide) (ii := xi_30) rfl rfl rfl (h0 : Tg _ = 4) (by decide) rfl (le := [some (vR a0), some (vI c3), some (vI v4), none]) rfl (v := some (vI (f_30 M a0 c3 v4))) (M' := M) (t_30 h0 (d := d + 0) rfl rfl) ?_
    show Rn rom (d + 2) 38 (30, [some (vR a0), some (vI c1), some (vI v2), some (vI c3), some (vI v4)], [vI (f_30 M a0 c3 v4), vI v2], (G0, M)) out
    refine Rn_max hc rfl rfl (Nat.le_of_ble_eq_true rfl) ?_
    refine Rn_ms (σ' := (15, [some (vR a0), some (vI c1), some (vI (xmax v2 (f_30 M a0 c3 v4))), some (vI c3), some (vI (v4 + 1))], [], (G0, M))) hc 3 rfl ?_
    cases e
    exact Rn_weak (xle_s (xle_s (xle_s (xle_s (xle_s xle_0))))) hK
def f_38_L15 (M : xM) (a0 : Nat) (c1 : Int) (c3 : Int) (s : Int × Int) : Option ((Int × Int) ⊕ (Int)) := loop NF (fun s => f_38_L15b M a0 c1 c3 s.1 s.2) s
theorem t_38_L15 {rom : xRom} {d : Nat} {a0 : Nat} {c1 : Int} {c3 : Int} {M : xM} (h0 : Tg a0 = 4) {s : Int × Int} {r : (Int × Int) ⊕ (Int)} {out : Option xV × xH} (e : f_38_L15 M a0 c1 c3 s = some r) (hK : ((Sum.elim (fun s => Rn rom (d + 2) 38 (4, [some (vR a0), some (vI c1), some (vI s.1), some (vI s.2), none], [], (G0, M)) out) (eI M out))) r) : Rn rom (d + 2) 38 (15, [some (vR a0), some (vI c1), some (vI s.1), some (vI c3), some (vI s.2)], [], (G0, M)) out := by
  unfold f_38_L15 at e
  revert e hK
  exact R_loop (b := fun s => f_38_L15b M a0 c1 c3 s.1 s.2) (G := fun s => Rn rom (d + 2) 38 (15, [some (vR a0), some (vI c1), some (vI s.1), some (vI c3), some (vI s.2)], [], (G0, M)) out) (K := (Sum.elim (fun s => Rn rom (d + 2) 38 (4, [some (vR a0), some (vI c1), some (vI s.1), some (vI s.2), none], [], (G0, M)) out) (eI M out))) (fun s r e hK => t_38_L15b h0 e hK) NF s r
def f_38_L4b (M : xM) (a0 : Nat) (c1 : Int) (v2 : Int) (v3 : Int) : Option ((Int × Int) ⊕ (Int)) :=
  if wr (M a0 1) ≤ wr v3 then
    some (.inr (v2))
  else
    f_38_L15 M a0 c1 v3 (v2, c1)
theorem t_38_L4b {rom : xRom} {d : Nat} {a0 : Nat} {c1 : Int} {v2 : Int} {v3 : Int} {M : xM} (h0 : Tg a0 = 4) {r : (Int × Int) ⊕ (Int)} {out : Option xV × xH} (e : f_38_L4b M a0 c1 v2 v3 = some r) (hK : ((Sum.elim (fun s => Rn rom (d + 2) 38 (4, [some (vR a0), some (vI c1), some (vI s.1), some (vI s.2), none], [], (G0, M)) out) (eI M out))) r) : Rn rom (d + 2) 38 (4, [some (vR a0), some (vI c1), some (vI v2), some (vI v3), none], [], (G0, M)) out := by
  have hc : xkall.getD 38 [] = xk_38 := rfl
  unfold f_38_L4b at e
  refine Rn_ms (σ' := (6, [some (vR a0), some (vI c1), some (vI v2), some (vI v3), none], [vR a0, vI v3], (G0, M))) hc 2 rfl ?_
  refine Rn_getI hc rfl h0 (by decide) (by decide) ?_
  show Rn rom (d + 2) 38 (9, [some (vR a0), some (vI c1), some (vI v2), some (vI v3), none], [vI (M a0 1), vI v3], (G0, M)) out
  refine R_ite e (fun b1 e => ?_) (fun b1 e => ?_)
  · refine Rn_icT (tgt := 46) hc rfl rfl (by decide) b1 ?_
    refine Rn_ms (σ' := (47, [some (vR a0), some (vI c1), some (vI v2), some (vI v3), none], [vI v2], (G0, M))) hc 1 rfl ?_
    cases e
    exact R_end (Rn_iret hc rfl rfl (xretI rfl rfl)) hK
  · refine Rn_icF hc rfl rfl (by decide) b1 ?_
    refine Rn_ms (σ' := (15, [some (vR a0), some (vI c1), some (vI v2), some (vI v3), some (vI c1)], [], (G0, M))) hc 2 rfl ?_
    exact Rn_weak (xle_s (xle_s (xle_s (xle_s (xle_s xle_0))))) (t_38_L15 h0 e hK)
def f_38_L4 (M : xM) (a0 : Nat) (c1 : Int) (s : Int × Int) : Option (Int) := loop NF (fun s => f_38_L4b M a0 c1 s.1 s.2) s
theorem t_38_L4 {rom : xRom} {d : Nat} {a0 : Nat} {c1 : Int} {M : xM} (h0 : Tg a0 = 4) {s : Int × Int} {r : Int} {out : Option xV × xH} (e : f_38_L4 M a0 c1 s = some r) (hK : (eI M out) r) : Rn rom (d + 2) 38 (4, [some (vR a0), some (vI c1), some (vI s.1), some (vI s.2), none], [], (G0, M)) out := by
  unfold f_38_L4 at e
  revert e hK
  exact R_loop (b := fun s => f_38_L4b M a0 c1 s.1 s.2) (G := fun s => Rn rom (d + 2) 38 (4, [some (vR a0), some (vI c1), some (vI s.1), some (vI s.2), none], [], (G0, M)) out) (K := eI M out) (fun s r e hK => t_38_L4b h0 e hK) NF s r
/-- PedalLayers$Notes.greatestFrom -/
def f_38 (M : xM) (a0 : Nat) (a1 : Int) : Option (Int) :=
  f_38_L4 M a0 a1 (0, 0)
theorem t_38 {rom : xRom} {d : Nat} {M : xM} {a0 : Nat} {a1 : Int} (h0 : Tg a0 = 4) {r : Int} {out : Option xV × xH} (e : f_38 M a0 a1 = some r) (hK : eI M out r) : Rn rom (d + 2) 38 (0, [some (vR a0), some (vI a1), none, none, none], [], (G0, M)) out := by
  have hc : xkall.getD 38 [] = xk_38 := rfl
  unfold f_38 at e
  refine Rn_ms (σ' := (4, [some (vR a0), some (vI a1), some (vI 0), some (vI 0), none], [], (G0, M))) hc 4 rfl ?_
  exact Rn_weak (xle_s (xle_s (xle_s (xle_s (xle_s xle_0))))) (t_38_L4 h0 e hK)
/-- PedalLayers$OrderReading.letter -/
def f_41 (a0 : Int) : Int :=
  if wr a0 = 104 then
    2
  else
  if wr a0 = 105 then
    (-1)
  else
  if wr a0 = 106 then
    (-1)
  else
  if wr a0 = 107 then
    (-1)
  else
  if wr a0 = 108 then
    (-1)
  else
  if wr a0 = 109 then
    (-1)
  else
  if wr a0 = 110 then
    (-1)
  else
  if wr a0 = 111 then
    (-1)
  else
  if wr a0 = 112 then
    1
  else
  if wr a0 = 113 then
    (-1)
  else
  if wr a0 = 114 then
    (-1)
  else
  if wr a0 = 115 then
    1
  else
  if wr a0 = 116 then
    8
  else
  if wr a0 = 117 then
    (-1)
  else
  if wr a0 = 118 then
    1
  else
  if wr a0 = 119 then
    (-1)
  else
  if wr a0 = 120 then
    1
  else
  if wr a0 = 121 then
    1
  else
  (-1)
theorem t_41 {rom : xRom} {d : Nat} {M : xM} {a0 : Int} {r : Int} {out : Option xV × xH} (e : f_41 a0 = r) (hK : eI M out r) : Rn rom (d + 0) 41 (0, [some (vI a0)], [], (G0, M)) out := by
  have hc : xkall.getD 41 [] = xk_41 := rfl
  unfold f_41 at e
  refine Rn_ms (σ' := (1, [some (vI a0)], [vI a0], (G0, M))) hc 1 rfl ?_
  refine R_ite e (fun b1 e => ?_) (fun b1 e => ?_)
  · refine Rn_tsw (off := 89) (tgt := 90) hc rfl rfl (xsw_at b1 (by decide) (by decide) (by decide) rfl) rfl ?_
    refine Rn_ms (σ' := (91, [some (vI a0)], [vI 2], (G0, M))) hc 1 rfl ?_
    cases e
    exact R_end (Rn_iret hc rfl rfl (xretI rfl rfl)) hK
  refine R_ite e (fun b2 e => ?_) (fun b2 e => ?_)
  · refine Rn_tsw (off := 94) (tgt := 95) hc rfl rfl (xsw_at b2 (by decide) (by decide) (by decide) rfl) rfl ?_
    refine Rn_ms (σ' := (96, [some (vI a0)], [vI (-1)], (G0, M))) hc 1 rfl ?_
    cases e
    exact R_end (Rn_iret hc rfl rfl (xretI rfl rfl)) hK
  refine R_ite e (fun b3 e => ?_) (fun b3 e => ?_)
  · refine Rn_tsw (off := 94) (tgt := 95) hc rfl rfl (xsw_at b3 (by decide) (by decide) (by decide) rfl) rfl ?_
    refine Rn_ms (σ' := (96, [some (vI a0)], [vI (-1)], (G0, M))) hc 1 rfl ?_
    cases e
    exact R_end (Rn_iret hc rfl rfl (xretI rfl rfl)) hK
  refine R_ite e (fun b4 e => ?_) (fun b4 e => ?_)
  · refine Rn_tsw (off := 94) (tgt := 95) hc rfl rfl (xsw_at b4 (by decide) (by decide) (by decide) rfl) rfl ?_
    refine Rn_ms (σ' := (96, [some (vI a0)], [vI (-1)], (G0, M))) hc 1 rfl ?_
    cases e
    exact R_end (Rn_iret hc rfl rfl (xretI rfl rfl)) hK
  refine R_ite e (fun b5 e => ?_) (fun b5 e => ?_)
  · refine Rn_tsw (off := 94) (tgt := 95) hc rfl rfl (xsw_at b5 (by decide) (by decide) (by decide) rfl) rfl ?_
    refine Rn_ms (σ' := (96, [some (vI a0)], [vI (-1)], (G0, M))) hc 1 rfl ?_
    cases e
    exact R_end (Rn_iret hc rfl rfl (xretI rfl rfl)) hK
  refine R_ite e (fun b6 e => ?_) (fun b6 e => ?_)
  · refine Rn_tsw (off := 94) (tgt := 95) hc rfl rfl (xsw_at b6 (by decide) (by decide) (by decide) rfl) rfl ?_
    refine Rn_ms (σ' := (96, [some (vI a0)], [vI (-1)], (G0, M))) hc 1 rfl ?_
    cases e
    exact R_end (Rn_iret hc rfl rfl (xretI rfl rfl)) hK
  refine R_ite e (fun b7 e => ?_) (fun b7 e => ?_)
  · refine Rn_tsw (off := 94) (tgt := 95) hc rfl rfl (xsw_at b7 (by decide) (by decide) (by decide) rfl) rfl ?_
    refine Rn_ms (σ' := (96, [some (vI a0)], [vI (-1)], (G0, M))) hc 1 rfl ?_
    cases e
    exact R_end (Rn_iret hc rfl rfl (xretI rfl rfl)) hK
  refine R_ite e (fun b8 e => ?_) (fun b8 e => ?_)
  · refine Rn_tsw (off := 94) (tgt := 95) hc rfl rfl (xsw_at b8 (by decide) (by decide) (by decide) rfl) rfl ?_
    refine Rn_ms (σ' := (96, [some (vI a0)], [vI (-1)], (G0, M))) hc 1 rfl ?_
    cases e
    exact R_end (Rn_iret hc rfl rfl (xretI rfl rfl)) hK
  refine R_ite e (fun b9 e => ?_) (fun b9 e => ?_)
  · refine Rn_tsw (off := 87) (tgt := 88) hc rfl rfl (xsw_at b9 (by decide) (by decide) (by decide) rfl) rfl ?_
    refine Rn_ms (σ' := (89, [some (vI a0)], [vI 1], (G0, M))) hc 1 rfl ?_
    cases e
    exact R_end (Rn_iret hc rfl rfl (xretI rfl rfl)) hK
  refine R_ite e (fun b10 e => ?_) (fun b10 e => ?_)
  · refine Rn_tsw (off := 94) (tgt := 95) hc rfl rfl (xsw_at b10 (by decide) (by decide) (by decide) rfl) rfl ?_
    refine Rn_ms (σ' := (96, [some (vI a0)], [vI (-1)], (G0, M))) hc 1 rfl ?_
    cases e
    exact R_end (Rn_iret hc rfl rfl (xretI rfl rfl)) hK
  refine R_ite e (fun b11 e => ?_) (fun b11 e => ?_)
  · refine Rn_tsw (off := 94) (tgt := 95) hc rfl rfl (xsw_at b11 (by decide) (by decide) (by decide) rfl) rfl ?_
    refine Rn_ms (σ' := (96, [some (vI a0)], [vI (-1)], (G0, M))) hc 1 rfl ?_
    cases e
    exact R_end (Rn_iret hc rfl rfl (xretI rfl rfl)) hK
  refine R_ite e (fun b12 e => ?_) (fun b12 e => ?_)
  · refine Rn_tsw (off := 87) (tgt := 88) hc rfl rfl (xsw_at b12 (by decide) (by decide) (by decide) rfl) rfl ?_
    refine Rn_ms (σ' := (89, [some (vI a0)], [vI 1], (G0, M))) hc 1 rfl ?_
    cases e
    exact R_end (Rn_iret hc rfl rfl (xretI rfl rfl)) hK
  refine R_ite e (fun b13 e => ?_) (fun b13 e => ?_)
  · refine Rn_tsw (off := 91) (tgt := 92) hc rfl rfl (xsw_at b13 (by decide) (by decide) (by decide) rfl) rfl ?_
    refine Rn_ms (σ' := (94, [some (vI a0)], [vI 8], (G0, M))) hc 1 rfl ?_
    cases e
    exact R_end (Rn_iret hc rfl rfl (xretI rfl rfl)) hK
  refine R_ite e (fun b14 e => ?_) (fun b14 e => ?_)
  · refine Rn_tsw (off := 94) (tgt := 95) hc rfl rfl (xsw_at b14 (by decide) (by decide) (by decide) rfl) rfl ?_
    refine Rn_ms (σ' := (96, [some (vI a0)], [vI (-1)], (G0, M))) hc 1 rfl ?_
    cases e
    exact R_end (Rn_iret hc rfl rfl (xretI rfl rfl)) hK
  refine R_ite e (fun b15 e => ?_) (fun b15 e => ?_)
  · refine Rn_tsw (off := 87) (tgt := 88) hc rfl rfl (xsw_at b15 (by decide) (by decide) (by decide) rfl) rfl ?_
    refine Rn_ms (σ' := (89, [some (vI a0)], [vI 1], (G0, M))) hc 1 rfl ?_
    cases e
    exact R_end (Rn_iret hc rfl rfl (xretI rfl rfl)) hK
  refine R_ite e (fun b16 e => ?_) (fun b16 e => ?_)
  · refine Rn_tsw (off := 94) (tgt := 95) hc rfl rfl (xsw_at b16 (by decide) (by decide) (by decide) rfl) rfl ?_
    refine Rn_ms (σ' := (96, [some (vI a0)], [vI (-1)], (G0, M))) hc 1 rfl ?_
    cases e
    exact R_end (Rn_iret hc rfl rfl (xretI rfl rfl)) hK
  refine R_ite e (fun b17 e => ?_) (fun b17 e => ?_)
  · refine Rn_tsw (off := 87) (tgt := 88) hc rfl rfl (xsw_at b17 (by decide) (by decide) (by decide) rfl) rfl ?_
    refine Rn_ms (σ' := (89, [some (vI a0)], [vI 1], (G0, M))) hc 1 rfl ?_
    cases e
    exact R_end (Rn_iret hc rfl rfl (xretI rfl rfl)) hK
  refine R_ite e (fun b18 e => ?_) (fun b18 e => ?_)
  · refine Rn_tsw (off := 87) (tgt := 88) hc rfl rfl (xsw_at b18 (by decide) (by decide) (by decide) rfl) rfl ?_
    refine Rn_ms (σ' := (89, [some (vI a0)], [vI 1], (G0, M))) hc 1 rfl ?_
    cases e
    exact R_end (Rn_iret hc rfl rfl (xretI rfl rfl)) hK
  refine Rn_tsw (off := 94) (tgt := 95) hc rfl rfl (xsw_df (by omega)) rfl ?_
  refine Rn_ms (σ' := (96, [some (vI a0)], [vI (-1)], (G0, M))) hc 1 rfl ?_
  cases e
  exact R_end (Rn_iret hc rfl rfl (xretI rfl rfl)) hK
/-- PedalLayers$OrderReading.next -/
def f_40 (a1 : Int) (a2 : Int) : Int :=
  if wr a1 = 2 then
    if wr (f_53 a2) = 0 then
      (-1)
    else
      if wr a2 = 48 then
        4
      else
        3
  else
  if wr a1 = 3 then
    if wr (f_53 a2) = 0 then
      if wr a2 = 46 then
        5
      else
        (-1)
    else
      4
  else
  if wr a1 = 4 then
    if wr a2 = 46 then
      5
    else
      (-1)
  else
  if wr a1 = 5 then
    if wr (f_53 a2) = 0 then
      (-1)
    else
      if wr a2 = 48 then
        1
      else
        6
  else
  if wr a1 = 6 then
    if wr (f_53 a2) = 0 then
      (f_41 a2)
    else
      7
  else
  if wr a1 = 7 then
    if wr (f_53 a2) = 0 then
      (f_41 a2)
    else
      1
  else
  if wr a1 = 8 then
    if wr (f_53 a2) = 0 then
      (-1)
    else
      if wr a2 = 48 then
        (-1)
      else
        7
  else
  (f_41 a2)
theorem t_40 {rom : xRom} {d : Nat} {M : xM} {a1 : Int} {a2 : Int} {r : Int} {out : Option xV × xH} (e : f_40 a1 a2 = r) (hK : eI M out r) : Rn rom (d + 1) 40 (0, [some (vR 174), some (vI a1), some (vI a2), none], [], (G0, M)) out := by
  have hc : xkall.getD 40 [] = xk_40 := rfl
  unfold f_40 at e
  refine Rn_ms (σ' := (1, [some (vR 174), some (vI a1), some (vI a2), none], [vI a2], (G0, M))) hc 1 rfl ?_
  refine Rn_cs hc rfl rfl (by decide) (ii := xi_53) rfl rfl rfl (le := [some (vI a2)]) rfl (v := some (vI (f_53 a2))) (M' := M) (t_53  (d := d + 0) rfl rfl) ?_
  refine Rn_ms (σ' := (6, [some (vR 174), some (vI a1), some (vI a2), some (vI (f_53 a2))], [vI a1], (G0, M))) hc 2 rfl ?_
  refine R_ite e (fun b1 e => ?_) (fun b1 e => ?_)
  · refine Rn_tsw (off := 42) (tgt := 48) hc rfl rfl (xsw_at b1 (by decide) (by decide) (by decide) rfl) rfl ?_
    refine Rn_ms (σ' := (49, [some (vR 174), some (vI a1), some (vI a2), some (vI (f_53 a2))], [vI (f_53 a2)], (G0, M))) hc 1 rfl ?_
    refine R_ite e (fun b2 e => ?_) (fun b2 e => ?_)
    · refine Rn_ifF hc rfl rfl (by decide) (fun w => w b2) ?_
      refine Rn_ms (σ' := (67, [some (vR 174), some (vI a1), some (vI a2), some (vI (f_53 a2))], [vI (-1)], (G0, M))) hc 2 rfl ?_
      cases e
      exact R_end (Rn_iret hc rfl rfl (xretI rfl rfl)) hK
    · refine Rn_ifT (tgt := 56) hc rfl rfl (by decide) (fun w => b2 w) ?_
      refine Rn_ms (σ' := (59, [some (vR 174), some (vI a1), some (vI a2), some (vI (f_53 a2))], [vI 48, vI a2], (G0, M))) hc 2 rfl ?_
      refine R_ite e (fun b3 e => ?_) (fun b3 e => ?_)
      · refine Rn_icF hc rfl rfl (by decide) (fun w => w b3) ?_
        refine Rn_ms (σ' := (67, [some (vR 174), some (vI a1), some (vI a2), some (vI (f_53 a2))], [vI 4], (G0, M))) hc 2 rfl ?_
        cases e
        exact R_end (Rn_iret hc rfl rfl (xretI rfl rfl)) hK
      · refine Rn_icT (tgt := 66) hc rfl rfl (by decide) (fun w => b3 w) ?_
        refine Rn_ms (σ' := (67, [some (vR 174), some (vI a1), some (vI a2), some (vI (f_53 a2))], [vI 3], (G0, M))) hc 1 rfl ?_
        cases e
        exact R_end (Rn_iret hc rfl rfl (xretI rfl rfl)) hK
  refine R_ite e (fun b4 e => ?_) (fun b4 e => ?_)
  · refine Rn_tsw (off := 62) (tgt := 68) hc rfl rfl (xsw_at b4 (by decide) (by decide) (by decide) rfl) rfl ?_
    refine Rn_ms (σ' := (69, [some (vR 174), some (vI a1), some (vI a2), some (vI (f_53 a2))], [vI (f_53 a2)], (G0, M))) hc 1 rfl ?_
    refine R_ite e (fun b5 e => ?_) (fun b5 e => ?_)
    · refine Rn_ifT (tgt := 76) hc rfl rfl (by decide) b5 ?_
      refine Rn_ms (σ' := (79, [some (vR 174), some (vI a1), some (vI a2), some (vI (f_53 a2))], [vI 46, vI a2], (G0, M))) hc 2 rfl ?_
      refine R_ite e (fun b6 e => ?_) (fun b6 e => ?_)
      · refine Rn_icF hc rfl rfl (by decide) (fun w => w b6) ?_
        refine Rn_ms (σ' := (87, [some (vR 174), some (vI a1), some (vI a2), some (vI (f_53 a2))], [vI 5], (G0, M))) hc 2 rfl ?_
        cases e
        exact R_end (Rn_iret hc rfl rfl (xretI rfl rfl)) hK
      · refine Rn_icT (tgt := 86) hc rfl rfl (by decide) (fun w => b6 w) ?_
        refine Rn_ms (σ' := (87, [some (vR 174), some (vI a1), some (vI a2), some (vI (f_53 a2))], [vI (-1)], (G0, M))) hc 1 rfl ?_
        cases e
        exact R_end (Rn_iret hc rfl rfl (xretI rfl rfl)) hK
    · refine Rn_ifF hc rfl rfl (by decide) b5 ?_
      refine Rn_ms (σ' := (87, [some (vR 174), some (vI a1), some (vI a2), some (vI (f_53 a2))], [vI 4], (G0, M))) hc 2 rfl ?_
      cases e
      exact R_end (Rn_iret hc rfl rfl (xretI rfl rfl)) hK
  refine R_ite e (fun b7 e => ?_) (fun b7 e => ?_)
  · refine Rn_tsw (off := 82) (tgt := 88) hc rfl rfl (xsw_at b7 (by decide) (by decide) (by decide) rfl) rfl ?_
    refine Rn_ms (σ' := (91, [some (vR 174), some (vI a1), some (vI a2), some (vI (f_53 a2))], [vI 46, vI a2], (G0, M))) hc 2 rfl ?_
    refine R_ite e (fun b8 e => ?_) (fun b8 e => ?_)
    · refine Rn_icF hc rfl rfl (by decide) (fun w => w b8) ?_
      refine Rn_ms (σ' := (99, [some (vR 174), some (vI a1), some (vI a2), some (vI (f_53 a2))], [vI 5], (G0, M))) hc 2 rfl ?_
      cases e
      exact R_end (Rn_iret hc rfl rfl (xretI rfl rfl)) hK
    · refine Rn_icT (tgt := 98) hc rfl rfl (by decide) (fun w => b8 w) ?_
      refine Rn_ms (σ' := (99, [some (vR 174), some (vI a1), some (vI a2), some (vI (f_53 a2))], [vI (-1)], (G0, M))) hc 1 rfl ?_
      cases e
      exact R_end (Rn_iret hc rfl rfl (xretI rfl rfl)) hK
  refine R_ite e (fun b9 e => ?_) (fun b9 e => ?_)
  · refine Rn_tsw (off := 94) (tgt := 100) hc rfl rfl (xsw_at b9 (by decide) (by decide) (by decide) rfl) rfl ?_
    refine Rn_ms (σ' := (101, [some (vR 174), some (vI a1), some (vI a2), some (vI (f_53 a2))], [vI (f_53 a2)], (G0, M))) hc 1 rfl ?_
    refine R_ite e (fun b10 e => ?_) (fun b10 e => ?_)
    · refine Rn_ifF hc rfl rfl (by decide) (fun w => w b10) ?_
      refine Rn_ms (σ' := (120, [some (vR 174), some (vI a1), some (vI a2), some (vI (f_53 a2))], [vI (-1)], (G0, M))) hc 2 rfl ?_
      cases e
      exact R_end (Rn_iret hc rfl rfl (xretI rfl rfl)) hK
    · refine Rn_ifT (tgt := 108) hc rfl rfl (by decide) (fun w => b10 w) ?_
      refine Rn_ms (σ' := (111, [some (vR 174), some (vI a1), some (vI a2), some (vI (f_53 a2))], [vI 48, vI a2], (G0, M))) hc 2 rfl ?_
      refine R_ite e (fun b11 e => ?_) (fun b11 e => ?_)
      · refine Rn_icF hc rfl rfl (by decide) (fun w => w b11) ?_
        refine Rn_ms (σ' := (120, [some (vR 174), some (vI a1), some (vI a2), some (vI (f_53 a2))], [vI 1], (G0, M))) hc 2 rfl ?_
        cases e
        exact R_end (Rn_iret hc rfl rfl (xretI rfl rfl)) hK
      · refine Rn_icT (tgt := 118) hc rfl rfl (by decide) (fun w => b11 w) ?_
        refine Rn_ms (σ' := (120, [some (vR 174), some (vI a1), some (vI a2), some (vI (f_53 a2))], [vI 6], (G0, M))) hc 1 rfl ?_
        cases e
        exact R_end (Rn_iret hc rfl rfl (xretI rfl rfl)) hK
  refine R_ite e (fun b12 e => ?_) (fun b12 e => ?_)
  · refine Rn_tsw (off := 115) (tgt := 121) hc rfl rfl (xsw_at b12 (by decide) (by decide) (by decide) rfl) rfl ?_
    refine Rn_ms (σ' := (122, [some (vR 174), some (vI a1), some (vI a2), some (vI (f_53 a2))], [vI (f_53 a2)], (G0, M))) hc 1 rfl ?_
    refine R_ite e (fun b13 e => ?_) (fun b13 e => ?_)
    · refine Rn_ifT (tgt := 130) hc rfl rfl (by decide) b13 ?_
      refine Rn_ms (σ' := (131, [some (vR 174), some (vI a1), some (vI a2), some (vI (f_53 a2))], [vI a2], (G0, M))) hc 1 rfl ?_
      refine Rn_cs hc rfl rfl (by decide) (ii := xi_41) rfl rfl rfl (le := [some (vI a2)]) rfl (v := some (vI (f_41 a2))) (M' := M) (t_41  (d := d + 0) rfl rfl) ?_
      show Rn rom (d + 1) 40 (134, [some (vR 174), some (vI a1), some (vI a2), some (vI (f_53 a2))], [vI (f_41 a2)], (G0, M)) out
      cases e
      exact R_end (Rn_iret hc rfl rfl (xretI rfl rfl)) hK
    · refine Rn_ifF hc rfl rfl (by decide) b13 ?_
      refine Rn_ms (σ' := (134, [some (vR 174), some (vI a1), some (vI a2), some (vI (f_53 a2))], [vI 7], (G0, M))) hc 2 rfl ?_
      cases e
      exact R_end (Rn_iret hc rfl rfl (xretI rfl rfl)) hK
  refine R_ite e (fun b14 e => ?_) (fun b14 e => ?_)
  · refine Rn_tsw (off := 129) (tgt := 135) hc rfl rfl (xsw_at b14 (by decide) (by decide) (by decide) rfl) rfl ?_
    refine Rn_ms (σ' := (136, [some (vR 174), some (vI a1), some (vI a2), some (vI (f_53 a2))], [vI (f_53 a2)], (G0, M))) hc 1 rfl ?_
    refine R_ite e (fun b15 e => ?_) (fun b15 e => ?_)
    · refine Rn_ifT (tgt := 143) hc rfl rfl (by decide) b15 ?_
      refine Rn_ms (σ' := (144, [some (vR 174), some (vI a1), some (vI a2), some (vI (f_53 a2))], [vI a2], (G0, M))) hc 1 rfl ?_
      refine Rn_cs hc rfl rfl (by decide) (ii := xi_41) rfl rfl rfl (le := [some (vI a2)]) rfl (v := some (vI (f_41 a2))) (M' := M) (t_41  (d := d + 0) rfl rfl) ?_
      show Rn rom (d + 1) 40 (147, [some (vR 174), some (vI a1), some (vI a2), some (vI (f_53 a2))], [vI (f_41 a2)], (G0, M)) out
      cases e
      exact R_end (Rn_iret hc rfl rfl (xretI rfl rfl)) hK
    · refine Rn_ifF hc rfl rfl (by decide) b15 ?_
      refine Rn_ms (σ' := (147, [some (vR 174), some (vI a1), some (vI a2), some (vI (f_53 a2))], [vI 1], (G0, M))) hc 2 rfl ?_
      cases e
      exact R_end (Rn_iret hc rfl rfl (xretI rfl rfl)) hK
  refine R_ite e (fun b16 e => ?_) (fun b16 e => ?_)
  · refine Rn_tsw (off := 142) (tgt := 148) hc rfl rfl (xsw_at b16 (by decide) (by decide) (by decide) rfl) rfl ?_
    refine Rn_ms (σ' := (149, [some (vR 174), some (vI a1), some (vI a2), some (vI (f_53 a2))], [vI (f_53 a2)], (G0, M))) hc 1 rfl ?_
    refine R_ite e (fun b17 e => ?_) (fun b17 e => ?_)
    · refine Rn_ifT (tgt := 163) hc rfl rfl (by decide) b17 ?_
      refine Rn_ms (σ' := (164, [some (vR 174), some (vI a1), some (vI a2), some (vI (f_53 a2))], [vI (-1)], (G0, M))) hc 1 rfl ?_
      cases e
      exact R_end (Rn_iret hc rfl rfl (xretI rfl rfl)) hK
    · refine Rn_ifF hc rfl rfl (by decide) b17 ?_
      refine Rn_ms (σ' := (155, [some (vR 174), some (vI a1), some (vI a2), some (vI (f_53 a2))], [vI 48, vI a2], (G0, M))) hc 2 rfl ?_
      refine R_ite e (fun b18 e => ?_) (fun b18 e => ?_)
      · refine Rn_icT (tgt := 163) hc rfl rfl (by decide) b18 ?_
        refine Rn_ms (σ' := (164, [some (vR 174), some (vI a1), some (vI a2), some (vI (f_53 a2))], [vI (-1)], (G0, M))) hc 1 rfl ?_
        cases e
        exact R_end (Rn_iret hc rfl rfl (xretI rfl rfl)) hK
      · refine Rn_icF hc rfl rfl (by decide) b18 ?_
        refine Rn_ms (σ' := (164, [some (vR 174), some (vI a1), some (vI a2), some (vI (f_53 a2))], [vI 7], (G0, M))) hc 2 rfl ?_
        cases e
        exact R_end (Rn_iret hc rfl rfl (xretI rfl rfl)) hK
  refine Rn_tsw (off := 159) (tgt := 165) hc rfl rfl (xsw_df (by omega)) rfl ?_
  refine Rn_ms (σ' := (166, [some (vR 174), some (vI a1), some (vI a2), some (vI (f_53 a2))], [vI a2], (G0, M))) hc 1 rfl ?_
  refine Rn_cs hc rfl rfl (by decide) (ii := xi_41) rfl rfl rfl (le := [some (vI a2)]) rfl (v := some (vI (f_41 a2))) (M' := M) (t_41  (d := d + 0) rfl rfl) ?_
  show Rn rom (d + 1) 40 (169, [some (vR 174), some (vI a1), some (vI a2), some (vI (f_53 a2))], [vI (f_41 a2)], (G0, M)) out
  cases e
  exact R_end (Rn_iret hc rfl rfl (xretI rfl rfl)) hK
/-- PedalLayers$OrderReading.isComplete -/
def f_42 (a1 : Int) : Int :=
  if wr a1 = 1 then
    1
  else
    if wr a1 = 6 then
      1
    else
      if wr a1 = 7 then
        1
      else
        0
theorem t_42 {rom : xRom} {d : Nat} {M : xM} {a1 : Int} {r : Int} {out : Option xV × xH} (e : f_42 a1 = r) (hK : eI M out r) : Rn rom (d + 0) 42 (0, [some (vR 174), some (vI a1)], [], (G0, M)) out := by
  have hc : xkall.getD 42 [] = xk_42 := rfl
  unfold f_42 at e
  refine Rn_ms (σ' := (2, [some (vR 174), some (vI a1)], [vI 1, vI a1], (G0, M))) hc 2 rfl ?_
  refine R_ite e (fun b1 e => ?_) (fun b1 e => ?_)
  · refine Rn_icT (tgt := 17) hc rfl rfl (by decide) b1 ?_
    refine Rn_ms (σ' := (22, [some (vR 174), some (vI a1)], [vI 1], (G0, M))) hc 2 rfl ?_
    cases e
    exact R_end (Rn_iret hc rfl rfl (xretB rfl rfl (by decide))) hK
  · refine Rn_icF hc rfl rfl (by decide) b1 ?_
    refine Rn_ms (σ' := (8, [some (vR 174), some (vI a1)], [vI 6, vI a1], (G0, M))) hc 2 rfl ?_
    refine R_ite e (fun b2 e => ?_) (fun b2 e => ?_)
    · refine Rn_icT (tgt := 17) hc rfl rfl (by decide) b2 ?_
      refine Rn_ms (σ' := (22, [some (vR 174), some (vI a1)], [vI 1], (G0, M))) hc 2 rfl ?_
      cases e
      exact R_end (Rn_iret hc rfl rfl (xretB rfl rfl (by decide))) hK
    · refine Rn_icF hc rfl rfl (by decide) b2 ?_
      refine Rn_ms (σ' := (14, [some (vR 174), some (vI a1)], [vI 7, vI a1], (G0, M))) hc 2 rfl ?_
      refine R_ite e (fun b3 e => ?_) (fun b3 e => ?_)
      · refine Rn_icF hc rfl rfl (by decide) (fun w => w b3) ?_
        refine Rn_ms (σ' := (22, [some (vR 174), some (vI a1)], [vI 1], (G0, M))) hc 2 rfl ?_
        cases e
        exact R_end (Rn_iret hc rfl rfl (xretB rfl rfl (by decide))) hK
      · refine Rn_icT (tgt := 21) hc rfl rfl (by decide) (fun w => b3 w) ?_
        refine Rn_ms (σ' := (22, [some (vR 174), some (vI a1)], [vI 0], (G0, M))) hc 1 rfl ?_
        cases e
        exact R_end (Rn_iret hc rfl rfl (xretB rfl rfl (by decide))) hK
/-- PedalLayers$Pad.size -/
def f_44 (M : xM) : Int :=
  (M 172 1)
theorem t_44 {rom : xRom} {d : Nat} {M : xM}  {r : Int} {out : Option xV × xH} (e : f_44 M = r) (hK : eI M out r) : Rn rom (d + 0) 44 (0, [some (vR 172)], [], (G0, M)) out := by
  have hc : xkall.getD 44 [] = xk_44 := rfl
  unfold f_44 at e
  refine Rn_ms (σ' := (1, [some (vR 172)], [vR 172], (G0, M))) hc 1 rfl ?_
  refine Rn_getI hc rfl tgc_172 (by decide) (by decide) ?_
  show Rn rom (d + 0) 44 (4, [some (vR 172)], [vI (M 172 1)], (G0, M)) out
  cases e
  exact R_end (Rn_iret hc rfl rfl (xretI rfl rfl)) hK
/-- PedalLayers$Pad.add -/
def f_45 (M : xM) (a1 : Int) : Option (Int × xM) :=
  if wr a1 < 33 then
    some ((-1), M)
  else
    if wr a1 ≤ 126 then
      if wr (M 172 1) < 0 then
        some ((-3), M)
      else
        if wr (M 172 1) < 60 then
          gd (0 ≤ wr (xi2c a1) ∧ wr (xi2c a1) < 65536) (
          bnd (xset M 173 (wr (M 172 1)).toNat (xi2c a1)) (fun M6 =>
          bnd (xset M6 172 1 ((M6 172 1) + 1)) (fun M7 =>
          some ((M7 172 1), M7)
          )))
        else
          some ((-3), M)
    else
      some ((-1), M)
theorem t_45 {rom : xRom} {d : Nat} {M : xM} {a1 : Int} {r : Int × xM} {out : Option xV × xH} (e : f_45 M a1 = some r) (hK : eIW out r) : Rn rom (d + 0) 45 (0, [some (vR 172), some (vI a1)], [], (G0, M)) out := by
  have hc : xkall.getD 45 [] = xk_45 := rfl
  unfold f_45 at e
  refine Rn_ms (σ' := (3, [some (vR 172), some (vI a1)], [vI 33, vI a1], (G0, M))) hc 2 rfl ?_
  refine R_ite e (fun b1 e => ?_) (fun b1 e => ?_)
  · refine Rn_icT (tgt := 12) hc rfl rfl (by decide) b1 ?_
    refine Rn_ms (σ' := (13, [some (vR 172), some (vI a1)], [vI (-1)], (G0, M))) hc 1 rfl ?_
    cases e
    exact R_end (Rn_iret hc rfl rfl (xretI rfl rfl)) hK
  · refine Rn_icF hc rfl rfl (by decide) b1 ?_
    refine Rn_ms (σ' := (9, [some (vR 172), some (vI a1)], [vI 126, vI a1], (G0, M))) hc 2 rfl ?_
    refine R_ite e (fun b2 e => ?_) (fun b2 e => ?_)
    · refine Rn_icT (tgt := 14) hc rfl rfl (by decide) b2 ?_
      refine Rn_ms (σ' := (15, [some (vR 172), some (vI a1)], [vR 172], (G0, M))) hc 1 rfl ?_
      refine Rn_getI hc rfl tgc_172 (by decide) (by decide) ?_
      show Rn rom (d + 0) 45 (18, [some (vR 172), some (vI a1)], [vI (M 172 1)], (G0, M)) out
      refine R_ite e (fun b3 e => ?_) (fun b3 e => ?_)
      · refine Rn_ifT (tgt := 33) hc rfl rfl (by decide) b3 ?_
        refine Rn_ms (σ' := (35, [some (vR 172), some (vI a1)], [vI (-3)], (G0, M))) hc 1 rfl ?_
        cases e
        exact R_end (Rn_iret hc rfl rfl (xretI rfl rfl)) hK
      · refine Rn_ifF hc rfl rfl (by decide) b3 ?_
        refine Rn_ms (σ' := (22, [some (vR 172), some (vI a1)], [vR 172], (G0, M))) hc 1 rfl ?_
        refine Rn_getI hc rfl tgc_172 (by decide) (by decide) ?_
        refine Rn_ms (σ' := (26, [some (vR 172), some (vI a1)], [vR 172, vI (M 172 1)], (G0, M))) hc 1 rfl ?_
        refine Rn_getR hc rfl tgc_172 (by decide) rfl prc_172_0 ?_
        show Rn rom (d + 0) 45 (29, [some (vR 172), some (vI a1)], [vR 173, vI (M 172 1)], (G0, M)) out
        refine Rn_alen hc rfl rfl tgc_173 (by decide) zsc_173 ?_
        show Rn rom (d + 0) 45 (30, [some (vR 172), some (vI a1)], [vI 60, vI (M 172 1)], (G0, M)) out
        refine R_ite e (fun b4 e => ?_) (fun b4 e => ?_)
        · refine Rn_icT (tgt := 36) hc rfl rfl (by decide) b4 ?_
          refine Rn_ms (σ' := (37, [some (vR 172), some (vI a1)], [vR 172], (G0, M))) hc 1 rfl ?_
          refine Rn_getR hc rfl tgc_172 (by decide) rfl prc_172_0 ?_
          refine Rn_ms (σ' := (41, [some (vR 172), some (vI a1)], [vR 172, vR 173], (G0, M))) hc 1 rfl ?_
          refine Rn_getI hc rfl tgc_172 (by decide) (by decide) ?_
          refine Rn_ms (σ' := (46, [some (vR 172), some (vI a1)], [vI (xi2c a1), vI (M 172 1), vR 173], (G0, M))) hc 2 rfl ?_
          refine R_gd e (fun g5 e => ?_)
          refine R_bnd e (fun M6 hM6 e => ?_)
          refine Rn_cast' hM6 hc rfl rfl tgc_173 zsc_173 (by omega) g5 rfl ?_
          refine Rn_ms (σ' := (49, [some (vR 172), some (vI a1)], [vR 172, vR 172], (G0, M6))) hc 2 rfl ?_
          refine Rn_getI hc rfl tgc_172 (by decide) (by decide) ?_
          refine Rn_ms (σ' := (54, [some (vR 172), some (vI a1)], [vI ((M6 172 1) + 1), vR 172], (G0, M6))) hc 2 rfl ?_
          refine R_bnd e (fun M7 hM7 e => ?_)
          refine Rn_putI' hM7 hc rfl tgc_172 (by decide) (Or.inl rfl) ?_
          refine Rn_ms (σ' := (58, [some (vR 172), some (vI a1)], [vR 172], (G0, M7))) hc 1 rfl ?_
          refine Rn_getI hc rfl tgc_172 (by decide) (by decide) ?_
          show Rn rom (d + 0) 45 (61, [some (vR 172), some (vI a1)], [vI (M7 172 1)], (G0, M7)) out
          cases e
          exact R_end (Rn_iret hc rfl rfl (xretI rfl rfl)) hK
        · refine Rn_icF hc rfl rfl (by decide) b4 ?_
          refine Rn_ms (σ' := (35, [some (vR 172), some (vI a1)], [vI (-3)], (G0, M))) hc 1 rfl ?_
          cases e
          exact R_end (Rn_iret hc rfl rfl (xretI rfl rfl)) hK
    · refine Rn_icF hc rfl rfl (by decide) b2 ?_
      refine Rn_ms (σ' := (13, [some (vR 172), some (vI a1)], [vI (-1)], (G0, M))) hc 1 rfl ?_
      cases e
      exact R_end (Rn_iret hc rfl rfl (xretI rfl rfl)) hK
/-- PedalLayers$Pad.wipe -/
def f_46 (M : xM) : Int × xM :=
  bnd (xset M 172 1 0) (fun M1 =>
  ((M 172 1), M1)
  )
theorem t_46 {rom : xRom} {d : Nat} {M : xM}  {r : Int × xM} {out : Option xV × xH} (e : f_46 M = r) (hK : eIW out r) : Rn rom (d + 0) 46 (0, [some (vR 172), none], [], (G0, M)) out := by
  have hc : xkall.getD 46 [] = xk_46 := rfl
  unfold f_46 at e
  refine Rn_ms (σ' := (1, [some (vR 172), none], [vR 172], (G0, M))) hc 1 rfl ?_
  refine Rn_getI hc rfl tgc_172 (by decide) (by decide) ?_
  refine Rn_ms (σ' := (7, [some (vR 172), some (vI (M 172 1))], [vI 0, vR 172], (G0, M))) hc 3 rfl ?_
  refine R_bnd e (fun M1 hM1 e => ?_)
  refine Rn_putI' hM1 hc rfl tgc_172 (by decide) (Or.inl rfl) ?_
  refine Rn_ms (σ' := (11, [some (vR 172), some (vI (M 172 1))], [vI (M 172 1)], (G0, M1))) hc 1 rfl ?_
  cases e
  exact R_end (Rn_iret hc rfl rfl (xretI rfl rfl)) hK
/-- PedalLayers$Pad.isLetter -/
def f_48 (M : xM) (a1 : Int) : Option (Int) :=
  (f_47 M a1).bind (fun k1 =>
  if wr k1 < 97 then
    some (0)
  else
    (f_47 M a1).bind (fun k3 =>
    if 122 < wr k3 then
      some (0)
    else
      some (1)
    )
  )
theorem t_48 {rom : xRom} {d : Nat} {M : xM} {a1 : Int} {r : Int} {out : Option xV × xH} (e : f_48 M a1 = some r) (hK : eI M out r) : Rn rom (d + 1) 48 (0, [some (vR 172), some (vI a1)], [], (G0, M)) out := by
  have hc : xkall.getD 48 [] = xk_48 := rfl
  unfold f_48 at e
  refine Rn_ms (σ' := (2, [some (vR 172), some (vI a1)], [vI a1, vR 172], (G0, M))) hc 2 rfl ?_
  refine R_bind e (fun k1 hk1 e => ?_)
  refine Rn_cv hc rfl rfl (by decide) (ii := xi_47) rfl rfl rfl (tgc_172 : Tg _ = 6) (by decide) rfl (le := [some (vR 172), some (vI a1)]) rfl (v := some (vI k1)) (M' := M) (t_47  (d := d + 0) hk1 rfl) ?_
  refine Rn_ms (σ' := (7, [some (vR 172), some (vI a1)], [vI 97, vI k1], (G0, M))) hc 1 rfl ?_
  refine R_ite e (fun b2 e => ?_) (fun b2 e => ?_)
  · refine Rn_icT (tgt := 24) hc rfl rfl (by decide) b2 ?_
    refine Rn_ms (σ' := (25, [some (vR 172), some (vI a1)], [vI 0], (G0, M))) hc 1 rfl ?_
    cases e
    exact R_end (Rn_iret hc rfl rfl (xretB rfl rfl (by decide))) hK
  · refine Rn_icF hc rfl rfl (by decide) b2 ?_
    refine Rn_ms (σ' := (12, [some (vR 172), some (vI a1)], [vI a1, vR 172], (G0, M))) hc 2 rfl ?_
    refine R_bind e (fun k3 hk3 e => ?_)
    refine Rn_cv hc rfl rfl (by decide) (ii := xi_47) rfl rfl rfl (tgc_172 : Tg _ = 6) (by decide) rfl (le := [some (vR 172), some (vI a1)]) rfl (v := some (vI k3)) (M' := M) (t_47  (d := d + 0) hk3 rfl) ?_
    refine Rn_ms (σ' := (17, [some (vR 172), some (vI a1)], [vI 122, vI k3], (G0, M))) hc 1 rfl ?_
    refine R_ite e (fun b4 e => ?_) (fun b4 e => ?_)
    · refine Rn_icT (tgt := 24) hc rfl rfl (by decide) b4 ?_
      refine Rn_ms (σ' := (25, [some (vR 172), some (vI a1)], [vI 0], (G0, M))) hc 1 rfl ?_
      cases e
      exact R_end (Rn_iret hc rfl rfl (xretB rfl rfl (by decide))) hK
    · refine Rn_icF hc rfl rfl (by decide) b4 ?_
      refine Rn_ms (σ' := (25, [some (vR 172), some (vI a1)], [vI 1], (G0, M))) hc 2 rfl ?_
      cases e
      exact R_end (Rn_iret hc rfl rfl (xretB rfl rfl (by decide))) hK
/-- PedalLayers$Pedal.loopPlays -/
def f_61 (M : xM) (a0 : Nat) : Int :=
  if wr (M a0 4) = 2 then
    1
  else
    if wr (M a0 4) = 3 then
      1
    else
      0
theorem t_61 {rom : xRom} {d : Nat} {M : xM} {a0 : Nat} (h0 : Tg a0 = 7) {r : Int} {out : Option xV × xH} (e : f_61 M a0 = r) (hK : eI M out r) : Rn rom (d + 0) 61 (0, [some (vR a0)], [], (G0, M)) out := by
  have hc : xkall.getD 61 [] = xk_61 := rfl
  unfold f_61 at e
  refine Rn_ms (σ' := (1, [some (vR a0)], [vR a0], (G0, M))) hc 1 rfl ?_
  refine Rn_getI hc rfl h0 (by decide) (by decide) ?_
  refine Rn_ms (σ' := (5, [some (vR a0)], [vI 2, vI (M a0 4)], (G0, M))) hc 1 rfl ?_
  refine R_ite e (fun b1 e => ?_) (fun b1 e => ?_)
  · refine Rn_icT (tgt := 16) hc rfl rfl (by decide) b1 ?_
    refine Rn_ms (σ' := (21, [some (vR a0)], [vI 1], (G0, M))) hc 2 rfl ?_
    cases e
    exact R_end (Rn_iret hc rfl rfl (xretB rfl rfl (by decide))) hK
  · refine Rn_icF hc rfl rfl (by decide) b1 ?_
    refine Rn_ms (σ' := (9, [some (vR a0)], [vR a0], (G0, M))) hc 1 rfl ?_
    refine Rn_getI hc rfl h0 (by decide) (by decide) ?_
    refine Rn_ms (σ' := (13, [some (vR a0)], [vI 3, vI (M a0 4)], (G0, M))) hc 1 rfl ?_
    refine R_ite e (fun b2 e => ?_) (fun b2 e => ?_)
    · refine Rn_icF hc rfl rfl (by decide) (fun w => w b2) ?_
      refine Rn_ms (σ' := (21, [some (vR a0)], [vI 1], (G0, M))) hc 2 rfl ?_
      cases e
      exact R_end (Rn_iret hc rfl rfl (xretB rfl rfl (by decide))) hK
    · refine Rn_icT (tgt := 20) hc rfl rfl (by decide) (fun w => b2 w) ?_
      refine Rn_ms (σ' := (21, [some (vR a0)], [vI 0], (G0, M))) hc 1 rfl ?_
      cases e
      exact R_end (Rn_iret hc rfl rfl (xretB rfl rfl (by decide))) hK
/-- PedalLayers$Pedal.firstLength -/
def f_63 (M : xM) (a0 : Nat) : Option (Int) :=
  if (f_58 M a0 0) = 0 then
    some (0)
  else
    gd (Tg (f_58 M a0 0) = 3) (
    some (f_29 M ((f_58 M a0 0) + 1))
    )
theorem t_63 {rom : xRom} {d : Nat} {M : xM} {a0 : Nat} (h0 : Tg a0 = 7) {r : Int} {out : Option xV × xH} (e : f_63 M a0 = some r) (hK : eI M out r) : Rn rom (d + 2) 63 (0, [some (vR a0), none], [], (G0, M)) out := by
  have hc : xkall.getD 63 [] = xk_63 := rfl
  unfold f_63 at e
  refine Rn_ms (σ' := (2, [some (vR a0), none], [vI 0, vR a0], (G0, M))) hc 2 rfl ?_
  refine Rn_cv hc rfl rfl (by decide) (ii := xi_58) rfl rfl rfl (h0 : Tg _ = 7) (by decide) rfl (le := [some (vR a0), some (vI 0)]) rfl (v := some (vR (f_58 M a0 0))) (M' := M) (t_58 h0 (d := d + 0) rfl rfl) ?_
  refine Rn_ms (σ' := (7, [some (vR a0), some (vR (f_58 M a0 0))], [vR (f_58 M a0 0)], (G0, M))) hc 2 rfl ?_
  refine R_ite e (fun b1 e => ?_) (fun b1 e => ?_)
  · refine Rn_nnF hc rfl rfl (by decide) b1 ?_
    refine Rn_ms (σ' := (21, [some (vR a0), some (vR (f_58 M a0 0))], [vI 0], (G0, M))) hc 2 rfl ?_
    cases e
    exact R_end (Rn_iret hc rfl rfl (xretI rfl rfl)) hK
  · refine Rn_nnT (tgt := 14) hc rfl rfl (by decide) b1 ?_
    refine Rn_ms (σ' := (15, [some (vR a0), some (vR (f_58 M a0 0))], [vR (f_58 M a0 0)], (G0, M))) hc 1 rfl ?_
    refine R_gd e (fun g2 e => ?_)
    refine Rn_getR hc rfl g2 (by decide) rfl (gP3_0_0 g2) ?_
    show Rn rom (d + 2) 63 (18, [some (vR a0), some (vR (f_58 M a0 0))], [vR ((f_58 M a0 0) + 1)], (G0, M)) out
    refine Rn_cv hc rfl rfl (by decide) (ii := xi_29) rfl rfl rfl ((gT3_1 g2) : Tg _ = 4) (by decide) rfl (le := [some (vR ((f_58 M a0 0) + 1))]) rfl (v := some (vI (f_29 M ((f_58 M a0 0) + 1)))) (M' := M) (t_29 (gT3_1 g2) (d := d + 1) rfl rfl) ?_
    show Rn rom (d + 2) 63 (21, [some (vR a0), some (vR (f_58 M a0 0))], [vI (f_29 M ((f_58 M a0 0) + 1))], (G0, M)) out
    cases e
    exact R_end (Rn_iret hc rfl rfl (xretI rfl rfl)) hK
/-- PedalLayers$Pedal.isCell -/
def f_64 (M : xM) (a0 : Nat) (a1 : Int) : Option (Int) :=
  if wr a1 < 0 then
    some (0)
  else
    (f_62 M a0 (M a0 5)).bind (fun k2 =>
    if wr k2 ≤ wr a1 then
      some (0)
    else
      some (1)
    )
theorem t_64 {rom : xRom} {d : Nat} {M : xM} {a0 : Nat} {a1 : Int} (h0 : Tg a0 = 7) {r : Int} {out : Option xV × xH} (e : f_64 M a0 a1 = some r) (hK : eI M out r) : Rn rom (d + 2) 64 (0, [some (vR a0), some (vI a1)], [], (G0, M)) out := by
  have hc : xkall.getD 64 [] = xk_64 := rfl
  unfold f_64 at e
  refine Rn_ms (σ' := (1, [some (vR a0), some (vI a1)], [vI a1], (G0, M))) hc 1 rfl ?_
  refine R_ite e (fun b1 e => ?_) (fun b1 e => ?_)
  · refine Rn_ifT (tgt := 20) hc rfl rfl (by decide) b1 ?_
    refine Rn_ms (σ' := (21, [some (vR a0), some (vI a1)], [vI 0], (G0, M))) hc 1 rfl ?_
    cases e
    exact R_end (Rn_iret hc rfl rfl (xretB rfl rfl (by decide))) hK
  · refine Rn_ifF hc rfl rfl (by decide) b1 ?_
    refine Rn_ms (σ' := (7, [some (vR a0), some (vI a1)], [vR a0, vR a0, vI a1], (G0, M))) hc 3 rfl ?_
    refine Rn_getI hc rfl h0 (by decide) (by decide) ?_
    show Rn rom (d + 2) 64 (10, [some (vR a0), some (vI a1)], [vI (M a0 5), vR a0, vI a1], (G0, M)) out
    refine R_bind e (fun k2 hk2 e => ?_)
    refine Rn_cv hc rfl rfl (by decide) (ii := xi_62) rfl rfl rfl (h0 : Tg _ = 7) (by decide) rfl (le := [some (vR a0), some (vI (M a0 5)), none, none, none]) rfl (v := some (vI k2)) (M' := M) (t_62 h0 (d := d + 0) hk2 rfl) ?_
    show Rn rom (d + 2) 64 (13, [some (vR a0), some (vI a1)], [vI k2, vI a1], (G0, M)) out
    refine R_ite e (fun b3 e => ?_) (fun b3 e => ?_)
    · refine Rn_icT (tgt := 20) hc rfl rfl (by decide) b3 ?_
      refine Rn_ms (σ' := (21, [some (vR a0), some (vI a1)], [vI 0], (G0, M))) hc 1 rfl ?_
      cases e
      exact R_end (Rn_iret hc rfl rfl (xretB rfl rfl (by decide))) hK
    · refine Rn_icF hc rfl rfl (by decide) b3 ?_
      refine Rn_ms (σ' := (21, [some (vR a0), some (vI a1)], [vI 1], (G0, M))) hc 2 rfl ?_
      cases e
      exact R_end (Rn_iret hc rfl rfl (xretB rfl rfl (by decide))) hK
def f_67_L4b (M : xM) (a0 : Nat) (v1 : Int) (v2 : Int) : Option ((Int × Int) ⊕ (Int)) :=
  if wr (M a0 5) ≤ wr v2 then
    some (.inr (v1))
  else
    (f_66 M a0 v2).bind (fun k2 =>
    if k2 = 0 then
      some (.inl (v1, (v2 + 1)))
    else
      gd (Tg k2 = 3) (
      (f_38 M (k2 + 1) (f_65 M a0)).bind (fun k5 =>
      some (.inl ((xmax v1 k5), (v2 + 1)))
      ))
    )
theorem t_67_L4b {rom : xRom} {d : Nat} {a0 : Nat} {v1 : Int} {v2 : Int} {M : xM} (h0 : Tg a0 = 7) {r : (Int × Int) ⊕ (Int)} {out : Option xV × xH} (e : f_67_L4b M a0 v1 v2 = some r) (hK : ((Sum.elim (fun s => Rn rom (d + 3) 67 (4, [some (vR a0), some (vI s.1), some (vI s.2), none], [], (G0, M)) out) (eI M out))) r) : Rn rom (d + 3) 67 (4, [some (vR a0), some (vI v1), some (vI v2), none], [], (G0, M)) out := by
  have hc : xkall.getD 67 [] = xk_67 := rfl
  unfold f_67_L4b at e
  refine Rn_ms (σ' := (6, [some (vR a0), some (vI v1), some (vI v2), none], [vR a0, vI v2], (G0, M))) hc 2 rfl ?_
  refine Rn_getI hc rfl h0 (by decide) (by decide) ?_
  show Rn rom (d + 3) 67 (9, [some (vR a0), some (vI v1), some (vI v2), none], [vI (M a0 5), vI v2], (G0, M)) out
  refine R_ite e (fun b1 e => ?_) (fun b1 e => ?_)
  · refine Rn_icT (tgt := 44) hc rfl rfl (by decide) b1 ?_
    refine Rn_ms (σ' := (45, [some (vR a0), some (vI v1), some (vI v2), none], [vI v1], (G0, M))) hc 1 rfl ?_
    cases e
    exact R_end (Rn_iret hc rfl rfl (xretI rfl rfl)) hK
  · refine Rn_icF hc rfl rfl (by decide) b1 ?_
    refine Rn_ms (σ' := (14, [some (vR a0), some (vI v1), some (vI v2), none], [vI v2, vR a0], (G0, M))) hc 2 rfl ?_
    refine R_bind e (fun k2 hk2 e => ?_)
    refine Rn_cv hc rfl rfl (by decide) (ii := xi_66) rfl rfl rfl (h0 : Tg _ = 7) (by decide) rfl (le := [some (vR a0), some (vI v2), none]) rfl (v := some (vR k2)) (M' := M) (t_66 h0 (d := d + 0) hk2 rfl) ?_
    refine Rn_ms (σ' := (19, [some (vR a0), some (vI v1), some (vI v2), some (vR k2)], [vR k2], (G0, M))) hc 2 rfl ?_
    refine R_ite e (fun b3 e => ?_) (fun b3 e => ?_)
    · refine Rn_nuT (tgt := 38) hc rfl rfl (by decide) b3 ?_
      refine Rn_ms (σ' := (4, [some (vR a0), some (vI v1), some (vI (v2 + 1)), some (vR k2)], [], (G0, M))) hc 2 rfl ?_
      cases e
      exact Rn_weak (xle_s (xle_s (xle_s (xle_n xle_0)))) hK
    · refine Rn_nuF hc rfl rfl (by decide) b3 ?_
      refine Rn_ms (σ' := (24, [some (vR a0), some (vI v1), some (vI v2), some (vR k2)], [vR k2, vI v1], (G0, M))) hc 2 rfl ?_
      refine R_gd e (fun g4 e => ?_)
      refine Rn_getR hc rfl g4 (by decide) rfl (gP3_0_0 g4) ?_
      refine Rn_ms (σ' := (28, [some (vR a0), some (vI v1), some (vI v2), some (vR k2)], [vR a0, vR (k2 + 1), vI v1], (G0, M))) hc 1 rfl ?_
      refine Rn_cv hc rfl rfl (by decide) (ii := xi_65) rfl rfl rfl (h0 : Tg _ = 7) (by decide) rfl (le := [some (vR a0)]) rfl (v := some (vI (f_65 M a0))) (M' := M) (t_65 h0 (d := d + 2) rfl rfl) ?_
      show Rn rom (d + 3) 67 (31, [some (vR a0), some (vI v1), some (vI v2), some (vR k2)], [vI (f_65 M a0), vR (k2 + 1), vI v1], (G0, M)) out
      refine R_bind e (fun k5 hk5 e => ?_)
      refine Rn_cv hc rfl rfl (by decide) (ii := xi_38) rfl rfl rfl ((gT3_1 g4) : Tg _ = 4) (by decide) rfl (le := [some (vR (k2 + 1)), some (vI (f_65 M a0)), none, none, none]) rfl (v := some (vI k5)) (M' := M) (t_38 (gT3_1 g4) (d := d + 0) hk5 rfl) ?_
      show Rn rom (d + 3) 67 (34, [some (vR a0), some (vI v1), some (vI v2), some (vR k2)], [vI k5, vI v1], (G0, M)) out
      refine Rn_max hc rfl rfl (Nat.le_of_ble_eq_true rfl) ?_
      refine Rn_ms (σ' := (4, [some (vR a0), some (vI (xmax v1 k5)), some (vI (v2 + 1)), some (vR k2)], [], (G0, M))) hc 3 rfl ?_
      cases e
      exact Rn_weak (xle_s (xle_s (xle_s (xle_n xle_0)))) hK
def f_67_L4 (M : xM) (a0 : Nat) (s : Int × Int) : Option (Int) := loop NF (fun s => f_67_L4b M a0 s.1 s.2) s
theorem t_67_L4 {rom : xRom} {d : Nat} {a0 : Nat} {M : xM} (h0 : Tg a0 = 7) {s : Int × Int} {r : Int} {out : Option xV × xH} (e : f_67_L4 M a0 s = some r) (hK : (eI M out) r) : Rn rom (d + 3) 67 (4, [some (vR a0), some (vI s.1), some (vI s.2), none], [], (G0, M)) out := by
  unfold f_67_L4 at e
  revert e hK
  exact R_loop (b := fun s => f_67_L4b M a0 s.1 s.2) (G := fun s => Rn rom (d + 3) 67 (4, [some (vR a0), some (vI s.1), some (vI s.2), none], [], (G0, M)) out) (K := eI M out) (fun s r e hK => t_67_L4b h0 e hK) NF s r
/-- PedalLayers$Pedal.greatestHeardForce -/
def f_67 (M : xM) (a0 : Nat) : Option (Int) :=
  f_67_L4 M a0 (0, 0)
theorem t_67 {rom : xRom} {d : Nat} {M : xM} {a0 : Nat} (h0 : Tg a0 = 7) {r : Int} {out : Option xV × xH} (e : f_67 M a0 = some r) (hK : eI M out r) : Rn rom (d + 3) 67 (0, [some (vR a0), none, none, none], [], (G0, M)) out := by
  have hc : xkall.getD 67 [] = xk_67 := rfl
  unfold f_67 at e
  refine Rn_ms (σ' := (4, [some (vR a0), some (vI 0), some (vI 0), none], [], (G0, M))) hc 4 rfl ?_
  exact Rn_weak (xle_s (xle_s (xle_s (xle_s xle_0)))) (t_67_L4 h0 e hK)
def f_68_L20b (M : xM) (a0 : Nat) (c1 : Int) (c2 : Int) (v3 : Int) (v4 : Int) (v5 : Int) : Option ((Int × Int × Int) ⊕ (Int)) :=
  if 24 < wr v5 then
    some (.inr (v3))
  else
    if 24 < wr (v5 * c2) then
      some (.inr (v3))
    else
      if wr v4 ≤ wr (xabs ((v5 * c2) - c1)) then
        some (.inl (v3, v4, (v5 + 1)))
      else
        some (.inl ((v5 * c2), (xabs ((v5 * c2) - c1)), (v5 + 1)))
theorem t_68_L20b {rom : xRom} {d : Nat} {a0 : Nat} {c1 : Int} {c2 : Int} {v3 : Int} {v4 : Int} {v5 : Int} {M : xM} (h0 : Tg a0 = 7) {r : (Int × Int × Int) ⊕ (Int)} {out : Option xV × xH} (e : f_68_L20b M a0 c1 c2 v3 v4 v5 = some r) (hK : ((Sum.elim (fun s => Rn rom (d + 1) 68 (20, [none, some (vI c1), some (vI c2), some (vI s.1), some (vI s.2.1), some (vI s.2.2), none], [], (G0, M)) out) (eI M out))) r) : Rn rom (d + 1) 68 (20, [none, some (vI c1), some (vI c2), some (vI v3), some (vI v4), some (vI v5), none], [], (G0, M)) out := by
  have hc : xkall.getD 68 [] = xk_68 := rfl
  unfold f_68_L20b at e
  refine Rn_ms (σ' := (24, [none, some (vI c1), some (vI c2), some (vI v3), some (vI v4), some (vI v5), none], [vI 24, vI v5], (G0, M))) hc 2 rfl ?_
  refine R_ite e (fun b1 e => ?_) (fun b1 e => ?_)
  · refine Rn_icT (tgt := 69) hc rfl rfl (by decide) b1 ?_
    refine Rn_ms (σ' := (70, [none, some (vI c1), some (vI c2), some (vI v3), some (vI v4), some (vI v5), none], [vI v3], (G0, M))) hc 1 rfl ?_
    cases e
    exact R_end (Rn_iret hc rfl rfl (xretI rfl rfl)) hK
  · refine Rn_icF hc rfl rfl (by decide) b1 ?_
    refine Rn_ms (σ' := (33, [none, some (vI c1), some (vI c2), some (vI v3), some (vI v4), some (vI v5), none], [vI 24, vI (v5 * c2)], (G0, M))) hc 4 rfl ?_
    refine R_ite e (fun b2 e => ?_) (fun b2 e => ?_)
    · refine Rn_icT (tgt := 69) hc rfl rfl (by decide) b2 ?_
      refine Rn_ms (σ' := (70, [none, some (vI c1), some (vI c2), some (vI v3), some (vI v4), some (vI v5), none], [vI v3], (G0, M))) hc 1 rfl ?_
      cases e
      exact R_end (Rn_iret hc rfl rfl (xretI rfl rfl)) hK
    · refine Rn_icF hc rfl rfl (by decide) b2 ?_
      refine Rn_ms (σ' := (42, [none, some (vI c1), some (vI c2), some (vI v3), some (vI v4), some (vI v5), none], [vI ((v5 * c2) - c1)], (G0, M))) hc 5 rfl ?_
      refine Rn_abs hc rfl rfl (Nat.le_of_ble_eq_true rfl) ?_
      refine Rn_ms (σ' := (51, [none, some (vI c1), some (vI c2), some (vI v3), some (vI v4), some (vI v5), some (vI (xabs ((v5 * c2) - c1)))], [vI v4, vI (xabs ((v5 * c2) - c1))], (G0, M))) hc 3 rfl ?_
      refine R_ite e (fun b3 e => ?_) (fun b3 e => ?_)
      · refine Rn_icT (tgt := 63) hc rfl rfl (by decide) b3 ?_
        refine Rn_ms (σ' := (20, [none, some (vI c1), some (vI c2), some (vI v3), some (vI v4), some (vI (v5 + 1)), some (vI (xabs ((v5 * c2) - c1)))], [], (G0, M))) hc 2 rfl ?_
        cases e
        exact Rn_weak (xle_s (xle_s (xle_s (xle_s (xle_s (xle_s (xle_n xle_0))))))) hK
      · refine Rn_icF hc rfl rfl (by decide) b3 ?_
        refine Rn_ms (σ' := (20, [none, some (vI c1), some (vI c2), some (vI (v5 * c2)), some (vI (xabs ((v5 * c2) - c1))), some (vI (v5 + 1)), some (vI (xabs ((v5 * c2) - c1)))], [], (G0, M))) hc 8 rfl ?_
        cases e
        exact Rn_weak (xle_s (xle_s (xle_s (xle_s (xle_s (xle_s (xle_n xle_0))))))) hK
def f_68_L20 (M : xM) (a0 : Nat) (c1 : Int) (c2 : Int) (s : Int × Int × Int) : Option (Int) := loop NF (fun s => f_68_L20b M a0 c1 c2 s.1 s.2.1 s.2.2) s
theorem t_68_L20 {rom : xRom} {d : Nat} {a0 : Nat} {c1 : Int} {c2 : Int} {M : xM} (h0 : Tg a0 = 7) {s : Int × Int × Int} {r : Int} {out : Option xV × xH} (e : f_68_L20 M a0 c1 c2 s = some r) (hK : (eI M out) r) : Rn rom (d + 1) 68 (20, [none, some (vI c1), some (vI c2), some (vI s.1), some (vI s.2.1), some (vI s.2.2), none], [], (G0, M)) out := by
  unfold f_68_L20 at e
  revert e hK
  exact R_loop (b := fun s => f_68_L20b M a0 c1 c2 s.1 s.2.1 s.2.2) (G := fun s => Rn rom (d + 1) 68 (20, [none, some (vI c1), some (vI c2), some (vI s.1), some (vI s.2.1), some (vI s.2.2), none], [], (G0, M)) out) (K := eI M out) (fun s r e hK => t_68_L20b h0 e hK) NF s r
/-- PedalLayers$Pedal.wholeBars -/
def f_68 (M : xM) (a0 : Nat) (a1 : Int) : Option (Int) :=
  f_68_L20 M a0 a1 (f_59 M a0 0) (a1, ((f_59 M a0 1) + 1), 1)
theorem t_68 {rom : xRom} {d : Nat} {M : xM} {a0 : Nat} {a1 : Int} (h0 : Tg a0 = 7) {r : Int} {out : Option xV × xH} (e : f_68 M a0 a1 = some r) (hK : eI M out r) : Rn rom (d + 1) 68 (0, [some (vR a0), some (vI a1), none, none, none, none, none], [], (G0, M)) out := by
  have hc : xkall.getD 68 [] = xk_68 := rfl
  unfold f_68 at e
  refine Rn_ms (σ' := (2, [some (vR a0), some (vI a1), none, none, none, none, none], [vI 0, vR a0], (G0, M))) hc 2 rfl ?_
  refine Rn_cv hc rfl rfl (by decide) (ii := xi_59) rfl rfl rfl (h0 : Tg _ = 7) (by decide) rfl (le := [some (vR a0), some (vI 0)]) rfl (v := some (vI (f_59 M a0 0))) (M' := M) (t_59 h0 (d := d + 0) rfl rfl) ?_
  refine Rn_ms (σ' := (10, [some (vR a0), some (vI a1), some (vI (f_59 M a0 0)), some (vI a1), none, none, none], [vI 1, vR a0], (G0, M))) hc 5 rfl ?_
  refine Rn_cv hc rfl rfl (by decide) (ii := xi_59) rfl rfl rfl (h0 : Tg _ = 7) (by decide) rfl (le := [some (vR a0), some (vI 1)]) rfl (v := some (vI (f_59 M a0 1))) (M' := M) (t_59 h0 (d := d + 0) rfl rfl) ?_
  refine Rn_ms (σ' := (20, [some (vR a0), some (vI a1), some (vI (f_59 M a0 0)), some (vI a1), some (vI ((f_59 M a0 1) + 1)), some (vI 1), none], [], (G0, M))) hc 5 rfl ?_
  exact Rn_weak (xle_n (xle_s (xle_s (xle_s (xle_s (xle_s (xle_s xle_0))))))) (t_68_L20 h0 e hK)
/-- PedalLayers$Take.begin -/
def f_90 (M : xM) (a0 : Nat) (a1 : Int) (a2 : Int) : Option (xM) :=
  (f_32 M (a0 + 1) a1).bind (fun k1 =>
  bnd (xset k1 a0 1 0) (fun M2 =>
  bnd (xset M2 a0 2 a2) (fun M3 =>
  some (M3)
  )))
theorem t_90 {rom : xRom} {d : Nat} {M : xM} {a0 : Nat} {a1 : Int} {a2 : Int} (h0 : Tg a0 = 8) {r : xM} {out : Option xV × xH} (e : f_90 M a0 a1 a2 = some r) (hK : eVW out r) : Rn rom (d + 1) 90 (0, [some (vR a0), some (vI a1), some (vI a2)], [], (G0, M)) out := by
  have hc : xkall.getD 90 [] = xk_90 := rfl
  unfold f_90 at e
  refine Rn_ms (σ' := (1, [some (vR a0), some (vI a1), some (vI a2)], [vR a0], (G0, M))) hc 1 rfl ?_
  refine Rn_getR hc rfl h0 (by decide) rfl (gP8_0_0 h0) ?_
  refine Rn_ms (σ' := (5, [some (vR a0), some (vI a1), some (vI a2)], [vI a1, vR (a0 + 1)], (G0, M))) hc 1 rfl ?_
  refine R_bind e (fun k1 hk1 e => ?_)
  refine Rn_cv hc rfl rfl (by decide) (ii := xi_32) rfl rfl rfl ((gT8_1 h0) : Tg _ = 4) (by decide) rfl (le := [some (vR (a0 + 1)), some (vI a1), none]) rfl (v := none) (M' := k1) (t_32 (gT8_1 h0) (d := d + 0) hk1 rfl) ?_
  refine Rn_ms (σ' := (10, [some (vR a0), some (vI a1), some (vI a2)], [vI 0, vR a0], (G0, k1))) hc 2 rfl ?_
  refine R_bnd e (fun M2 hM2 e => ?_)
  refine Rn_putI' hM2 hc rfl h0 (by decide) (Or.inl rfl) ?_
  refine Rn_ms (σ' := (15, [some (vR a0), some (vI a1), some (vI a2)], [vI a2, vR a0], (G0, M2))) hc 2 rfl ?_
  refine R_bnd e (fun M3 hM3 e => ?_)
  refine Rn_putI' hM3 hc rfl h0 (by decide) (Or.inl rfl) ?_
  show Rn rom (d + 1) 90 (18, [some (vR a0), some (vI a1), some (vI a2)], [], (G0, M3)) out
  cases e
  exact R_end (Rn_vret hc rfl rfl rfl rfl) hK
/-- PedalLayers$Pedal.beginFirstTake -/
def f_70 (M : xM) (a0 : Nat) : Option (Int × xM) :=
  (f_90 M (a0 + 3) 24 0).bind (fun k1 =>
  bnd (xset k1 a0 4 1) (fun M2 =>
  some ((M2 a0 4), M2)
  ))
theorem t_70 {rom : xRom} {d : Nat} {M : xM} {a0 : Nat} (h0 : Tg a0 = 7) {r : Int × xM} {out : Option xV × xH} (e : f_70 M a0 = some r) (hK : eIW out r) : Rn rom (d + 2) 70 (0, [some (vR a0)], [], (G0, M)) out := by
  have hc : xkall.getD 70 [] = xk_70 := rfl
  unfold f_70 at e
  refine Rn_ms (σ' := (1, [some (vR a0)], [vR a0], (G0, M))) hc 1 rfl ?_
  refine Rn_getR hc rfl h0 (by decide) rfl (gP7_0_2 h0) ?_
  refine Rn_ms (σ' := (7, [some (vR a0)], [vI 0, vI 24, vR (a0 + 3)], (G0, M))) hc 2 rfl ?_
  refine R_bind e (fun k1 hk1 e => ?_)
  refine Rn_cv hc rfl rfl (by decide) (ii := xi_90) rfl rfl rfl ((gT7_3 h0) : Tg _ = 8) (by decide) rfl (le := [some (vR (a0 + 3)), some (vI 24), some (vI 0)]) rfl (v := none) (M' := k1) (t_90 (gT7_3 h0) (d := d + 0) hk1 rfl) ?_
  refine Rn_ms (σ' := (12, [some (vR a0)], [vI 1, vR a0], (G0, k1))) hc 2 rfl ?_
  refine R_bnd e (fun M2 hM2 e => ?_)
  refine Rn_putI' hM2 hc rfl h0 (by decide) (Or.inl rfl) ?_
  refine Rn_ms (σ' := (16, [some (vR a0)], [vR a0], (G0, M2))) hc 1 rfl ?_
  refine Rn_getI hc rfl h0 (by decide) (by decide) ?_
  show Rn rom (d + 2) 70 (19, [some (vR a0)], [vI (M2 a0 4)], (G0, M2)) out
  cases e
  exact R_end (Rn_iret hc rfl rfl (xretI rfl rfl)) hK
/-- PedalLayers$Pedal.beginTakeOver -/
def f_71 (M : xM) (a0 : Nat) : Option (Int × xM) :=
  if wr (M a0 5) < 6 then
    (f_63 M a0).bind (fun k2 =>
    (f_90 M (a0 + 3) (2 * k2) (M a0 7)).bind (fun k3 =>
    bnd (xset k3 a0 4 3) (fun M4 =>
    some ((M4 a0 4), M4)
    )))
  else
    some ((-3), M)
theorem t_71 {rom : xRom} {d : Nat} {M : xM} {a0 : Nat} (h0 : Tg a0 = 7) {r : Int × xM} {out : Option xV × xH} (e : f_71 M a0 = some r) (hK : eIW out r) : Rn rom (d + 3) 71 (0, [some (vR a0)], [], (G0, M)) out := by
  have hc : xkall.getD 71 [] = xk_71 := rfl
  unfold f_71 at e
  refine Rn_ms (σ' := (1, [some (vR a0)], [vR a0], (G0, M))) hc 1 rfl ?_
  refine Rn_getI hc rfl h0 (by decide) (by decide) ?_
  refine Rn_ms (σ' := (6, [some (vR a0)], [vI 6, vI (M a0 5)], (G0, M))) hc 1 rfl ?_
  refine R_ite e (fun b1 e => ?_) (fun b1 e => ?_)
  · refine Rn_icT (tgt := 12) hc rfl rfl (by decide) b1 ?_
    refine Rn_ms (σ' := (13, [some (vR a0)], [vR a0], (G0, M))) hc 1 rfl ?_
    refine Rn_getR hc rfl h0 (by decide) rfl (gP7_0_2 h0) ?_
    refine Rn_ms (σ' := (18, [some (vR a0)], [vR a0, vI 2, vR (a0 + 3)], (G0, M))) hc 2 rfl ?_
    refine R_bind e (fun k2 hk2 e => ?_)
    refine Rn_cv hc rfl rfl (by decide) (ii := xi_63) rfl rfl rfl (h0 : Tg _ = 7) (by decide) rfl (le := [some (vR a0), none]) rfl (v := some (vI k2)) (M' := M) (t_63 h0 (d := d + 0) hk2 rfl) ?_
    refine Rn_ms (σ' := (23, [some (vR a0)], [vR a0, vI (2 * k2), vR (a0 + 3)], (G0, M))) hc 2 rfl ?_
    refine Rn_getI hc rfl h0 (by decide) (by decide) ?_
    show Rn rom (d + 3) 71 (26, [some (vR a0)], [vI (M a0 7), vI (2 * k2), vR (a0 + 3)], (G0, M)) out
    refine R_bind e (fun k3 hk3 e => ?_)
    refine Rn_cv hc rfl rfl (by decide) (ii := xi_90) rfl rfl rfl ((gT7_3 h0) : Tg _ = 8) (by decide) rfl (le := [some (vR (a0 + 3)), some (vI (2 * k2)), some (vI (M a0 7))]) rfl (v := none) (M' := k3) (t_90 (gT7_3 h0) (d := d + 1) hk3 rfl) ?_
    refine Rn_ms (σ' := (31, [some (vR a0)], [vI 3, vR a0], (G0, k3))) hc 2 rfl ?_
    refine R_bnd e (fun M4 hM4 e => ?_)
    refine Rn_putI' hM4 hc rfl h0 (by decide) (Or.inl rfl) ?_
    refine Rn_ms (σ' := (35, [some (vR a0)], [vR a0], (G0, M4))) hc 1 rfl ?_
    refine Rn_getI hc rfl h0 (by decide) (by decide) ?_
    show Rn rom (d + 3) 71 (38, [some (vR a0)], [vI (M4 a0 4)], (G0, M4)) out
    cases e
    exact R_end (Rn_iret hc rfl rfl (xretI rfl rfl)) hK
  · refine Rn_icF hc rfl rfl (by decide) b1 ?_
    refine Rn_ms (σ' := (11, [some (vR a0)], [vI (-3)], (G0, M))) hc 1 rfl ?_
    cases e
    exact R_end (Rn_iret hc rfl rfl (xretI rfl rfl)) hK
/-- PedalLayers$Pedal.startLoop -/
def f_72 (M : xM) (a0 : Nat) : Int × xM :=
  bnd (xset M a0 7 0) (fun M1 =>
  bnd (xset M1 a0 8 0) (fun M2 =>
  bnd (xset M2 a0 9 0) (fun M3 =>
  bnd (xset M3 a0 4 2) (fun M4 =>
  ((M4 a0 4), M4)
  ))))
theorem t_72 {rom : xRom} {d : Nat} {M : xM} {a0 : Nat} (h0 : Tg a0 = 7) {r : Int × xM} {out : Option xV × xH} (e : f_72 M a0 = r) (hK : eIW out r) : Rn rom (d + 0) 72 (0, [some (vR a0)], [], (G0, M)) out := by
  have hc : xkall.getD 72 [] = xk_72 := rfl
  unfold f_72 at e
  refine Rn_ms (σ' := (2, [some (vR a0)], [vI 0, vR a0], (G0, M))) hc 2 rfl ?_
  refine R_bnd e (fun M1 hM1 e => ?_)
  refine Rn_putI' hM1 hc rfl h0 (by decide) (Or.inl rfl) ?_
  refine Rn_ms (σ' := (7, [some (vR a0)], [vI 0, vR a0], (G0, M1))) hc 2 rfl ?_
  refine R_bnd e (fun M2 hM2 e => ?_)
  refine Rn_putI' hM2 hc rfl h0 (by decide) (Or.inl rfl) ?_
  refine Rn_ms (σ' := (12, [some (vR a0)], [vI 0, vR a0], (G0, M2))) hc 2 rfl ?_
  refine R_bnd e (fun M3 hM3 e => ?_)
  refine Rn_putI' hM3 hc rfl h0 (by decide) (Or.inl rfl) ?_
  refine Rn_ms (σ' := (17, [some (vR a0)], [vI 2, vR a0], (G0, M3))) hc 2 rfl ?_
  refine R_bnd e (fun M4 hM4 e => ?_)
  refine Rn_putI' hM4 hc rfl h0 (by decide) (Or.inl rfl) ?_
  refine Rn_ms (σ' := (21, [some (vR a0)], [vR a0], (G0, M4))) hc 1 rfl ?_
  refine Rn_getI hc rfl h0 (by decide) (by decide) ?_
  show Rn rom (d + 0) 72 (24, [some (vR a0)], [vI (M4 a0 4)], (G0, M4)) out
  cases e
  exact R_end (Rn_iret hc rfl rfl (xretI rfl rfl)) hK
/-- PedalLayers$Pedal.lay -/
def f_74 (M : xM) (a0 : Nat) (a1 : Int) : Option (xM) :=
  if (f_57 a0 (M a0 5)) = 0 then
    some (M)
  else
    gd (Tg (f_57 a0 (M a0 5)) = 3) (
    (f_33 M ((f_57 a0 (M a0 5)) + 1) (a0 + 4) a1).bind (fun k3 =>
    bnd (xset k3 (f_57 a0 (M a0 5)) 1 0) (fun M4 =>
    bnd (xset M4 (f_57 a0 (M a0 5)) 2 0) (fun M5 =>
    bnd (xset M5 a0 5 ((M5 a0 5) + 1)) (fun M6 =>
    bnd (xset M6 a0 6 0) (fun M7 =>
    bnd (xset M7 a0 10 ((M7 a0 10) + 1)) (fun M8 =>
    some (M8)
    )))))))
theorem t_74 {rom : xRom} {d : Nat} {M : xM} {a0 : Nat} {a1 : Int} (h0 : Tg a0 = 7) {r : xM} {out : Option xV × xH} (e : f_74 M a0 a1 = some r) (hK : eVW out r) : Rn rom (d + 2) 74 (0, [some (vR a0), some (vI a1), none], [], (G0, M)) out := by
  have hc : xkall.getD 74 [] = xk_74 := rfl
  unfold f_74 at e
  refine Rn_ms (σ' := (2, [some (vR a0), some (vI a1), none], [vR a0, vR a0], (G0, M))) hc 2 rfl ?_
  refine Rn_getI hc rfl h0 (by decide) (by decide) ?_
  show Rn rom (d + 2) 74 (5, [some (vR a0), some (vI a1), none], [vI (M a0 5), vR a0], (G0, M)) out
  refine Rn_cv hc rfl rfl (by decide) (ii := xi_57) rfl rfl rfl (h0 : Tg _ = 7) (by decide) rfl (le := [some (vR a0), some (vI (M a0 5))]) rfl (v := some (vR (f_57 a0 (M a0 5)))) (M' := M) (t_57 h0 (d := d + 1) rfl rfl) ?_
  refine Rn_ms (σ' := (10, [some (vR a0), some (vI a1), some (vR (f_57 a0 (M a0 5)))], [vR (f_57 a0 (M a0 5))], (G0, M))) hc 2 rfl ?_
  refine R_ite e (fun b1 e => ?_) (fun b1 e => ?_)
  · refine Rn_nnF hc rfl rfl (by decide) b1 ?_
    show Rn rom (d + 2) 74 (13, [some (vR a0), some (vI a1), some (vR (f_57 a0 (M a0 5)))], [], (G0, M)) out
    cases e
    exact R_end (Rn_vret hc rfl rfl rfl rfl) hK
  · refine Rn_nnT (tgt := 14) hc rfl rfl (by decide) b1 ?_
    refine Rn_ms (σ' := (15, [some (vR a0), some (vI a1), some (vR (f_57 a0 (M a0 5)))], [vR (f_57 a0 (M a0 5))], (G0, M))) hc 1 rfl ?_
    refine R_gd e (fun g2 e => ?_)
    refine Rn_getR hc rfl g2 (by decide) rfl (gP3_0_0 g2) ?_
    refine Rn_ms (σ' := (19, [some (vR a0), some (vI a1), some (vR (f_57 a0 (M a0 5)))], [vR a0, vR ((f_57 a0 (M a0 5)) + 1)], (G0, M))) hc 1 rfl ?_
    refine Rn_getR hc rfl h0 (by decide) rfl (gP7_0_2 h0) ?_
    show Rn rom (d + 2) 74 (22, [some (vR a0), some (vI a1), some (vR (f_57 a0 (M a0 5)))], [vR (a0 + 3), vR ((f_57 a0 (M a0 5)) + 1)], (G0, M)) out
    refine Rn_getR hc rfl (gT7_3 h0) (by decide) rfl (gP7_3_0 h0) ?_
    refine Rn_ms (σ' := (26, [some (vR a0), some (vI a1), some (vR (f_57 a0 (M a0 5)))], [vI a1, vR (a0 + 4), vR ((f_57 a0 (M a0 5)) + 1)], (G0, M))) hc 1 rfl ?_
    refine R_bind e (fun k3 hk3 e => ?_)
    refine Rn_cv hc rfl rfl (by decide) (ii := xi_33) rfl rfl rfl ((gT3_1 g2) : Tg _ = 4) (by decide) rfl (le := [some (vR ((f_57 a0 (M a0 5)) + 1)), some (vR (a0 + 4)), some (vI a1), none]) rfl (v := none) (M' := k3) (t_33 (gT3_1 g2) (gT7_4 h0) (d := d + 0) hk3 rfl) ?_
    refine Rn_ms (σ' := (31, [some (vR a0), some (vI a1), some (vR (f_57 a0 (M a0 5)))], [vI 0, vR (f_57 a0 (M a0 5))], (G0, k3))) hc 2 rfl ?_
    refine R_bnd e (fun M4 hM4 e => ?_)
    refine Rn_putI' hM4 hc rfl g2 (by decide) (Or.inr ⟨rfl, by decide⟩) ?_
    refine Rn_ms (σ' := (36, [some (vR a0), some (vI a1), some (vR (f_57 a0 (M a0 5)))], [vI 0, vR (f_57 a0 (M a0 5))], (G0, M4))) hc 2 rfl ?_
    refine R_bnd e (fun M5 hM5 e => ?_)
    refine Rn_putI' hM5 hc rfl g2 (by decide) (Or.inl rfl) ?_
    refine Rn_ms (σ' := (41, [some (vR a0), some (vI a1), some (vR (f_57 a0 (M a0 5)))], [vR a0, vR a0], (G0, M5))) hc 2 rfl ?_
    refine Rn_getI hc rfl h0 (by decide) (by decide) ?_
    refine Rn_ms (σ' := (46, [some (vR a0), some (vI a1), some (vR (f_57 a0 (M a0 5)))], [vI ((M5 a0 5) + 1), vR a0], (G0, M5))) hc 2 rfl ?_
    refine R_bnd e (fun M6 hM6 e => ?_)
    refine Rn_putI' hM6 hc rfl h0 (by decide) (Or.inl rfl) ?_
    refine Rn_ms (σ' := (51, [some (vR a0), some (vI a1), some (vR (f_57 a0 (M a0 5)))], [vI 0, vR a0], (G0, M6))) hc 2 rfl ?_
    refine R_bnd e (fun M7 hM7 e => ?_)
    refine Rn_putI' hM7 hc rfl h0 (by decide) (Or.inl rfl) ?_
    refine Rn_ms (σ' := (56, [some (vR a0), some (vI a1), some (vR (f_57 a0 (M a0 5)))], [vR a0, vR a0], (G0, M7))) hc 2 rfl ?_
    refine Rn_getI hc rfl h0 (by decide) (by decide) ?_
    refine Rn_ms (σ' := (61, [some (vR a0), some (vI a1), some (vR (f_57 a0 (M a0 5)))], [vI ((M7 a0 10) + 1), vR a0], (G0, M7))) hc 2 rfl ?_
    refine R_bnd e (fun M8 hM8 e => ?_)
    refine Rn_putI' hM8 hc rfl h0 (by decide) (Or.inl rfl) ?_
    show Rn rom (d + 2) 74 (64, [some (vR a0), some (vI a1), some (vR (f_57 a0 (M a0 5)))], [], (G0, M8)) out
    cases e
    exact R_end (Rn_vret hc rfl rfl rfl rfl) hK
def f_73_L80 (M : xM) (a0 : Nat) (c1 : Int) : Option (Int × xM) :=
  bnd (xset M a0 7 (f_134 ((M (a0 + 3) 2) + (M (a0 + 3) 1)) (4 * c1))) (fun M9 =>
  (f_74 M9 a0 (2 * c1)).bind (fun k10 =>
  bnd (xset k10 a0 4 2) (fun M11 =>
  some ((M11 a0 4), M11)
  )))
theorem t_73_L80 {rom : xRom} {d : Nat} {a0 : Nat} {c1 : Int} {M : xM} (h0 : Tg a0 = 7) {r : Int × xM} {out : Option xV × xH} (e : f_73_L80 M a0 c1 = some r) (hK : (eIW out) r) : Rn rom (d + 3) 73 (80, [some (vR a0), some (vI c1)], [], (G0, M)) out := by
  have hc : xkall.getD 73 [] = xk_73 := rfl
  unfold f_73_L80 at e
  refine Rn_ms (σ' := (82, [some (vR a0), some (vI c1)], [vR a0, vR a0], (G0, M))) hc 2 rfl ?_
  refine Rn_getR hc rfl h0 (by decide) rfl (gP7_0_2 h0) ?_
  show Rn rom (d + 3) 73 (85, [some (vR a0), some (vI c1)], [vR (a0 + 3), vR a0], (G0, M)) out
  refine Rn_getI hc rfl (gT7_3 h0) (by decide) (by decide) ?_
  refine Rn_ms (σ' := (89, [some (vR a0), some (vI c1)], [vR a0, vI (M (a0 + 3) 2), vR a0], (G0, M))) hc 1 rfl ?_
  refine Rn_getR hc rfl h0 (by decide) rfl (gP7_0_2 h0) ?_
  show Rn rom (d + 3) 73 (92, [some (vR a0), some (vI c1)], [vR (a0 + 3), vI (M (a0 + 3) 2), vR a0], (G0, M)) out
  refine Rn_getI hc rfl (gT7_3 h0) (by decide) (by decide) ?_
  refine Rn_ms (σ' := (99, [some (vR a0), some (vI c1)], [vI (4 * c1), vI ((M (a0 + 3) 2) + (M (a0 + 3) 1)), vR a0], (G0, M))) hc 4 rfl ?_
  refine Rn_cs hc rfl rfl (by decide) (ii := xi_134) rfl rfl rfl (le := [some (vI ((M (a0 + 3) 2) + (M (a0 + 3) 1))), some (vI (4 * c1))]) rfl (v := some (vI (f_134 ((M (a0 + 3) 2) + (M (a0 + 3) 1)) (4 * c1)))) (M' := M) (t_134  (d := d + 2) rfl rfl) ?_
  show Rn rom (d + 3) 73 (102, [some (vR a0), some (vI c1)], [vI (f_134 ((M (a0 + 3) 2) + (M (a0 + 3) 1)) (4 * c1)), vR a0], (G0, M)) out
  refine R_bnd e (fun M9 hM9 e => ?_)
  refine Rn_putI' hM9 hc rfl h0 (by decide) (Or.inl rfl) ?_
  refine Rn_ms (σ' := (109, [some (vR a0), some (vI c1)], [vI (2 * c1), vR a0], (G0, M9))) hc 4 rfl ?_
  refine R_bind e (fun k10 hk10 e => ?_)
  refine Rn_cv hc rfl rfl (by decide) (ii := xi_74) rfl rfl rfl (h0 : Tg _ = 7) (by decide) rfl (le := [some (vR a0), some (vI (2 * c1)), none]) rfl (v := none) (M' := k10) (t_74 h0 (d := d + 0) hk10 rfl) ?_
  refine Rn_ms (σ' := (133, [some (vR a0), some (vI c1)], [vI 2, vR a0], (G0, k10))) hc 3 rfl ?_
  refine R_bnd e (fun M11 hM11 e => ?_)
  refine Rn_putI' hM11 hc rfl h0 (by decide) (Or.inl rfl) ?_
  refine Rn_ms (σ' := (137, [some (vR a0), some (vI c1)], [vR a0], (G0, M11))) hc 1 rfl ?_
  refine Rn_getI hc rfl h0 (by decide) (by decide) ?_
  show Rn rom (d + 3) 73 (140, [some (vR a0), some (vI c1)], [vI (M11 a0 4)], (G0, M11)) out
  cases e
  exact R_end (Rn_iret hc rfl rfl (xretI rfl rfl)) hK
/-- PedalLayers$Pedal.endTake -/
def f_73 (M : xM) (a0 : Nat) : Option (Int × xM) :=
  if wr (M (a0 + 3) 1) = 0 then
    some ((-2), M)
  else
    if wr (M a0 4) = 1 then
      (f_68 M a0 (xmin ((wr ((M (a0 + 3) 1) + 1)).tdiv 2) 24)).bind (fun k3 =>
      (f_74 M a0 k3).bind (fun k4 =>
      bnd (f_72 k4 a0) (fun k5 =>
      some (k5.1, k5.2)
      )))
    else
      (f_63 M a0).bind (fun k6 =>
      (f_62 M a0 (M a0 5)).bind (fun k7 =>
      if wr k6 < wr k7 then
        f_73_L80 M a0 k6
      else
        if wr (M (a0 + 3) 1) ≤ wr (2 * k6) then
          (f_34 M (a0 + 4) k6).bind (fun k13 =>
          (f_74 k13 a0 k6).bind (fun k14 =>
          bnd (xset k14 a0 4 2) (fun M15 =>
          some ((M15 a0 4), M15)
          )))
        else
          f_73_L80 M a0 k6
      ))
theorem t_73 {rom : xRom} {d : Nat} {M : xM} {a0 : Nat} (h0 : Tg a0 = 7) {r : Int × xM} {out : Option xV × xH} (e : f_73 M a0 = some r) (hK : eIW out r) : Rn rom (d + 3) 73 (0, [some (vR a0), none], [], (G0, M)) out := by
  have hc : xkall.getD 73 [] = xk_73 := rfl
  unfold f_73 at e
  refine Rn_ms (σ' := (1, [some (vR a0), none], [vR a0], (G0, M))) hc 1 rfl ?_
  refine Rn_getR hc rfl h0 (by decide) rfl (gP7_0_2 h0) ?_
  show Rn rom (d + 3) 73 (4, [some (vR a0), none], [vR (a0 + 3)], (G0, M)) out
  refine Rn_getI hc rfl (gT7_3 h0) (by decide) (by decide) ?_
  show Rn rom (d + 3) 73 (7, [some (vR a0), none], [vI (M (a0 + 3) 1)], (G0, M)) out
  refine R_ite e (fun b1 e => ?_) (fun b1 e => ?_)
  · refine Rn_ifF hc rfl rfl (by decide) (fun w => w b1) ?_
    refine Rn_ms (σ' := (12, [some (vR a0), none], [vI (-2)], (G0, M))) hc 1 rfl ?_
    cases e
    exact R_end (Rn_iret hc rfl rfl (xretI rfl rfl)) hK
  · refine Rn_ifT (tgt := 13) hc rfl rfl (by decide) (fun w => b1 w) ?_
    refine Rn_ms (σ' := (14, [some (vR a0), none], [vR a0], (G0, M))) hc 1 rfl ?_
    refine Rn_getI hc rfl h0 (by decide) (by decide) ?_
    refine Rn_ms (σ' := (18, [some (vR a0), none], [vI 1, vI (M a0 4)], (G0, M))) hc 1 rfl ?_
    refine R_ite e (fun b2 e => ?_) (fun b2 e => ?_)
    · refine Rn_icF hc rfl rfl (by decide) (fun w => w b2) ?_
      refine Rn_ms (σ' := (24, [some (vR a0), none], [vR a0, vR a0, vR a0], (G0, M))) hc 3 rfl ?_
      refine Rn_getR hc rfl h0 (by decide) rfl (gP7_0_2 h0) ?_
      show Rn rom (d + 3) 73 (27, [some (vR a0), none], [vR (a0 + 3), vR a0, vR a0], (G0, M)) out
      refine Rn_getI hc rfl (gT7_3 h0) (by decide) (by decide) ?_
      refine Rn_ms (σ' := (33, [some (vR a0), none], [vI 2, vI ((M (a0 + 3) 1) + 1), vR a0, vR a0], (G0, M))) hc 3 rfl ?_
      refine Rn_div hc rfl ⟨rfl, rfl⟩ (z' := 2) (by decide) (by decide) ?_
      refine Rn_ms (σ' := (36, [some (vR a0), none], [vI 24, vI ((wr ((M (a0 + 3) 1) + 1)).tdiv 2), vR a0, vR a0], (G0, M))) hc 1 rfl ?_
      refine Rn_min hc rfl rfl (Nat.le_of_ble_eq_true rfl) ?_
      show Rn rom (d + 3) 73 (39, [some (vR a0), none], [vI (xmin ((wr ((M (a0 + 3) 1) + 1)).tdiv 2) 24), vR a0, vR a0], (G0, M)) out
      refine R_bind e (fun k3 hk3 e => ?_)
      refine Rn_cv hc rfl rfl (by decide) (ii := xi_68) rfl rfl rfl (h0 : Tg _ = 7) (by decide) rfl (le := [some (vR a0), some (vI (xmin ((wr ((M (a0 + 3) 1) + 1)).tdiv 2) 24)), none, none, none, none, none]) rfl (v := some (vI k3)) (M' := M) (t_68 h0 (d := d + 1) hk3 rfl) ?_
      show Rn rom (d + 3) 73 (42, [some (vR a0), none], [vI k3, vR a0], (G0, M)) out
      refine R_bind e (fun k4 hk4 e => ?_)
      refine Rn_cv hc rfl rfl (by decide) (ii := xi_74) rfl rfl rfl (h0 : Tg _ = 7) (by decide) rfl (le := [some (vR a0), some (vI k3), none]) rfl (v := none) (M' := k4) (t_74 h0 (d := d + 0) hk4 rfl) ?_
      refine Rn_ms (σ' := (46, [some (vR a0), none], [vR a0], (G0, k4))) hc 1 rfl ?_
      refine R_bnd e (fun k5 hk5 e => ?_)
      refine Rn_cv hc rfl rfl (by decide) (ii := xi_72) rfl rfl rfl (h0 : Tg _ = 7) (by decide) rfl (le := [some (vR a0)]) rfl (v := some (vI k5.1)) (M' := k5.2) (t_72 h0 (d := d + 2) hk5.symm rfl) ?_
      show Rn rom (d + 3) 73 (49, [some (vR a0), none], [vI k5.1], (G0, k5.2)) out
      cases e
      exact R_end (Rn_iret hc rfl rfl (xretI rfl rfl)) hK
    · refine Rn_icT (tgt := 50) hc rfl rfl (by decide) (fun w => b2 w) ?_
      refine Rn_ms (σ' := (51, [some (vR a0), none], [vR a0], (G0, M))) hc 1 rfl ?_
      refine R_bind e (fun k6 hk6 e => ?_)
      refine Rn_cv hc rfl rfl (by decide) (ii := xi_63) rfl rfl rfl (h0 : Tg _ = 7) (by decide) rfl (le := [some (vR a0), none]) rfl (v := some (vI k6)) (M' := M) (t_63 h0 (d := d + 0) hk6 rfl) ?_
      refine Rn_ms (σ' := (57, [some (vR a0), some (vI k6)], [vR a0, vR a0], (G0, M))) hc 3 rfl ?_
      refine Rn_getI hc rfl h0 (by decide) (by decide) ?_
      show Rn rom (d + 3) 73 (60, [some (vR a0), some (vI k6)], [vI (M a0 5), vR a0], (G0, M)) out
      refine R_bind e (fun k7 hk7 e => ?_)
      refine Rn_cv hc rfl rfl (by decide) (ii := xi_62) rfl rfl rfl (h0 : Tg _ = 7) (by decide) rfl (le := [some (vR a0), some (vI (M a0 5)), none, none, none]) rfl (v := some (vI k7)) (M' := M) (t_62 h0 (d := d + 1) hk7 rfl) ?_
      refine Rn_ms (σ' := (64, [some (vR a0), some (vI k6)], [vI k6, vI k7], (G0, M))) hc 1 rfl ?_
      refine R_ite e (fun b8 e => ?_) (fun b8 e => ?_)
      · refine Rn_icT (tgt := 80) hc rfl rfl (by decide) b8 ?_
        show Rn rom (d + 3) 73 (80, [some (vR a0), some (vI k6)], [], (G0, M)) out
        exact Rn_weak (xle_s (xle_s xle_0)) (t_73_L80 h0 e hK)
      · refine Rn_icF hc rfl rfl (by decide) b8 ?_
        refine Rn_ms (σ' := (68, [some (vR a0), some (vI k6)], [vR a0], (G0, M))) hc 1 rfl ?_
        refine Rn_getR hc rfl h0 (by decide) rfl (gP7_0_2 h0) ?_
        show Rn rom (d + 3) 73 (71, [some (vR a0), some (vI k6)], [vR (a0 + 3)], (G0, M)) out
        refine Rn_getI hc rfl (gT7_3 h0) (by decide) (by decide) ?_
        refine Rn_ms (σ' := (77, [some (vR a0), some (vI k6)], [vI (2 * k6), vI (M (a0 + 3) 1)], (G0, M))) hc 3 rfl ?_
        refine R_ite e (fun b12 e => ?_) (fun b12 e => ?_)
        · refine Rn_icT (tgt := 115) hc rfl rfl (by decide) b12 ?_
          refine Rn_ms (σ' := (116, [some (vR a0), some (vI k6)], [vR a0], (G0, M))) hc 1 rfl ?_
          refine Rn_getR hc rfl h0 (by decide) rfl (gP7_0_2 h0) ?_
          show Rn rom (d + 3) 73 (119, [some (vR a0), some (vI k6)], [vR (a0 + 3)], (G0, M)) out
          refine Rn_getR hc rfl (gT7_3 h0) (by decide) rfl (gP7_3_0 h0) ?_
          refine Rn_ms (σ' := (123, [some (vR a0), some (vI k6)], [vI k6, vR (a0 + 4)], (G0, M))) hc 1 rfl ?_
          refine R_bind e (fun k13 hk13 e => ?_)
          refine Rn_cv hc rfl rfl (by decide) (ii := xi_34) rfl rfl rfl ((gT7_4 h0) : Tg _ = 4) (by decide) rfl (le := [some (vR (a0 + 4)), some (vI k6), none, none]) rfl (v := none) (M' := k13) (t_34 (gT7_4 h0) (d := d + 0) hk13 rfl) ?_
          refine Rn_ms (σ' := (128, [some (vR a0), some (vI k6)], [vI k6, vR a0], (G0, k13))) hc 2 rfl ?_
          refine R_bind e (fun k14 hk14 e => ?_)
          refine Rn_cv hc rfl rfl (by decide) (ii := xi_74) rfl rfl rfl (h0 : Tg _ = 7) (by decide) rfl (le := [some (vR a0), some (vI k6), none]) rfl (v := none) (M' := k14) (t_74 h0 (d := d + 0) hk14 rfl) ?_
          refine Rn_ms (σ' := (133, [some (vR a0), some (vI k6)], [vI 2, vR a0], (G0, k14))) hc 2 rfl ?_
          refine R_bnd e (fun M15 hM15 e => ?_)
          refine Rn_putI' hM15 hc rfl h0 (by decide) (Or.inl rfl) ?_
          refine Rn_ms (σ' := (137, [some (vR a0), some (vI k6)], [vR a0], (G0, M15))) hc 1 rfl ?_
          refine Rn_getI hc rfl h0 (by decide) (by decide) ?_
          show Rn rom (d + 3) 73 (140, [some (vR a0), some (vI k6)], [vI (M15 a0 4)], (G0, M15)) out
          cases e
          exact R_end (Rn_iret hc rfl rfl (xretI rfl rfl)) hK
        · refine Rn_icF hc rfl rfl (by decide) b12 ?_
          show Rn rom (d + 3) 73 (80, [some (vR a0), some (vI k6)], [], (G0, M)) out
          exact Rn_weak (xle_s (xle_s xle_0)) (t_73_L80 h0 e hK)
/-- PedalLayers$Pedal.pressPedal -/
def f_69 (M : xM) (a0 : Nat) : Option (Int × xM) :=
  if wr (M a0 4) = 0 then
    (f_70 M a0).bind (fun k2 =>
    some (k2.1, k2.2)
    )
  else
  if wr (M a0 4) = 1 then
    (f_73 M a0).bind (fun k4 =>
    some (k4.1, k4.2)
    )
  else
  if wr (M a0 4) = 2 then
    (f_71 M a0).bind (fun k6 =>
    some (k6.1, k6.2)
    )
  else
  if wr (M a0 4) = 3 then
    (f_73 M a0).bind (fun k8 =>
    some (k8.1, k8.2)
    )
  else
  if wr (M a0 4) = 4 then
    bnd (f_72 M a0) (fun k10 =>
    some (k10.1, k10.2)
    )
  else
  (f_73 M a0).bind (fun k11 =>
  some (k11.1, k11.2)
  )
theorem t_69 {rom : xRom} {d : Nat} {M : xM} {a0 : Nat} (h0 : Tg a0 = 7) {r : Int × xM} {out : Option xV × xH} (e : f_69 M a0 = some r) (hK : eIW out r) : Rn rom (d + 4) 69 (0, [some (vR a0)], [], (G0, M)) out := by
  have hc : xkall.getD 69 [] = xk_69 := rfl
  unfold f_69 at e
  refine Rn_ms (σ' := (1, [some (vR a0)], [vR a0], (G0, M))) hc 1 rfl ?_
  refine Rn_getI hc rfl h0 (by decide) (by decide) ?_
  show Rn rom (d + 4) 69 (4, [some (vR a0)], [vI (M a0 4)], (G0, M)) out
  refine R_ite e (fun b1 e => ?_) (fun b1 e => ?_)
  · refine Rn_tsw (off := 36) (tgt := 40) hc rfl rfl (xsw_at b1 (by decide) (by decide) (by decide) rfl) rfl ?_
    refine Rn_ms (σ' := (41, [some (vR a0)], [vR a0], (G0, M))) hc 1 rfl ?_
    refine R_bind e (fun k2 hk2 e => ?_)
    refine Rn_cv hc rfl rfl (by decide) (ii := xi_70) rfl rfl rfl (h0 : Tg _ = 7) (by decide) rfl (le := [some (vR a0)]) rfl (v := some (vI k2.1)) (M' := k2.2) (t_70 h0 (d := d + 1) hk2 rfl) ?_
    show Rn rom (d + 4) 69 (44, [some (vR a0)], [vI k2.1], (G0, k2.2)) out
    cases e
    exact R_end (Rn_iret hc rfl rfl (xretI rfl rfl)) hK
  refine R_ite e (fun b3 e => ?_) (fun b3 e => ?_)
  · refine Rn_tsw (off := 51) (tgt := 55) hc rfl rfl (xsw_at b3 (by decide) (by decide) (by decide) rfl) rfl ?_
    refine Rn_ms (σ' := (56, [some (vR a0)], [vR a0], (G0, M))) hc 1 rfl ?_
    refine R_bind e (fun k4 hk4 e => ?_)
    refine Rn_cv hc rfl rfl (by decide) (ii := xi_73) rfl rfl rfl (h0 : Tg _ = 7) (by decide) rfl (le := [some (vR a0), none]) rfl (v := some (vI k4.1)) (M' := k4.2) (t_73 h0 (d := d + 0) hk4 rfl) ?_
    show Rn rom (d + 4) 69 (59, [some (vR a0)], [vI k4.1], (G0, k4.2)) out
    cases e
    exact R_end (Rn_iret hc rfl rfl (xretI rfl rfl)) hK
  refine R_ite e (fun b5 e => ?_) (fun b5 e => ?_)
  · refine Rn_tsw (off := 41) (tgt := 45) hc rfl rfl (xsw_at b5 (by decide) (by decide) (by decide) rfl) rfl ?_
    refine Rn_ms (σ' := (46, [some (vR a0)], [vR a0], (G0, M))) hc 1 rfl ?_
    refine R_bind e (fun k6 hk6 e => ?_)
    refine Rn_cv hc rfl rfl (by decide) (ii := xi_71) rfl rfl rfl (h0 : Tg _ = 7) (by decide) rfl (le := [some (vR a0)]) rfl (v := some (vI k6.1)) (M' := k6.2) (t_71 h0 (d := d + 0) hk6 rfl) ?_
    show Rn rom (d + 4) 69 (49, [some (vR a0)], [vI k6.1], (G0, k6.2)) out
    cases e
    exact R_end (Rn_iret hc rfl rfl (xretI rfl rfl)) hK
  refine R_ite e (fun b7 e => ?_) (fun b7 e => ?_)
  · refine Rn_tsw (off := 51) (tgt := 55) hc rfl rfl (xsw_at b7 (by decide) (by decide) (by decide) rfl) rfl ?_
    refine Rn_ms (σ' := (56, [some (vR a0)], [vR a0], (G0, M))) hc 1 rfl ?_
    refine R_bind e (fun k8 hk8 e => ?_)
    refine Rn_cv hc rfl rfl (by decide) (ii := xi_73) rfl rfl rfl (h0 : Tg _ = 7) (by decide) rfl (le := [some (vR a0), none]) rfl (v := some (vI k8.1)) (M' := k8.2) (t_73 h0 (d := d + 0) hk8 rfl) ?_
    show Rn rom (d + 4) 69 (59, [some (vR a0)], [vI k8.1], (G0, k8.2)) out
    cases e
    exact R_end (Rn_iret hc rfl rfl (xretI rfl rfl)) hK
  refine R_ite e (fun b9 e => ?_) (fun b9 e => ?_)
  · refine Rn_tsw (off := 46) (tgt := 50) hc rfl rfl (xsw_at b9 (by decide) (by decide) (by decide) rfl) rfl ?_
    refine Rn_ms (σ' := (51, [some (vR a0)], [vR a0], (G0, M))) hc 1 rfl ?_
    refine R_bnd e (fun k10 hk10 e => ?_)
    refine Rn_cv hc rfl rfl (by decide) (ii := xi_72) rfl rfl rfl (h0 : Tg _ = 7) (by decide) rfl (le := [some (vR a0)]) rfl (v := some (vI k10.1)) (M' := k10.2) (t_72 h0 (d := d + 3) hk10.symm rfl) ?_
    show Rn rom (d + 4) 69 (54, [some (vR a0)], [vI k10.1], (G0, k10.2)) out
    cases e
    exact R_end (Rn_iret hc rfl rfl (xretI rfl rfl)) hK
  refine Rn_tsw (off := 51) (tgt := 55) hc rfl rfl (xsw_df (by omega)) rfl ?_
  refine Rn_ms (σ' := (56, [some (vR a0)], [vR a0], (G0, M))) hc 1 rfl ?_
  refine R_bind e (fun k11 hk11 e => ?_)
  refine Rn_cv hc rfl rfl (by decide) (ii := xi_73) rfl rfl rfl (h0 : Tg _ = 7) (by decide) rfl (le := [some (vR a0), none]) rfl (v := some (vI k11.1)) (M' := k11.2) (t_73 h0 (d := d + 0) hk11 rfl) ?_
  show Rn rom (d + 4) 69 (59, [some (vR a0)], [vI k11.1], (G0, k11.2)) out
  cases e
  exact R_end (Rn_iret hc rfl rfl (xretI rfl rfl)) hK
/-- PedalLayers$Pedal.stopPedal -/
def f_75 (M : xM) (a0 : Nat) : Int × xM :=
  if wr (M a0 4) = 0 then
    ((-2), M)
  else
    if wr (M a0 4) = 4 then
      ((-2), M)
    else
      if wr (M a0 4) = 1 then
        bnd (xset M a0 4 0) (fun M4 =>
        ((M4 a0 4), M4)
        )
      else
        bnd (xset M a0 4 4) (fun M5 =>
        ((M5 a0 4), M5)
        )
theorem t_75 {rom : xRom} {d : Nat} {M : xM} {a0 : Nat} (h0 : Tg a0 = 7) {r : Int × xM} {out : Option xV × xH} (e : f_75 M a0 = r) (hK : eIW out r) : Rn rom (d + 0) 75 (0, [some (vR a0)], [], (G0, M)) out := by
  have hc : xkall.getD 75 [] = xk_75 := rfl
  unfold f_75 at e
  refine Rn_ms (σ' := (1, [some (vR a0)], [vR a0], (G0, M))) hc 1 rfl ?_
  refine Rn_getI hc rfl h0 (by decide) (by decide) ?_
  show Rn rom (d + 0) 75 (4, [some (vR a0)], [vI (M a0 4)], (G0, M)) out
  refine R_ite e (fun b1 e => ?_) (fun b1 e => ?_)
  · refine Rn_ifT (tgt := 15) hc rfl rfl (by decide) b1 ?_
    refine Rn_ms (σ' := (17, [some (vR a0)], [vI (-2)], (G0, M))) hc 1 rfl ?_
    cases e
    exact R_end (Rn_iret hc rfl rfl (xretI rfl rfl)) hK
  · refine Rn_ifF hc rfl rfl (by decide) b1 ?_
    refine Rn_ms (σ' := (8, [some (vR a0)], [vR a0], (G0, M))) hc 1 rfl ?_
    refine Rn_getI hc rfl h0 (by decide) (by decide) ?_
    refine Rn_ms (σ' := (12, [some (vR a0)], [vI 4, vI (M a0 4)], (G0, M))) hc 1 rfl ?_
    refine R_ite e (fun b2 e => ?_) (fun b2 e => ?_)
    · refine Rn_icF hc rfl rfl (by decide) (fun w => w b2) ?_
      refine Rn_ms (σ' := (17, [some (vR a0)], [vI (-2)], (G0, M))) hc 1 rfl ?_
      cases e
      exact R_end (Rn_iret hc rfl rfl (xretI rfl rfl)) hK
    · refine Rn_icT (tgt := 18) hc rfl rfl (by decide) (fun w => b2 w) ?_
      refine Rn_ms (σ' := (20, [some (vR a0)], [vR a0, vR a0], (G0, M))) hc 2 rfl ?_
      refine Rn_getI hc rfl h0 (by decide) (by decide) ?_
      refine Rn_ms (σ' := (24, [some (vR a0)], [vI 1, vI (M a0 4), vR a0], (G0, M))) hc 1 rfl ?_
      refine R_ite e (fun b3 e => ?_) (fun b3 e => ?_)
      · refine Rn_icF hc rfl rfl (by decide) (fun w => w b3) ?_
        refine Rn_ms (σ' := (32, [some (vR a0)], [vI 0, vR a0], (G0, M))) hc 2 rfl ?_
        refine R_bnd e (fun M4 hM4 e => ?_)
        refine Rn_putI' hM4 hc rfl h0 (by decide) (Or.inl rfl) ?_
        refine Rn_ms (σ' := (36, [some (vR a0)], [vR a0], (G0, M4))) hc 1 rfl ?_
        refine Rn_getI hc rfl h0 (by decide) (by decide) ?_
        show Rn rom (d + 0) 75 (39, [some (vR a0)], [vI (M4 a0 4)], (G0, M4)) out
        cases e
        exact R_end (Rn_iret hc rfl rfl (xretI rfl rfl)) hK
      · refine Rn_icT (tgt := 31) hc rfl rfl (by decide) (fun w => b3 w) ?_
        refine Rn_ms (σ' := (32, [some (vR a0)], [vI 4, vR a0], (G0, M))) hc 1 rfl ?_
        refine R_bnd e (fun M5 hM5 e => ?_)
        refine Rn_putI' hM5 hc rfl h0 (by decide) (Or.inl rfl) ?_
        refine Rn_ms (σ' := (36, [some (vR a0)], [vR a0], (G0, M5))) hc 1 rfl ?_
        refine Rn_getI hc rfl h0 (by decide) (by decide) ?_
        show Rn rom (d + 0) 75 (39, [some (vR a0)], [vI (M5 a0 4)], (G0, M5)) out
        cases e
        exact R_end (Rn_iret hc rfl rfl (xretI rfl rfl)) hK
