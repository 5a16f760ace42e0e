/-! runs over the objects G0: calls, ends, fewer locals -/
section RN2
variable {rom : xRom} {d y pc : Nat} {ls : xLs} {st : List xV} {M : xM} {out : Option xV × xH} {cd : List (Option xQ)}
theorem xinfo_ii {y : Nat} {ii : xI} (h : xiall.getD y xi_0 = ii) : xinfo y = ii := h
/-- a static method of ours -/
theorem Rn_cs {ins : ClassFile.Instr} {len kd y' b wi : Nat} {ii : xI} {as rest : List xV} {le : xLs} {v : Option xV} {M' : xM} (hc : xkall.getD y [] = cd) (hq : cd.getD pc none = some (ins, len, kd, y', b, wi)) (h6 : xcls ins = 6) (hk : kd ≤ 1) (hi : xiall.getD y' xi_0 = ii) (hf : ii.2.2.2.2.2.1 = 0)
    (hx : xinv y' ii.2.2.2.2.1 st = some (.inr (.inr (y', as, rest)))) (he : as.map some ++ List.replicate (ii.2.2.1 - as.length) none = le) (hcal : Rn rom d y' (0, le, [], (G0, M)) (v, (G0, M'))) (kk : Rn rom (d + 1) y (pc + 3, ls, v.toList ++ rest, (G0, M')) out) : Rn rom (d + 1) y (pc, ls, st, (G0, M)) out := by
  have hi : xinfo y' = ii := hi
  refine Rn_inv ((xcode_cd hc pc).trans hq) (y' := y') (as := as) (rest := rest) (h1 := (G0, M')) (v := v) ?_ ?_ kk
  · show (match xcls ins with | 0 => _ | 1 => _ | 2 => _ | 3 => _ | 4 => _ | 5 => _ | 6 => _ | _ => _) = _
    rw [h6]
    show (if kd = 11 then xdisp (ins, len, kd, y', b, wi) st (G0, M) else xcall (d + 1) pc (ins, len, kd, y', b, wi) ls st (G0, M)) = _
    rw [if_neg (by omega)]
    unfold xcall
    dsimp only
    rw [if_pos hk, hi, if_pos hf, hx]
  · unfold xentry; rw [hi, he]; exact hcal
/-- a method of an object -/
theorem Rn_cv {ins : ClassFile.Instr} {len kd y' b wi r : Nat} {ii : xI} {as rest : List xV} {le : xLs} {v : Option xV} {M' : xM} (hc : xkall.getD y [] = cd) (hq : cd.getD pc none = some (ins, len, kd, y', b, wi)) (h6 : xcls ins = 6) (hk : kd ≤ 1) (hi : xiall.getD y' xi_0 = ii) (hf : ii.2.2.2.2.2.1 = 1)
    (hr : st[ii.2.2.2.2.1]? = some (vR r)) (hT : Tg r = ii.2.2.2.2.2.2) (h9 : ii.2.2.2.2.2.2 ≠ 999) (hx : xinv y' (ii.2.2.2.2.1 + 1) st = some (.inr (.inr (y', as, rest)))) (he : as.map some ++ List.replicate (ii.2.2.1 - as.length) none = le) (hcal : Rn rom d y' (0, le, [], (G0, M)) (v, (G0, M'))) (kk : Rn rom (d + 1) y (pc + 3, ls, v.toList ++ rest, (G0, M')) out) : Rn rom (d + 1) y (pc, ls, st, (G0, M)) out := by
  have hi : xinfo y' = ii := hi
  have hb := Tg_lt hT h9
  refine Rn_inv ((xcode_cd hc pc).trans hq) (y' := y') (as := as) (rest := rest) (h1 := (G0, M')) (v := v) ?_ ?_ kk
  · show (match xcls ins with | 0 => _ | 1 => _ | 2 => _ | 3 => _ | 4 => _ | 5 => _ | 6 => _ | _ => _) = _
    rw [h6]
    show (if kd = 11 then xdisp (ins, len, kd, y', b, wi) st (G0, M) else xcall (d + 1) pc (ins, len, kd, y', b, wi) ls st (G0, M)) = _
    rw [if_neg (by omega)]
    unfold xcall
    dsimp only
    rw [if_pos hk, hi, if_neg (by omega), if_pos, hx]
    rw [hr, if_neg (by omega)]
    exact ⟨hb.1, hb.2, Or.inr hT⟩
  · unfold xentry; rw [hi, he]; exact hcal
/-- arraycopy over int arrays -/
theorem Rn_copy {ins : ClassFile.Instr} {len a b wi ra r0 za z0 : Nat} {n dp sp : Int} (hc : xkall.getD y [] = cd) (hq : cd.getD pc none = some (ins, len, 10, a, b, wi)) (h6 : xcls ins = 6) (hT : Tg ra = 100) (hT0 : Tg r0 = 100) (hZ : Zs ra = za) (hZ0 : Zs r0 = z0)
    (hg : 0 ≤ wr sp ∧ 0 ≤ wr dp ∧ 0 ≤ wr n ∧ wr sp + wr n ≤ z0 ∧ wr dp + wr n ≤ za) (hs : (st.map xcat).sum ≤ 8) (kk : Rn rom (d + 1) y (pc + 3, ls, st, (G0, xrow M ra (xcpy (M r0) (M ra) (wr sp).toNat (wr dp).toNat (wr n).toNat))) out) : Rn rom (d + 1) y (pc, ls, vI n :: vI dp :: vR ra :: vI sp :: vR r0 :: st, (G0, M)) out := by
  refine Rn_next ((xcode_cd hc pc).trans hq) (σ := (pc + 3, ls, st, (G0, xrow M ra (xcpy (M r0) (M ra) (wr sp).toNat (wr dp).toNat (wr n).toNat)))) ?_ kk
  show (match xcls ins with | 0 => _ | 1 => _ | 2 => _ | 3 => _ | 4 => _ | 5 => _ | 6 => _ | _ => _) = _
  rw [h6]
  show (if xobj G0 ra 100 ∧ xobj G0 r0 100 ∧ 0 ≤ wr sp ∧ 0 ≤ wr dp ∧ 0 ≤ wr n ∧ wr sp + wr n ≤ gZ G0 r0 ∧ wr dp + wr n ≤ gZ G0 ra ∧ (st.map xcat).sum ≤ 8 then nx (pc + 3) ls st (G0, xrow M ra (xcpy (M r0) (M ra) (wr sp).toNat (wr dp).toNat (wr n).toNat)) else none) = _
  rw [if_pos ⟨xobj_of hT (by decide), xobj_of hT0 (by decide), hg.1, hg.2.1, hg.2.2.1, by rw [show gZ G0 r0 = z0 from hZ0]; exact hg.2.2.2.1, by rw [show gZ G0 ra = za from hZ]; exact hg.2.2.2.2, hs⟩]
def xmax (x z : Int) : Int := if wr x < wr z then z else x
def xmin (x z : Int) : Int := if wr z < wr x then z else x
def xabs (x : Int) : Int := if wr x < 0 then -x else x
def xlc (x z : Int) : Int := if wl x < wl z then -1 else if wl x = wl z then 0 else 1
theorem Rn_max {ins : ClassFile.Instr} {len a b wi : Nat} {x z : Int} {h : xH} (hc : xkall.getD y [] = cd) (hq : cd.getD pc none = some (ins, len, 7, a, b, wi)) (h6 : xcls ins = 6) (hs : (st.map xcat).sum ≤ 8) (kk : Rn rom (d + 1) y (pc + 3, ls, vI (xmax x z) :: st, h) out) : Rn rom (d + 1) y (pc, ls, vI z :: vI x :: st, h) out := by
  refine Rn_next ((xcode_cd hc pc).trans hq) (σ := (pc + 3, ls, vI (xmax x z) :: st, h)) ?_ kk
  show (match xcls ins with | 0 => _ | 1 => _ | 2 => _ | 3 => _ | 4 => _ | 5 => _ | 6 => _ | _ => _) = _
  rw [h6]
  exact if_pos hs
theorem Rn_min {ins : ClassFile.Instr} {len a b wi : Nat} {x z : Int} {h : xH} (hc : xkall.getD y [] = cd) (hq : cd.getD pc none = some (ins, len, 8, a, b, wi)) (h6 : xcls ins = 6) (hs : (st.map xcat).sum ≤ 8) (kk : Rn rom (d + 1) y (pc + 3, ls, vI (xmin x z) :: st, h) out) : Rn rom (d + 1) y (pc, ls, vI z :: vI x :: st, h) out := by
  refine Rn_next ((xcode_cd hc pc).trans hq) (σ := (pc + 3, ls, vI (xmin x z) :: st, h)) ?_ kk
  show (match xcls ins with | 0 => _ | 1 => _ | 2 => _ | 3 => _ | 4 => _ | 5 => _ | 6 => _ | _ => _) = _
  rw [h6]
  exact if_pos hs
theorem Rn_abs {ins : ClassFile.Instr} {len a b wi : Nat} {x : Int} {h : xH} (hc : xkall.getD y [] = cd) (hq : cd.getD pc none = some (ins, len, 9, a, b, wi)) (h6 : xcls ins = 6) (hs : (st.map xcat).sum ≤ 8) (kk : Rn rom (d + 1) y (pc + 3, ls, vI (xabs x) :: st, h) out) : Rn rom (d + 1) y (pc, ls, vI x :: st, h) out := by
  refine Rn_next ((xcode_cd hc pc).trans hq) (σ := (pc + 3, ls, vI (xabs x) :: st, h)) ?_ kk
  show (match xcls ins with | 0 => _ | 1 => _ | 2 => _ | 3 => _ | 4 => _ | 5 => _ | 6 => _ | _ => _) = _
  rw [h6]
  exact if_pos hs
theorem Rn_div {q : xQ} {x z z' : Int} {h : xH} (hc : xkall.getD y [] = cd) (hq : cd.getD pc none = some q) (hi : q.1 = .idiv ∧ q.2.1 = 1) (hz : wr z = z') (h0 : z' ≠ 0) (kk : Rn rom d y (pc + 1, ls, vI ((wr x).tdiv z') :: st, h) out) : Rn rom d y (pc, ls, vI z :: vI x :: st, h) out := by
  obtain ⟨ins, len, kd, a, b, wi⟩ := q
  obtain ⟨rfl, rfl⟩ := hi
  subst hz
  refine Rn_next ((xcode_cd hc pc).trans hq) (σ := (pc + 1, ls, vI ((wr x).tdiv (wr z)) :: st, h)) ?_ kk
  show (match (if wr z = 0 then none else some (vI ((wr x).tdiv (wr z)) :: st)) with | some st' => nx (pc + 1) ls st' h | none => none) = _
  rw [if_neg h0]
theorem Rn_rem {q : xQ} {x z z' : Int} {h : xH} (hc : xkall.getD y [] = cd) (hq : cd.getD pc none = some q) (hi : q.1 = .irem ∧ q.2.1 = 1) (hz : wr z = z') (h0 : z' ≠ 0) (kk : Rn rom d y (pc + 1, ls, vI ((wr x).tmod z') :: st, h) out) : Rn rom d y (pc, ls, vI z :: vI x :: st, h) out := by
  obtain ⟨ins, len, kd, a, b, wi⟩ := q
  obtain ⟨rfl, rfl⟩ := hi
  subst hz
  refine Rn_next ((xcode_cd hc pc).trans hq) (σ := (pc + 1, ls, vI ((wr x).tmod (wr z)) :: st, h)) ?_ kk
  show (match (if wr z = 0 then none else some (vI ((wr x).tmod (wr z)) :: st)) with | some st' => nx (pc + 1) ls st' h | none => none) = _
  rw [if_neg h0]
theorem Rn_ldiv {q : xQ} {x z z' : Int} {h : xH} (hc : xkall.getD y [] = cd) (hq : cd.getD pc none = some q) (hi : q.1 = .ldiv ∧ q.2.1 = 1) (hz : wl z = z') (h0 : z' ≠ 0) (kk : Rn rom d y (pc + 1, ls, vL ((wl x).tdiv z') :: st, h) out) : Rn rom d y (pc, ls, vL z :: vL x :: st, h) out := by
  obtain ⟨ins, len, kd, a, b, wi⟩ := q
  obtain ⟨rfl, rfl⟩ := hi
  subst hz
  refine Rn_next ((xcode_cd hc pc).trans hq) (σ := (pc + 1, ls, vL ((wl x).tdiv (wl z)) :: st, h)) ?_ kk
  show (match (if wl z = 0 then none else some (vL ((wl x).tdiv (wl z)) :: st)) with | some st' => nx (pc + 1) ls st' h | none => none) = _
  rw [if_neg h0]
theorem Rn_lrem {q : xQ} {x z z' : Int} {h : xH} (hc : xkall.getD y [] = cd) (hq : cd.getD pc none = some q) (hi : q.1 = .lrem ∧ q.2.1 = 1) (hz : wl z = z') (h0 : z' ≠ 0) (kk : Rn rom d y (pc + 1, ls, vL ((wl x).tmod z') :: st, h) out) : Rn rom d y (pc, ls, vL z :: vL x :: st, h) out := by
  obtain ⟨ins, len, kd, a, b, wi⟩ := q
  obtain ⟨rfl, rfl⟩ := hi
  subst hz
  refine Rn_next ((xcode_cd hc pc).trans hq) (σ := (pc + 1, ls, vL ((wl x).tmod (wl z)) :: st, h)) ?_ kk
  show (match (if wl z = 0 then none else some (vL ((wl x).tmod (wl z)) :: st)) with | some st' => nx (pc + 1) ls st' h | none => none) = _
  rw [if_neg h0]
def nnan (x : UInt64) : Prop := x &&& 0x7fffffffffffffff ≤ 0x7ff0000000000000
def nnanD (x : UInt64) : Decidable (nnan x) := by unfold nnan; exact inferInstance
theorem Rn_dmul {q : xQ} {x z : UInt64} {h : xH} (hc : xkall.getD y [] = cd) (hq : cd.getD pc none = some q) (hi : q.1 = .dmul ∧ q.2.1 = 1) (h0 : nnan (FP.dmul x z)) (kk : Rn rom d y (pc + 1, ls, vD (FP.dmul x z) :: st, h) out) : Rn rom d y (pc, ls, vD z :: vD x :: st, h) out := by
  obtain ⟨ins, len, kd, a, b, wi⟩ := q
  obtain ⟨rfl, rfl⟩ := hi
  refine Rn_next ((xcode_cd hc pc).trans hq) (σ := (pc + 1, ls, vD (FP.dmul x z) :: st, h)) ?_ kk
  have h1 : FP.dmul x z &&& 0x7fffffffffffffff ≤ 0x7ff0000000000000 := h0
  show (match (if FP.dmul x z &&& 0x7fffffffffffffff ≤ 0x7ff0000000000000 then some (vD (FP.dmul x z) :: st) else none) with | some st' => nx (pc + 1) ls st' h | none => none) = _
  rw [if_pos h1]
theorem Rn_ddiv {q : xQ} {x z : UInt64} {h : xH} (hc : xkall.getD y [] = cd) (hq : cd.getD pc none = some q) (hi : q.1 = .ddiv ∧ q.2.1 = 1) (h0 : nnan (FP.ddiv x z)) (kk : Rn rom d y (pc + 1, ls, vD (FP.ddiv x z) :: st, h) out) : Rn rom d y (pc, ls, vD z :: vD x :: st, h) out := by
  obtain ⟨ins, len, kd, a, b, wi⟩ := q
  obtain ⟨rfl, rfl⟩ := hi
  refine Rn_next ((xcode_cd hc pc).trans hq) (σ := (pc + 1, ls, vD (FP.ddiv x z) :: st, h)) ?_ kk
  have h1 : FP.ddiv x z &&& 0x7fffffffffffffff ≤ 0x7ff0000000000000 := h0
  show (match (if FP.ddiv x z &&& 0x7fffffffffffffff ≤ 0x7ff0000000000000 then some (vD (FP.ddiv x z) :: st) else none) with | some st' => nx (pc + 1) ls st' h | none => none) = _
  rw [if_pos h1]
/-- ends -/
theorem Rn_iret {q : xQ} {z : Int} {h : xH} (hc : xkall.getD y [] = cd) (hq : cd.getD pc none = some q) (hi : q.1 = .ireturn) (hz : xretOk y z) : Rn rom d y (pc, ls, [vI z], h) (some (vI z), h) := by
  obtain ⟨ins, len, kd, a, b, wi⟩ := q
  subst hi
  refine Rn_fin ((xcode_cd hc pc).trans hq) ?_
  show @ite _ (xretOk y z) (xretOkD y z) _ _ = _
  rw [if_pos hz]
theorem xretI {y : Nat} {z : Int} {ii : xI} (hi : xiall.getD y xi_0 = ii) (h : ii.2.2.2.1 = some .int) : xretOk y z := by
  have hi : xinfo y = ii := hi
  unfold xretOk; rw [hi, h]; trivial
theorem xretB {y : Nat} {z : Int} {ii : xI} (hi : xiall.getD y xi_0 = ii) (h : ii.2.2.2.1 = some .boolean) (hz : wr z = 0 ∨ wr z = 1) : xretOk y z := by
  have hi : xinfo y = ii := hi
  unfold xretOk; rw [hi, h]; exact hz
theorem xretC {y : Nat} {z : Int} {ii : xI} (hi : xiall.getD y xi_0 = ii) (h : ii.2.2.2.1 = some .char) (hz : 0 ≤ wr z ∧ wr z < 65536) : xretOk y z := by
  have hi : xinfo y = ii := hi
  unfold xretOk; rw [hi, h]; exact hz
theorem Rn_aret {q : xQ} {r : Nat} {ii : xI} {C : String} {h : xH} (hc : xkall.getD y [] = cd) (hq : cd.getD pc none = some q) (hi : q.1 = .areturn) (hii : xiall.getD y xi_0 = ii) (hC : ii.2.2.2.1 = some (.object C)) : Rn rom d y (pc, ls, [vR r], h) (some (vR r), h) := by
  obtain ⟨ins, len, kd, a, b, wi⟩ := q
  subst hi
  have hii : xinfo y = ii := hii
  refine Rn_fin ((xcode_cd hc pc).trans hq) ?_
  show (match (xinfo y).2.2.2.1 with | some (.object _) => some (.inr (.inl (some (vR r)))) | _ => none : Option xR) = _
  rw [hii, hC]
theorem Rn_dret {q : xQ} {x : UInt64} {ii : xI} {h : xH} (hc : xkall.getD y [] = cd) (hq : cd.getD pc none = some q) (hi : q.1 = .dreturn) (hii : xiall.getD y xi_0 = ii) (hC : ii.2.2.2.1 = some .double) : Rn rom d y (pc, ls, [vD x], h) (some (vD x), h) := by
  obtain ⟨ins, len, kd, a, b, wi⟩ := q
  subst hi
  have hii : xinfo y = ii := hii
  refine Rn_fin ((xcode_cd hc pc).trans hq) ?_
  show (match (xinfo y).2.2.2.1 with | some .double => some (.inr (.inl (some (vD x)))) | _ => none : Option xR) = _
  rw [hii, hC]
theorem Rn_vret {q : xQ} {ii : xI} {h : xH} (hc : xkall.getD y [] = cd) (hq : cd.getD pc none = some q) (hi : q.1 = .return_) (hii : xiall.getD y xi_0 = ii) (hC : ii.2.2.2.1 = none) : Rn rom d y (pc, ls, [], h) (none, h) := by
  obtain ⟨ins, len, kd, a, b, wi⟩ := q
  subst hi
  have hii : xinfo y = ii := hii
  refine Rn_fin ((xcode_cd hc pc).trans hq) ?_
  show (match (xinfo y).2.2.2.1 with | none => some (.inr (.inl none)) | _ => none : Option xR) = _
  rw [hii, hC]
end RN2
/-- fewer locals are known -/
def xle (a b : xLs) : Prop := a.length = b.length ∧ ∀ k v, a.getD k none = some v → b.getD k none = some v
theorem xle_0 : xle [] [] := ⟨rfl, fun _ _ h => h⟩
theorem xle_n {a b : xLs} {w : Option xV} (h : xle a b) : xle (none :: a) (w :: b) := ⟨by rw [List.length_cons, List.length_cons, h.1], fun k v hk => by
  cases k with
  | zero => cases hk
  | succ k => exact h.2 k v hk⟩
theorem xle_s {a b : xLs} {w : Option xV} (h : xle a b) : xle (w :: a) (w :: b) := ⟨by rw [List.length_cons, List.length_cons, h.1], fun k v hk => by
  cases k with
  | zero => exact hk
  | succ k => exact h.2 k v hk⟩
theorem xle_set {a b : xLs} (h : xle a b) (k : Nat) (o : Option xV) : xle (a.set k o) (b.set k o) := by
  refine ⟨by rw [List.length_set, List.length_set, h.1], fun i v hi => ?_⟩
  rw [xgetD_set] at hi ⊢
  rw [← h.1]
  split at hi
  · rename_i q; rw [if_pos q]; exact hi
  · rename_i q; rw [if_neg q]; exact h.2 i v hi
theorem xle_setn {a b : xLs} (h : xle a b) (k : Nat) (hk : a.getD k none = none) : xle a (b.set k none) := by
  refine ⟨by rw [List.length_set, h.1], fun i v hi => ?_⟩
  rw [xgetD_set]
  split
  · rename_i q; rw [q.1, hk] at hi; cases hi
  · exact h.2 i v hi
theorem xle_clr {a b : xLs} (h : xle a b) (k : Nat) : xle (xclr a k) (xclr b k) := by
  cases k with
  | zero => exact h
  | succ k =>
    show xle (match a.getD k none with | some v => if xcat v = 2 then a.set k none else a | none => a) (match b.getD k none with | some v => if xcat v = 2 then b.set k none else b | none => b)
    cases ha : a.getD k none with
    | some v =>
      rw [h.2 k v ha]
      dsimp only
      split
      · exact xle_set h k none
      · exact h
    | none =>
      dsimp only
      split
      · split
        · exact xle_setn h k ha
        · exact h
      · exact h
theorem xle_sto {a b : xLs} (h : xle a b) (k : Nat) (v : xV) : xle (xsto a k v) (xsto b k v) := by
  unfold xsto
  split
  · exact xle_set (xle_set (xle_clr h k) k _) _ _
  · exact xle_set (xle_clr h k) k _
/-- results with their locals weakened -/
def xlr (a b : Option xR) : Prop := match a with
  | none => True
  | some (.inl (pc, ls, st, h)) => ∃ ls', b = some (.inl (pc, ls', st, h)) ∧ xle ls ls'
  | some r => b = some r
theorem xlr_nx {a b : xLs} (h : xle a b) {pc : Nat} {st : List xV} {hh : xH} : xlr (nx pc a st hh) (nx pc b st hh) := ⟨b, rfl, h⟩
theorem xlr_n {b : Option xR} : xlr none b := trivial
theorem xlr_r {r : Option xV ⊕ (Nat × List xV × List xV)} : xlr (some (.inr r)) (some (.inr r)) := rfl
theorem xle_jmp {a b : xLs} (h : xle a b) {pc : Nat} {ins : ClassFile.Instr} {st : List xV} {hh : xH} : xlr (xjmp pc ins a st hh) (xjmp pc ins b st hh) := by
  unfold xjmp
  split <;> repeat' split
  all_goals first
    | exact xlr_n
    | exact xlr_nx h
theorem xle_heap {rom : xRom} {a b : xLs} (h : xle a b) {y pc : Nat} {q : xQ} {st : List xV} {hh : xH} : xlr (xheap rom y pc q a st hh) (xheap rom y pc q b st hh) := by
  unfold xheap
  split <;> repeat' split
  all_goals first
    | exact xlr_n
    | exact xlr_nx h
theorem xle_inv {y' k : Nat} {st : List xV} : xlr (xinv y' k st) (xinv y' k st) := by
  unfold xinv
  split
  · exact xlr_r
  · exact xlr_n
theorem xle_call {a b : xLs} (h : xle a b) {d pc : Nat} {q : xQ} {st : List xV} {hh : xH} : xlr (xcall d pc q a st hh) (xcall d pc q b st hh) := by
  unfold xcall
  dsimp only
  split
  · split
    · exact xle_inv
    · by_cases hr : xrecv hh.1 (if (xinfo q.2.2.2.1).2.2.2.2.2.1 = 2 then 99 else (xinfo q.2.2.2.1).2.2.2.2.2.2) (st[(xinfo q.2.2.2.1).2.2.2.2.1]?)
      · rw [if_pos hr]; exact xle_inv
      · rw [if_neg hr]; exact xlr_n
  · split
    · exact xlr_n
    · split <;> repeat' split
      all_goals first
        | exact xlr_n
        | exact xlr_nx h
theorem xle_step {rom : xRom} {a b : xLs} (h : xle a b) {d y pc : Nat} {q : xQ} {st : List xV} {hh : xH} : xlr (xstep rom d y pc q a st hh) (xstep rom d y pc q b st hh) := by
  unfold xstep
  split
  · split
    · exact xlr_nx h
    · exact xlr_n
  · exact xle_jmp h
  · split
    · rename_i k t hk
      cases ha : a.getD k none with
      | none => exact xlr_n
      | some v =>
        rw [h.2 k v ha]
        dsimp only
        split
        · exact xlr_nx h
        · exact xlr_n
    · exact xlr_n
  · split
    · rw [h.1]
      split
      · exact xlr_nx (xle_sto h _ _)
      · exact xlr_n
    · exact xlr_n
  · split
    · rename_i k n hk
      cases ha : a.getD k none with
      | none => exact xlr_n
      | some v =>
        rw [h.2 k v ha]
        cases v with
        | inl z => exact xlr_nx (xle_set h _ _)
        | inr w => exact xlr_n
    · exact xlr_n
  · exact xle_heap h
  · split
    · unfold xdisp
      exact xlr_n
    · exact xle_call h
  · unfold xret
    split
    · split
      · rename_i z
        by_cases hz : xretOk y z
        · rw [if_pos hz]; exact xlr_r
        · rw [if_neg hz]; exact xlr_n
      · exact xlr_n
    · split
      · split
        · exact xlr_r
        · exact xlr_n
      · exact xlr_n
    · split
      · split
        · exact xlr_r
        · exact xlr_n
      · exact xlr_n
    · split
      · split
        · exact xlr_r
        · exact xlr_n
      · exact xlr_n
    · exact xlr_n
theorem xrun_weak {rom : xRom} : ∀ (f : Nat) {d y pc : Nat} {a b : xLs} {st : List xV} {h : xH} {out : Option xV × xH}, xle a b → xrun rom f d y (pc, a, st, h) = some out → xrun rom f d y (pc, b, st, h) = some out
  | 0, _, _, _, _, _, _, _, _, _, hr => by cases hr
  | f + 1, d, y, pc, a, b, st, h, out, hl, hr => by
    unfold xrun at hr ⊢
    split at hr
    · cases hr
    · rename_i q hq
      have hx := xle_step (rom := rom) hl (d := d) (y := y) (pc := pc) (q := q) (st := st) (hh := h)
      cases hs : xstep rom d y pc q a st h with
      | none => rw [hs] at hr; cases hr
      | some r =>
        rw [hs] at hr hx
        cases r with
        | inl σ =>
          obtain ⟨pc1, l1, st1, h1⟩ := σ
          obtain ⟨l2, e2, hl2⟩ := hx
          rw [e2]
          exact xrun_weak f hl2 hr
        | inr r =>
          have hx : xstep rom d y pc q b st h = some (.inr r) := hx
          rw [hx]
          cases r with
          | inl v => exact hr
          | inr c =>
            obtain ⟨y', as, rest⟩ := c
            dsimp only at hr ⊢
            cases d with
            | zero => cases hr
            | succ d' =>
              dsimp only at hr ⊢
              split at hr
              · cases hr
              · rename_i v h' hc
                exact xrun_weak f hl hr
theorem Rn_weak {rom : xRom} {d y pc : Nat} {a b : xLs} {st : List xV} {h : xH} {out : Option xV × xH} (hl : xle a b) (k : Rn rom d y (pc, a, st, h) out) : Rn rom d y (pc, b, st, h) out := by
  obtain ⟨f, hf⟩ := k
  exact ⟨f, xrun_weak f hl hf⟩
/-- more depth does no harm -/
theorem bind_some {α β : Type} {x : Option α} {f : α → Option β} {b : β} (h : x.bind f = some b) : ∃ a, x = some a ∧ f a = some b := by
  cases x with
  | none => cases h
  | some a => exact ⟨a, rfl, h⟩
def gd {α : Type} (c : Prop) [Decidable c] (k : Option α) : Option α := if c then k else none
theorem gd_some {α : Type} {c : Prop} [Decidable c] {k : Option α} {b : α} (h : gd c k = some b) : c ∧ k = some b := by
  unfold gd at h
  split at h
  · exact ⟨by assumption, h⟩
  · cases h
def gn {α : Type} (x : UInt64) (k : Option α) : Option α := @ite _ (nnan x) (nnanD x) k none
theorem gn_some {α : Type} {x : UInt64} {k : Option α} {b : α} (h : gn x k = some b) : nnan x ∧ k = some b := by
  unfold gn at h
  by_cases hx : nnan x
  · rw [if_pos hx] at h; exact ⟨hx, h⟩
  · rw [if_neg hx] at h; cases h
theorem gd_t {α : Type} {c : Prop} [Decidable c] {k : Option α} (h : c) : gd c k = k := if_pos h
