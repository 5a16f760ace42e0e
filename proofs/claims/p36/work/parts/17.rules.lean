/-! runs of the interpreter over the objects G0: a row an instruction -/
def Rn (rom : xRom) (d y : Nat) (σ : xF) (out : Option xV × xH) : Prop := ∃ f, xrun rom f d y σ = some out
theorem xrun_up {rom : xRom} : ∀ (f : Nat) {d y : Nat} {σ : xF} {out : Option xV × xH}, xrun rom f d y σ = some out → xrun rom (f + 1) d y σ = some out
  | 0, _, _, _, _, h => by cases h
  | f + 1, d, y, (pc, ls, st, h0), out, h => by
    unfold xrun at h ⊢
    split at h
    · cases h
    · rename_i q hq
      split at h
      · cases h
      · rename_i σ hs
        exact xrun_up f h
      · rename_i v hs
        exact h
      · rename_i y' as rest hs
        split at h
        · cases h
        · rename_i d'
          split at h
          · cases h
          · rename_i v h' hc
            rw [xrun_up f hc]
            exact xrun_up f h
theorem xrun_le {rom : xRom} {f g : Nat} {d y : Nat} {σ : xF} {out : Option xV × xH} (hfg : f ≤ g) (h : xrun rom f d y σ = some out) : xrun rom g d y σ = some out := by
  induction hfg with
  | refl => exact h
  | step _ ih => exact xrun_up _ ih
section RN
variable {rom : xRom} {d y pc : Nat} {ls : xLs} {st : List xV} {M : xM} {out : Option xV × xH} {cd : List (Option xQ)}
theorem Rn_next {h : xH} {q : xQ} {σ : xF} (hq : xcode y pc = some q) (hs : xstep rom d y pc q ls st h = some (.inl σ)) (k : Rn rom d y σ out) : Rn rom d y (pc, ls, st, h) out := by
  obtain ⟨f, hf⟩ := k
  refine ⟨f + 1, ?_⟩
  show (match xcode y pc with | none => none | some q => _) = _
  rw [hq]
  dsimp only
  rw [hs]
  exact hf
theorem Rn_fin {h : xH} {q : xQ} {v : Option xV} (hq : xcode y pc = some q) (hs : xstep rom d y pc q ls st h = some (.inr (.inl v))) : Rn rom d y (pc, ls, st, h) (v, h) := by
  refine ⟨1, ?_⟩
  show (match xcode y pc with | none => none | some q => _) = _
  rw [hq]
  dsimp only
  rw [hs]
theorem Rn_inv {h h1 : xH} {q : xQ} {y' : Nat} {as rest : List xV} {v : Option xV} (hq : xcode y pc = some q) (hs : xstep rom (d + 1) y pc q ls st h = some (.inr (.inr (y', as, rest)))) (hc : Rn rom d y' (0, xentry y' as, [], h) (v, h1)) (k : Rn rom (d + 1) y (pc + 3, ls, v.toList ++ rest, h1) out) : Rn rom (d + 1) y (pc, ls, st, h) out := by
  obtain ⟨f, hf⟩ := hc
  obtain ⟨g, hg⟩ := k
  refine ⟨max f g + 1, ?_⟩
  show (match xcode y pc with | none => none | some q => _) = _
  rw [hq]
  dsimp only
  rw [hs]
  dsimp only
  rw [xrun_le (Nat.le_max_left f g) hf]
  exact xrun_le (Nat.le_max_right f g) hg
/-- what only stack and locals see, many at once -/
def xms (rom : xRom) (cd : List (Option xQ)) (d y : Nat) : Nat → xF → Option xF
  | 0, σ => some σ
  | k + 1, (pc, ls, st, h) => match cd.getD pc none with
    | some q => match xstep rom d y pc q ls st h with
      | some (.inl σ) => xms rom cd d y k σ
      | _ => none
    | none => none
theorem xcode_cd (hc : xkall.getD y [] = cd) (pc : Nat) : xcode y pc = cd.getD pc none := by
  show (xkall.getD y []).getD pc none = _
  rw [hc]
theorem Rn_ms (hc : xkall.getD y [] = cd) : ∀ (k : Nat) {σ σ' : xF}, xms rom cd d y k σ = some σ' → Rn rom d y σ' out → Rn rom d y σ out
  | 0, σ, σ', h, r => by cases h; exact r
  | k + 1, (pc, ls, st, h0), σ', h, r => by
    unfold xms at h
    split at h
    · rename_i q hq
      split at h
      · rename_i σ1 hs
        exact Rn_next ((xcode_cd hc pc).trans hq) hs (Rn_ms hc k h r)
      · cases h
    · cases h
theorem Rn_getI {i len kd ci k wi r : Nat} (hc : xkall.getD y [] = cd) (hq : cd.getD pc none = some (.getfield i, len, kd, ci, k, wi)) (hT : Tg r = ci) (hci : ci ≠ 999) (hf : ¬ xfk ci k = 2) (kk : Rn rom d y (pc + 3, ls, vI (M r k) :: st, (G0, M)) out) : Rn rom d y (pc, ls, vR r :: st, (G0, M)) out := by
  refine Rn_next ((xcode_cd hc pc).trans hq) (σ := (pc + 3, ls, vI (M r k) :: st, (G0, M))) ?_ kk
  show (if xobj G0 r ci then nx (pc + 3) ls ((if xfk ci k = 2 then vR (gP G0 r k) else vI (M r k)) :: st) (G0, M) else none) = _
  rw [if_pos (xobj_of hT hci), if_neg hf]
theorem Rn_getR {i len kd ci k wi r r' : Nat} (hc : xkall.getD y [] = cd) (hq : cd.getD pc none = some (.getfield i, len, kd, ci, k, wi)) (hT : Tg r = ci) (hci : ci ≠ 999) (hf : xfk ci k = 2) (hp : Pr r k = r') (kk : Rn rom d y (pc + 3, ls, vR r' :: st, (G0, M)) out) : Rn rom d y (pc, ls, vR r :: st, (G0, M)) out := by
  subst hp
  refine Rn_next ((xcode_cd hc pc).trans hq) (σ := (pc + 3, ls, vR (Pr r k) :: st, (G0, M))) ?_ kk
  show (if xobj G0 r ci then nx (pc + 3) ls ((if xfk ci k = 2 then vR (gP G0 r k) else vI (M r k)) :: st) (G0, M) else none) = _
  rw [if_pos (xobj_of hT hci), if_pos hf]; rfl
theorem Rn_putI {i len kd ci k wi r : Nat} {z : Int} (hc : xkall.getD y [] = cd) (hq : cd.getD pc none = some (.putfield i, len, kd, ci, k, wi)) (hT : Tg r = ci) (hci : ci ≠ 999) (hf : xfk ci k = 0 ∨ (xfk ci k = 1 ∧ (wr z = 0 ∨ wr z = 1))) (kk : Rn rom d y (pc + 3, ls, st, (G0, xset M r k z)) out) : Rn rom d y (pc, ls, vI z :: vR r :: st, (G0, M)) out := by
  refine Rn_next ((xcode_cd hc pc).trans hq) (σ := (pc + 3, ls, st, (G0, xset M r k z))) ?_ kk
  show (if xobj G0 r ci ∧ (xfk ci k = 0 ∨ (xfk ci k = 1 ∧ (wr z = 0 ∨ wr z = 1))) then nx (pc + 3) ls st (G0, xset M r k z) else none) = _
  rw [if_pos ⟨xobj_of hT hci, hf⟩]
theorem Rn_iald {q : xQ} {r n jn : Nat} {j : Int} (hc : xkall.getD y [] = cd) (hq : cd.getD pc none = some q) (hi : q.1 = .iaload) (hT : Tg r = 100) (hZ : Zs r = n) (h0 : 0 ≤ wr j ∧ wr j < n) (hj : (wr j).toNat = jn) (kk : Rn rom d y (pc + 1, ls, vI (M r jn) :: st, (G0, M)) out) : Rn rom d y (pc, ls, vI j :: vR r :: st, (G0, M)) out := by
  obtain ⟨ins, len, kd, a, b, wi⟩ := q
  subst hi
  subst hj
  refine Rn_next ((xcode_cd hc pc).trans hq) (σ := (pc + 1, ls, vI (M r (wr j).toNat) :: st, (G0, M))) ?_ kk
  show (if xobj G0 r 100 ∧ 0 ≤ wr j ∧ wr j < gZ G0 r then nx (pc + 1) ls (vI (M r (wr j).toNat) :: st) (G0, M) else none) = _
  rw [if_pos ⟨xobj_of hT (by decide), h0.1, by rw [show gZ G0 r = n from hZ]; exact h0.2⟩]
theorem Rn_cald {q : xQ} {r n jn : Nat} {j : Int} (hc : xkall.getD y [] = cd) (hq : cd.getD pc none = some q) (hi : q.1 = .caload) (hT : Tg r = 102) (hZ : Zs r = n) (h0 : 0 ≤ wr j ∧ wr j < n) (hj : (wr j).toNat = jn) (kk : Rn rom d y (pc + 1, ls, vI (M r jn) :: st, (G0, M)) out) : Rn rom d y (pc, ls, vI j :: vR r :: st, (G0, M)) out := by
  obtain ⟨ins, len, kd, a, b, wi⟩ := q
  subst hi
  subst hj
  refine Rn_next ((xcode_cd hc pc).trans hq) (σ := (pc + 1, ls, vI (M r (wr j).toNat) :: st, (G0, M))) ?_ kk
  show (if xobj G0 r 102 ∧ 0 ≤ wr j ∧ wr j < gZ G0 r then nx (pc + 1) ls (vI (M r (wr j).toNat) :: st) (G0, M) else none) = _
  rw [if_pos ⟨xobj_of hT (by decide), h0.1, by rw [show gZ G0 r = n from hZ]; exact h0.2⟩]
theorem Rn_aald {q : xQ} {r n jn : Nat} {j : Int} (hc : xkall.getD y [] = cd) (hq : cd.getD pc none = some q) (hi : q.1 = .aaload) (hT : Tg r = 103 ∨ Tg r = 104) (hZ : Zs r = n) (h0 : 0 ≤ wr j ∧ wr j < n) (hj : (wr j).toNat = jn) (kk : Rn rom d y (pc + 1, ls, vR (Pr r jn) :: st, (G0, M)) out) : Rn rom d y (pc, ls, vI j :: vR r :: st, (G0, M)) out := by
  obtain ⟨ins, len, kd, a, b, wi⟩ := q
  subst hi
  subst hj
  refine Rn_next ((xcode_cd hc pc).trans hq) (σ := (pc + 1, ls, vR (Pr r (wr j).toNat) :: st, (G0, M))) ?_ kk
  show (if 1 ≤ r ∧ r ≤ gN G0 ∧ (gT G0 r = 103 ∨ gT G0 r = 104) ∧ 0 ≤ wr j ∧ wr j < gZ G0 r then nx (pc + 1) ls (vR (gP G0 r (wr j).toNat) :: st) (G0, M) else none) = _
  have hb : 1 ≤ r ∧ r ≤ gN G0 := by
    rcases hT with h | h
    · exact Tg_lt h (by decide)
    · exact Tg_lt h (by decide)
  rw [if_pos ⟨hb.1, hb.2, hT, h0.1, by rw [show gZ G0 r = n from hZ]; exact h0.2⟩]; rfl
theorem Rn_romld {q : xQ} {k jn : Nat} {j : Int} (hc : xkall.getD y [] = cd) (hq : cd.getD pc none = some q) (hi : q.1 = .iaload) (hk : k < 3) (h0 : 0 ≤ wr j ∧ wr j < (rom k).1) (hj : (wr j).toNat = jn) (kk : Rn rom d y (pc + 1, ls, vI ((rom k).2 jn) :: st, (G0, M)) out) : Rn rom d y (pc, ls, vI j :: vS k :: st, (G0, M)) out := by
  obtain ⟨ins, len, kd, a, b, wi⟩ := q
  subst hi
  subst hj
  refine Rn_next ((xcode_cd hc pc).trans hq) (σ := (pc + 1, ls, vI ((rom k).2 (wr j).toNat) :: st, (G0, M))) ?_ kk
  show (if k < 3 ∧ 0 ≤ wr j ∧ wr j < (rom k).1 then nx (pc + 1) ls (vI ((rom k).2 (wr j).toNat) :: st) (G0, M) else none) = _
  rw [if_pos ⟨hk, h0.1, h0.2⟩]
theorem Rn_iast {q : xQ} {r n jn : Nat} {j z : Int} (hc : xkall.getD y [] = cd) (hq : cd.getD pc none = some q) (hi : q.1 = .iastore) (hT : Tg r = 100) (hZ : Zs r = n) (h0 : 0 ≤ wr j ∧ wr j < n) (hj : (wr j).toNat = jn) (kk : Rn rom d y (pc + 1, ls, st, (G0, xset M r jn z)) out) : Rn rom d y (pc, ls, vI z :: vI j :: vR r :: st, (G0, M)) out := by
  obtain ⟨ins, len, kd, a, b, wi⟩ := q
  subst hi
  subst hj
  refine Rn_next ((xcode_cd hc pc).trans hq) (σ := (pc + 1, ls, st, (G0, xset M r (wr j).toNat z))) ?_ kk
  show (if xobj G0 r 100 ∧ 0 ≤ wr j ∧ wr j < gZ G0 r then nx (pc + 1) ls st (G0, xset M r (wr j).toNat z) else none) = _
  rw [if_pos ⟨xobj_of hT (by decide), h0.1, by rw [show gZ G0 r = n from hZ]; exact h0.2⟩]
theorem Rn_cast {q : xQ} {r n jn : Nat} {j z : Int} (hc : xkall.getD y [] = cd) (hq : cd.getD pc none = some q) (hi : q.1 = .castore) (hT : Tg r = 102) (hZ : Zs r = n) (h0 : 0 ≤ wr j ∧ wr j < n) (hz : 0 ≤ wr z ∧ wr z < 65536) (hj : (wr j).toNat = jn) (kk : Rn rom d y (pc + 1, ls, st, (G0, xset M r jn z)) out) : Rn rom d y (pc, ls, vI z :: vI j :: vR r :: st, (G0, M)) out := by
  obtain ⟨ins, len, kd, a, b, wi⟩ := q
  subst hi
  subst hj
  refine Rn_next ((xcode_cd hc pc).trans hq) (σ := (pc + 1, ls, st, (G0, xset M r (wr j).toNat z))) ?_ kk
  show (if xobj G0 r 102 ∧ 0 ≤ wr j ∧ wr j < gZ G0 r ∧ 0 ≤ wr z ∧ wr z < 65536 then nx (pc + 1) ls st (G0, xset M r (wr j).toNat z) else none) = _
  rw [if_pos ⟨xobj_of hT (by decide), h0.1, by rw [show gZ G0 r = n from hZ]; exact h0.2, hz.1, hz.2⟩]
theorem Rn_alen {q : xQ} {r t n : Nat} (hc : xkall.getD y [] = cd) (hq : cd.getD pc none = some q) (hi : q.1 = .arraylength) (hT : Tg r = t) (ht : 100 ≤ t ∧ t < 105) (hZ : Zs r = n) (kk : Rn rom d y (pc + 1, ls, vI (n : Nat) :: st, (G0, M)) out) : Rn rom d y (pc, ls, vR r :: st, (G0, M)) out := by
  obtain ⟨ins, len, kd, a, b, wi⟩ := q
  subst hi
  refine Rn_next ((xcode_cd hc pc).trans hq) (σ := (pc + 1, ls, vI (n : Nat) :: st, (G0, M))) ?_ kk
  show (if 1 ≤ r ∧ r ≤ gN G0 ∧ 100 ≤ gT G0 r ∧ gT G0 r < 105 then nx (pc + 1) ls (vI (gZ G0 r) :: st) (G0, M) else none) = _
  have hT' : gT G0 r = t := hT
  have hb := Tg_lt hT (by omega)
  rw [if_pos ⟨hb.1, hb.2, by omega, by omega⟩, show gZ G0 r = n from hZ]
theorem Rn_romlen {q : xQ} {k : Nat} (hc : xkall.getD y [] = cd) (hq : cd.getD pc none = some q) (hi : q.1 = .arraylength) (hk : k < 3) (kk : Rn rom d y (pc + 1, ls, vI (rom k).1 :: st, (G0, M)) out) : Rn rom d y (pc, ls, vS k :: st, (G0, M)) out := by
  obtain ⟨ins, len, kd, a, b, wi⟩ := q
  subst hi
  refine Rn_next ((xcode_cd hc pc).trans hq) (σ := (pc + 1, ls, vI (rom k).1 :: st, (G0, M))) ?_ kk
  show (if k < 3 then nx (pc + 1) ls (vI (rom k).1 :: st) (G0, M) else none) = _
  rw [if_pos hk]
theorem Rn_icT {q : xQ} {cn : ClassFile.Cond} {off x z : Int} {tgt : Nat} {h : xH} (hc : xkall.getD y [] = cd) (hq : cd.getD pc none = some q) (hi : q.1 = .if_icmp cn off) (ho : (pc : Int) + off = (tgt : Nat)) (hx : xcmp cn (wr x) (wr z)) (kk : Rn rom d y (tgt, ls, st, h) out) : Rn rom d y (pc, ls, vI z :: vI x :: st, h) out := by
  obtain ⟨ins, len, kd, a, b, wi⟩ := q
  subst hi
  refine Rn_next ((xcode_cd hc pc).trans hq) (σ := (tgt, ls, st, h)) ?_ kk
  show (if 0 ≤ (pc : Int) + off then @ite _ (xcmp cn (wr x) (wr z)) (xcmpD _ _ _) (nx (xtgt pc off) ls st h) (nx (pc + 3) ls st h) else none) = _
  rw [if_pos (by omega), if_pos hx]
  unfold xtgt; rw [ho]; rfl
theorem Rn_icF {q : xQ} {cn : ClassFile.Cond} {off x z : Int} {h : xH} (hc : xkall.getD y [] = cd) (hq : cd.getD pc none = some q) (hi : q.1 = .if_icmp cn off) (ho : 0 ≤ (pc : Int) + off) (hx : ¬ xcmp cn (wr x) (wr z)) (kk : Rn rom d y (pc + 3, ls, st, h) out) : Rn rom d y (pc, ls, vI z :: vI x :: st, h) out := by
  obtain ⟨ins, len, kd, a, b, wi⟩ := q
  subst hi
  refine Rn_next ((xcode_cd hc pc).trans hq) (σ := (pc + 3, ls, st, h)) ?_ kk
  show (if 0 ≤ (pc : Int) + off then @ite _ (xcmp cn (wr x) (wr z)) (xcmpD _ _ _) (nx (xtgt pc off) ls st h) (nx (pc + 3) ls st h) else none) = _
  rw [if_pos ho, if_neg hx]
theorem Rn_ifT {q : xQ} {cn : ClassFile.Cond} {off x : Int} {tgt : Nat} {h : xH} (hc : xkall.getD y [] = cd) (hq : cd.getD pc none = some q) (hi : q.1 = .ifCond cn off) (ho : (pc : Int) + off = (tgt : Nat)) (hx : xcmp cn (wr x) 0) (kk : Rn rom d y (tgt, ls, st, h) out) : Rn rom d y (pc, ls, vI x :: st, h) out := by
  obtain ⟨ins, len, kd, a, b, wi⟩ := q
  subst hi
  refine Rn_next ((xcode_cd hc pc).trans hq) (σ := (tgt, ls, st, h)) ?_ kk
  show (if 0 ≤ (pc : Int) + off then @ite _ (xcmp cn (wr x) 0) (xcmpD _ _ _) (nx (xtgt pc off) ls st h) (nx (pc + 3) ls st h) else none) = _
  rw [if_pos (by omega), if_pos hx]
  unfold xtgt; rw [ho]; rfl
theorem Rn_ifF {q : xQ} {cn : ClassFile.Cond} {off x : Int} {h : xH} (hc : xkall.getD y [] = cd) (hq : cd.getD pc none = some q) (hi : q.1 = .ifCond cn off) (ho : 0 ≤ (pc : Int) + off) (hx : ¬ xcmp cn (wr x) 0) (kk : Rn rom d y (pc + 3, ls, st, h) out) : Rn rom d y (pc, ls, vI x :: st, h) out := by
  obtain ⟨ins, len, kd, a, b, wi⟩ := q
  subst hi
  refine Rn_next ((xcode_cd hc pc).trans hq) (σ := (pc + 3, ls, st, h)) ?_ kk
  show (if 0 ≤ (pc : Int) + off then @ite _ (xcmp cn (wr x) 0) (xcmpD _ _ _) (nx (xtgt pc off) ls st h) (nx (pc + 3) ls st h) else none) = _
  rw [if_pos ho, if_neg hx]
theorem Rn_nuT {q : xQ} {off : Int} {k tgt : Nat} {h : xH} (hc : xkall.getD y [] = cd) (hq : cd.getD pc none = some q) (hi : q.1 = .ifnull off) (ho : (pc : Int) + off = (tgt : Nat)) (hx : k = 0) (kk : Rn rom d y (tgt, ls, st, h) out) : Rn rom d y (pc, ls, vR k :: st, h) out := by
  obtain ⟨ins, len, kd, a, b, wi⟩ := q
  subst hi
  refine Rn_next ((xcode_cd hc pc).trans hq) (σ := (tgt, ls, st, h)) ?_ kk
  show (if 0 ≤ (pc : Int) + off then (if k = 0 then nx (xtgt pc off) ls st h else nx (pc + 3) ls st h) else none) = _
  rw [if_pos (by omega), if_pos hx]
  unfold xtgt; rw [ho]; rfl
theorem Rn_nuF {q : xQ} {off : Int} {k : Nat} {h : xH} (hc : xkall.getD y [] = cd) (hq : cd.getD pc none = some q) (hi : q.1 = .ifnull off) (ho : 0 ≤ (pc : Int) + off) (hx : ¬ k = 0) (kk : Rn rom d y (pc + 3, ls, st, h) out) : Rn rom d y (pc, ls, vR k :: st, h) out := by
  obtain ⟨ins, len, kd, a, b, wi⟩ := q
  subst hi
  refine Rn_next ((xcode_cd hc pc).trans hq) (σ := (pc + 3, ls, st, h)) ?_ kk
  show (if 0 ≤ (pc : Int) + off then (if k = 0 then nx (xtgt pc off) ls st h else nx (pc + 3) ls st h) else none) = _
  rw [if_pos ho, if_neg hx]
theorem Rn_nnT {q : xQ} {off : Int} {k tgt : Nat} {h : xH} (hc : xkall.getD y [] = cd) (hq : cd.getD pc none = some q) (hi : q.1 = .ifnonnull off) (ho : (pc : Int) + off = (tgt : Nat)) (hx : ¬ k = 0) (kk : Rn rom d y (tgt, ls, st, h) out) : Rn rom d y (pc, ls, vR k :: st, h) out := by
  obtain ⟨ins, len, kd, a, b, wi⟩ := q
  subst hi
  refine Rn_next ((xcode_cd hc pc).trans hq) (σ := (tgt, ls, st, h)) ?_ kk
  show (if 0 ≤ (pc : Int) + off then (if k = 0 then nx (pc + 3) ls st h else nx (xtgt pc off) ls st h) else none) = _
  rw [if_pos (by omega), if_neg hx]
  unfold xtgt; rw [ho]; rfl
theorem Rn_nnF {q : xQ} {off : Int} {k : Nat} {h : xH} (hc : xkall.getD y [] = cd) (hq : cd.getD pc none = some q) (hi : q.1 = .ifnonnull off) (ho : 0 ≤ (pc : Int) + off) (hx : k = 0) (kk : Rn rom d y (pc + 3, ls, st, h) out) : Rn rom d y (pc, ls, vR k :: st, h) out := by
  obtain ⟨ins, len, kd, a, b, wi⟩ := q
  subst hi
  refine Rn_next ((xcode_cd hc pc).trans hq) (σ := (pc + 3, ls, st, h)) ?_ kk
  show (if 0 ≤ (pc : Int) + off then (if k = 0 then nx (pc + 3) ls st h else nx (xtgt pc off) ls st h) else none) = _
  rw [if_pos ho, if_pos hx]
/-- a tableswitch at a number that is known, or out of range -/
theorem Rn_tsw {q : xQ} {df lo hj x off : Int} {offs : Array Int} {tgt : Nat} {h : xH} (hc : xkall.getD y [] = cd) (hq : cd.getD pc none = some q) (hi : q.1 = .tableswitch df lo hj offs) (hx : xsw pc df lo hj offs (wr x) = off ∧ ((wr x - lo).toNat < offs.size ∨ wr x < lo ∨ hj < wr x)) (ho : (pc : Int) + off = (tgt : Nat)) (kk : Rn rom d y (tgt, ls, st, h) out) : Rn rom d y (pc, ls, vI x :: st, h) out := by
  obtain ⟨ins, len, kd, a, b, wi⟩ := q
  subst hi
  refine Rn_next ((xcode_cd hc pc).trans hq) (σ := (tgt, ls, st, h)) ?_ kk
  show (if 0 ≤ (pc : Int) + xsw pc df lo hj offs (wr x) ∧ ((wr x - lo).toNat < offs.size ∨ wr x < lo ∨ hj < wr x) then nx (xtgt pc (xsw pc df lo hj offs (wr x))) ls st h else none) = _
  rw [hx.1, if_pos ⟨by omega, hx.2⟩]
  unfold xtgt; rw [ho]; rfl
theorem xsw_at {pc : Nat} {df lo hi z k off : Int} {offs : Array Int} (hz : z = k) (h1 : ¬ k < lo) (h2 : ¬ hi < k) (h3 : (k - lo).toNat < offs.size) (h4 : offs.toList.getD (k - lo).toNat df = off) : xsw pc df lo hi offs z = off ∧ ((z - lo).toNat < offs.size ∨ z < lo ∨ hi < z) := by
  subst hz
  unfold xsw
  rw [if_neg h1, if_neg h2]
  exact ⟨h4, Or.inl h3⟩
theorem xsw_df {pc : Nat} {df lo hi z : Int} {offs : Array Int} (h : z < lo ∨ hi < z) : xsw pc df lo hi offs z = df ∧ ((z - lo).toNat < offs.size ∨ z < lo ∨ hi < z) := by
  refine ⟨?_, Or.inr h⟩
  unfold xsw
  rcases h with h | h
  · rw [if_pos h]
  · by_cases h1 : z < lo
    · rw [if_pos h1]
    · rw [if_neg h1, if_pos h]
theorem Rn_lsw {q : xQ} {df x off : Int} {ps : Array (Int × Int)} {tgt : Nat} {h : xH} (hc : xkall.getD y [] = cd) (hq : cd.getD pc none = some q) (hi : q.1 = .lookupswitch df ps) (hp : (ps.toList.zip (ps.toList.drop 1)).all (fun (a, next) => a.1 < next.1) = true) (hx : Op.lookupswitch.offset ps.toList df (wr x) = off) (ho : (pc : Int) + off = (tgt : Nat)) (kk : Rn rom d y (tgt, ls, st, h) out) : Rn rom d y (pc, ls, vI x :: st, h) out := by
  obtain ⟨ins, len, kd, a, b, wi⟩ := q
  subst hi
  refine Rn_next ((xcode_cd hc pc).trans hq) (σ := (tgt, ls, st, h)) ?_ kk
  show (if 0 ≤ (pc : Int) + Op.lookupswitch.offset ps.toList df (wr x) ∧ (ps.toList.zip (ps.toList.drop 1)).all (fun (a, next) => a.1 < next.1) = true then nx (xtgt pc (Op.lookupswitch.offset ps.toList df (wr x))) ls st h else none) = _
  rw [hx, if_pos ⟨by omega, hp⟩]
  unfold xtgt; rw [ho]; rfl
end RN
