/-! functions for methods: their words, and the rules by which a method's run follows its function -/
def NF : Nat := 1000000
def loop {σ ρ : Type} : Nat → (σ → Option (σ ⊕ ρ)) → σ → Option ρ
  | 0, _, _ => none
  | k + 1, b, s => (b s).bind (fun r => match r with | .inl s' => loop k b s' | .inr o => some o)
theorem R_loop {σ ρ : Type} {b : σ → Option (σ ⊕ ρ)} {G : σ → Prop} {K : ρ → Prop} (hb : ∀ s r, b s = some r → Sum.elim G K r → G s) : ∀ (k : Nat) (s : σ) (o : ρ), loop k b s = some o → K o → G s
  | 0, _, _, h, _ => by cases h
  | k + 1, s, o, h, hK => by
    obtain ⟨r, h1, h2⟩ := bind_some h
    cases r with
    | inl s' => exact hb s _ h1 (R_loop hb k s' o h2 hK)
    | inr o' => cases h2; exact hb s _ h1 hK
def bnd {α β : Type} (x : α) (f : α → β) : β := f x
theorem R_bnd {α β : Type} {x : α} {f : α → β} {o : β} {G : Prop} (e : bnd x f = o) (h : ∀ v, v = x → f v = o → G) : G := h x rfl e
theorem R_ite {α : Type} {c : Prop} [Decidable c] {A B o : α} {G : Prop} (e : (if c then A else B) = o) (h1 : c → A = o → G) (h2 : ¬ c → B = o → G) : G := by
  by_cases hc : c
  · rw [if_pos hc] at e; exact h1 hc e
  · rw [if_neg hc] at e; exact h2 hc e
theorem R_gd {α : Type} {c : Prop} [Decidable c] {k : Option α} {o : α} {G : Prop} (e : gd c k = some o) (h : c → k = some o → G) : G := h (gd_some e).1 (gd_some e).2
theorem R_gn {α : Type} {x : UInt64} {k : Option α} {o : α} {G : Prop} (e : gn x k = some o) (h : nnan x → k = some o → G) : G := h (gn_some e).1 (gn_some e).2
theorem R_bind {α β : Type} {x : Option α} {f : α → Option β} {o : β} {G : Prop} (e : x.bind f = some o) (h : ∀ v, x = some v → f v = some o → G) : G := by
  obtain ⟨v, h1, h2⟩ := bind_some e
  exact h v h1 h2
theorem R_end {rom : xRom} {d y : Nat} {σ : xF} {a out : Option xV × xH} (k : Rn rom d y σ a) (h : a = out) : Rn rom d y σ out := h ▸ k
def eI (M : xM) (out : Option xV × xH) (o : Int) : Prop := (some (vI o), (G0, M)) = out
def eR (M : xM) (out : Option xV × xH) (o : Nat) : Prop := (some (vR o), (G0, M)) = out
def eD (M : xM) (out : Option xV × xH) (o : UInt64) : Prop := (some (vD o), (G0, M)) = out
def eIW (out : Option xV × xH) (o : Int × xM) : Prop := (some (vI o.1), (G0, o.2)) = out
def eRW (out : Option xV × xH) (o : Nat × xM) : Prop := (some (vR o.1), (G0, o.2)) = out
def eDW (out : Option xV × xH) (o : UInt64 × xM) : Prop := (some (vD o.1), (G0, o.2)) = out
def eVW (out : Option xV × xH) (o : xM) : Prop := (none, (G0, o)) = out
def xand (x y : Int) : Int := (Int32.ofInt x &&& Int32.ofInt y).toInt
def xland (x y : Int) : Int := (Int64.ofInt x &&& Int64.ofInt y).toInt
def xlor (x y : Int) : Int := (Int64.ofInt x ||| Int64.ofInt y).toInt
def xlxor (x y : Int) : Int := (Int64.ofInt x ^^^ Int64.ofInt y).toInt
def xlshl (x y : Int) : Int := (Int64.ofInt x <<< ((Int32.ofInt y).toInt64 &&& 63)).toInt
def xlshr (x y : Int) : Int := (Int64.ofInt x >>> ((Int32.ofInt y).toInt64 &&& 63)).toInt
def xishr (x y : Int) : Int := (Int32.ofInt x >>> (Int32.ofInt y &&& 31)).toInt
def xdc (x y : UInt64) : Int := (Op.cmpValue (FP.dcmp x y) .l).toInt
def xi2c (x : Int) : Int := wr x % 65536
def xi2d (x : Int) : UInt64 := FP.i2d (Int32.ofInt x)
theorem wr0 : wr 0 = 0 := by decide +kernel
section RN3
variable {rom : xRom} {d y pc : Nat} {ls : xLs} {st : List xV} {M : xM} {out : Option xV × xH} {cd : List (Option xQ)}
theorem Rn_putI' {M' : xM} {i len kd ci k wi r : Nat} {z : Int} (hM : M' = xset M r k z) (hc : xkall.getD y [] = cd) (hq : cd.getD pc none = some (.putfield i, len, kd, ci, k, wi)) (hT : Tg r = ci) (hci : ci ≠ 999) (hf : xfk ci k = 0 ∨ (xfk ci k = 1 ∧ (wr z = 0 ∨ wr z = 1))) (kk : Rn rom d y (pc + 3, ls, st, (G0, M')) out) : Rn rom d y (pc, ls, vI z :: vR r :: st, (G0, M)) out := by
  subst hM; exact Rn_putI hc hq hT hci hf kk
theorem Rn_iast' {M' : xM} {q : xQ} {r n jn : Nat} {j z : Int} (hM : M' = xset M r jn z) (hc : xkall.getD y [] = cd) (hq : cd.getD pc none = some q) (hi : q.1 = .iastore) (hT : Tg r = 100) (hZ : Zs r = n) (h0 : 0 ≤ wr j ∧ wr j < n) (hj : (wr j).toNat = jn) (kk : Rn rom d y (pc + 1, ls, st, (G0, M')) out) : Rn rom d y (pc, ls, vI z :: vI j :: vR r :: st, (G0, M)) out := by
  subst hM; exact Rn_iast hc hq hi hT hZ h0 hj kk
theorem Rn_cast' {M' : xM} {q : xQ} {r n jn : Nat} {j z : Int} (hM : M' = xset M r jn z) (hc : xkall.getD y [] = cd) (hq : cd.getD pc none = some q) (hi : q.1 = .castore) (hT : Tg r = 102) (hZ : Zs r = n) (h0 : 0 ≤ wr j ∧ wr j < n) (hz : 0 ≤ wr z ∧ wr z < 65536) (hj : (wr j).toNat = jn) (kk : Rn rom d y (pc + 1, ls, st, (G0, M')) out) : Rn rom d y (pc, ls, vI z :: vI j :: vR r :: st, (G0, M)) out := by
  subst hM; exact Rn_cast hc hq hi hT hZ h0 hz hj kk
theorem Rn_aald' {q : xQ} {r r' n jn : Nat} {j : Int} (hp : Pr r jn = r') (hc : xkall.getD y [] = cd) (hq : cd.getD pc none = some q) (hi : q.1 = .aaload) (hT : Tg r = 103 ∨ Tg r = 104) (hZ : Zs r = n) (h0 : 0 ≤ wr j ∧ wr j < n) (hj : (wr j).toNat = jn) (kk : Rn rom d y (pc + 1, ls, vR r' :: st, (G0, M)) out) : Rn rom d y (pc, ls, vI j :: vR r :: st, (G0, M)) out := by
  subst hp; exact Rn_aald hc hq hi hT hZ h0 hj kk
theorem Rn_gets {i len kd k b wi : Nat} {h : xH} (hc : xkall.getD y [] = cd) (hq : cd.getD pc none = some (.getstatic i, len, kd, k, b, wi)) (kk : Rn rom d y (pc + 3, ls, vS k :: st, h) out) : Rn rom d y (pc, ls, st, h) out := by
  refine Rn_next ((xcode_cd hc pc).trans hq) (σ := (pc + 3, ls, vS k :: st, h)) rfl kk
theorem Rn_copy' {M' : xM} {ins : ClassFile.Instr} {len a b wi ra r0 za z0 : Nat} {n : Int} (hM : M' = xrow M ra (xcpy (M r0) (M ra) 0 0 (wr n).toNat)) (hc : xkall.getD y [] = cd) (hq : cd.getD pc none = some (ins, len, 10, a, b, wi)) (h6 : xcls ins = 6) (hT : Tg ra = 100) (hT0 : Tg r0 = 100) (hZ : Zs ra = za) (hZ0 : Zs r0 = z0)
    (hg : 0 ≤ wr n ∧ wr n ≤ z0 ∧ wr n ≤ za) (hs : (st.map xcat).sum ≤ 8) (kk : Rn rom (d + 1) y (pc + 3, ls, st, (G0, M')) out) : Rn rom (d + 1) y (pc, ls, vI n :: vI 0 :: vR ra :: vI 0 :: vR r0 :: st, (G0, M)) out := by
  subst hM
  refine Rn_copy hc hq h6 hT hT0 hZ hZ0 (by rw [wr0]; omega) hs ?_
  rw [wr0]; exact kk
end RN3
