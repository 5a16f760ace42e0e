/-! MEANING, 6: what the pedal does, said of states -/
def both (x y : Int) : Int := if 99 ≤ x + y then 99 else x + y
def aStarts (A : xM) : xM := xset (xset (xset (xset A 0 0 2) 0 1 0) 0 9 0) 0 10 0
def aClr (A : xM) : xM := rowU (xset A 0 11 0) 7 1728 (fun _ => 0)
def aBegin (A : xM) : xM := rowU (xset (xset (xset A 0 0 (if A 0 0 = 0 then 1 else 3)) 0 12 (A 0 1)) 0 11 0) 7 1728 (fun _ => 0)
def layF (A : xM) (on : Nat) (x : Nat) : Int := both (A 7 x) (if on = 0 then 0 else A 7 (x + 36 * on))
def aLays (A : xM) (cells on : Nat) : xM :=
  xset (xset (xset (xset (xset (xset (rowU (rowU A ((A 0 7).toNat + 1) 1728 (fun _ => 0)) ((A 0 7).toNat + 1) (36 * cells) (layF A on)) 0 (14 + (A 0 7).toNat) cells) 0 (20 + (A 0 7).toNat) 0) 0 (26 + (A 0 7).toNat) 0) 0 7 (A 0 7 + 1)) 0 8 0) 0 13 (A 0 13 + 1)
/-- the rounding: by the class's loop -/
def rnd (bar slack cells : Int) : Int := (f_68_L20 (fun _ _ => 0) 0 cells bar (cells, slack + 1, 1)).getD 0
def rndOk (b s c : Nat) : Bool := match f_68_L20 (fun _ _ => 0) 0 c b ((c : Int), (s : Int) + 1, 1) with
  | some x => decide (1 ≤ x) && decide (x ≤ 24)
  | _ => false
theorem rnd_all : ∀ b, b < 17 → ∀ s, s < 9 → ∀ c, c < 25 → 2 ≤ b → 1 ≤ c → rndOk b s c = true := by decide +kernel
theorem rnd_ok {bar slack cells : Int} (hb : 2 ≤ bar ∧ bar ≤ 16) (hs : 0 ≤ slack ∧ slack ≤ 8) (hc : 1 ≤ cells ∧ cells ≤ 24) : f_68_L20 (fun _ _ => 0) 0 cells bar (cells, slack + 1, 1) = some (rnd bar slack cells) ∧ True ∧ 1 ≤ rnd bar slack cells ∧ rnd bar slack cells ≤ 24 := by
  have h := rnd_all bar.toNat (by omega) slack.toNat (by omega) cells.toNat (by omega) (by omega) (by omega)
  unfold rndOk at h
  rw [show ((bar.toNat : Nat) : Int) = bar by omega, show ((slack.toNat : Nat) : Int) = slack by omega, show ((cells.toNat : Nat) : Int) = cells by omega] at h
  unfold rnd
  cases e1 : f_68_L20 (fun _ _ => 0) 0 cells bar (cells, slack + 1, 1) with
  | none => rw [e1] at h; cases h
  | some x =>
    rw [e1] at h
    simp only [Bool.and_eq_true, decide_eq_true_eq] at h
    exact ⟨rfl, trivial, h.1, h.2⟩
def fstCells (A : xM) : Int := if 24 ≤ (A 0 11 + 1) / 2 then 24 else (A 0 11 + 1) / 2
def fstLen (A : xM) : Int := rnd (A 0 3) (A 0 4) (fstCells A)
def aEndFirst (A : xM) : xM := aStarts (aClr (xset (aLays A (fstLen A).toNat 0) 0 6 (fstLen A)))
def aEndOver (A : xM) : xM := xset (aClr (if aLen A (A 0 7).toNat = 2 * A 0 6 ∨ 2 * A 0 6 < A 0 11 then xset (aLays A (2 * (A 0 6).toNat) 0) 0 1 ((A 0 12 + A 0 11) % (4 * A 0 6)) else aLays A (A 0 6).toNat (A 0 6).toNat)) 0 0 2
def aPress (A : xM) : xM := if A 0 0 = 1 then aEndFirst A else if A 0 0 = 3 then aEndOver A else if A 0 0 = 4 then aStarts A else aBegin A
def whyPress (A : xM) : Int := if tkr A ∧ A 0 11 = 0 then -2 else if A 0 0 = 2 ∧ A 0 7 = 6 then -3 else 0
def aStop (A : xM) : xM := aClr (xset A 0 0 (if A 0 0 = 1 then 0 else 4))
def whyStop (A : xM) : Int := if A 0 0 = 0 ∨ A 0 0 = 4 then -2 else 0
def aFadeL (A : xM) (l : Nat) : xM := rowU (xset A 0 (26 + l) (A 0 (26 + l) + 1)) (l + 1) (36 * (A 0 (14 + l)).toNat) (fun x => A (l + 1) x * (100 - A 0 5) / 100)
def aFadeN : Nat → xM → xM
  | 0, A => A
  | n + 1, A => aFadeL (aFadeN n A) n
def aFade (A : xM) : xM := aFadeN (A 0 7).toNat A
def aBy (A : xM) : Int := 2 - A 0 2
def aMove (A : xM) : xM := xset (xset A 0 1 (A 0 1 + aBy A)) 0 10 (A 0 10 + aBy A)
def aTurn (A : xM) : xM := aFade (xset (xset A 0 1 (A 0 1 - 2 * aLen A (A 0 7).toNat)) 0 9 (A 0 9 + 1))
/-- the loop moves: how many passes end, the state -/
def aLoop (A : xM) : Int × xM := if 2 * aLen (aMove A) ((aMove A) 0 7).toNat ≤ (aMove A) 0 1 then (1, aTurn (aMove A)) else (0, aMove A)
def aTakeOn (A : xM) : xM := xset A 0 11 (A 0 11 + aBy A)
def aOver (A : xM) : xM := if 4 * A 0 6 ≤ A 0 11 then aEndOver A else A
def aTick (A : xM) : Int × xM :=
  if A 0 0 = 0 ∨ A 0 0 = 4 then (0, A)
  else if A 0 0 = 1 then (0, if 48 ≤ (aTakeOn A) 0 11 then aEndFirst (aTakeOn A) else aTakeOn A)
  else if A 0 0 = 2 then aLoop A
  else ((aLoop (aTakeOn A)).1, aOver (aLoop (aTakeOn A)).2)
def aPass : Nat → xM → Int × xM
  | 0, A => (0, A)
  | n + 1, A => ((aPass n A).1 + (aTick (aPass n A).2).1, (aTick (aPass n A).2).2)
def hitCell (A : xM) : Int := if A 0 0 = 1 then A 0 11 / 2 else (A 0 12 + A 0 11) / 2 % (2 * A 0 6)
def hitAt (A : xM) (key : Int) : Nat := 36 * (hitCell A).toNat + (key + 12 * A 0 2).toNat
def aHitV (A : xM) (key force : Int) : Int := both (A 7 (hitAt A key)) force
def aHit (A : xM) (key force : Int) : xM := xset A 7 (hitAt A key) (aHitV A key force)
def whyHit (A : xM) (key force : Int) : Int := if 0 ≤ key ∧ key ≤ 23 ∧ 1 ≤ force ∧ force ≤ 99 then (if tkr A then 0 else -2) else -1
def aPeel (A : xM) : xM :=
  if aLen A ((A 0 7).toNat - 1) < aLen A (A 0 7).toNat then xset (xset (xset A 0 7 (A 0 7 - 1)) 0 8 (A 0 8 + 1)) 0 1 (A 0 1 % (2 * aLen A ((A 0 7).toNat - 1))) else xset (xset A 0 7 (A 0 7 - 1)) 0 8 (A 0 8 + 1)
def whyPeel (A : xM) : Int := if tkr A ∨ A 0 7 < 2 then -2 else 0
def aBack (A : xM) : xM := xset (xset A 0 7 (A 0 7 + 1)) 0 8 (A 0 8 - 1)
def whyBack (A : xM) : Int := if tkr A ∨ A 0 8 = 0 then -2 else 0
def aMute (A : xM) (l : Nat) : xM := xset A 0 (20 + l) (1 - A 0 (20 + l))
def aSpeed (A : xM) : xM := xset A 0 2 (1 - A 0 2)
def aSet (A : xM) (w : Nat) (v : Int) : xM := xset A 0 (3 + w) v
def aEmpty (A : xM) : xM := xset (xset (xset (xset (aClr (aStarts A)) 0 0 0) 0 7 0) 0 8 0) 0 6 0
