/-! MEANING, 24: pad, halt, history, snapshot -/
section HI
variable {M A : xM} {T : Int} {P : Nat → xM} {n o : Nat} {S : xM} {sv : Int} {pd : Nat → Int} {len : Nat} {st : Nat → Int} {stp : Int}
def pushC (pd : Nat → Int) (len : Nat) (c : Int) : Nat → Int := fun j => if j = len then c else pd j
end HI
