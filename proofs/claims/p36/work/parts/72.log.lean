/-! THE CONSTRUCTORS, 1: a log of the heap's changes -/
section LG
variable {rom : xRom}
abbrev lOp : Type := Nat × Nat × Nat × Int
/-- the empty heap -/
def hE : xH := ((0, 0, fun _ => 999, fun _ => 0, fun _ _ => 0), fun _ _ => 0)
def hop (o : lOp) (h : xH) : xH :=
  if o.1 = 0 then hnew h o.2.1 o.2.2.1 else if o.1 = 1 then (h.1, xset h.2 o.2.1 o.2.2.1 o.2.2.2) else ((gN h.1, gW h.1, gT h.1, gZ h.1, xset (gP h.1) o.2.1 o.2.2.1 o.2.2.2.toNat), h.2)
def hl : List lOp → xH
  | [] => hE
  | o :: l => hop o (hl l)
def lop (q : xQ) (st : List xV) : Option lOp := match q.1, st with
  | .putfield _, .inl z :: .inr (.inr (.inl r)) :: _ => some (1, r, q.2.2.2.2.1, z)
  | .putfield _, .inr (.inr (.inl k)) :: .inr (.inr (.inl r)) :: _ => some (2, r, q.2.2.2.2.1, (k : Int))
  | .iastore, .inl z :: .inl j :: .inr (.inr (.inl r)) :: _ => some (1, r, (wr j).toNat, z)
  | .castore, .inl z :: .inl j :: .inr (.inr (.inl r)) :: _ => some (1, r, (wr j).toNat, z)
  | .aastore, .inr (.inr (.inl k)) :: .inl j :: .inr (.inr (.inl r)) :: _ => some (2, r, (wr j).toNat, (k : Int))
  | .new _, _ => some (0, q.2.2.2.1, xnf q.2.2.2.1, 0)
  | .newarray _, .inl z :: _ => some (0, q.2.2.2.1, (wr z).toNat, 0)
  | .anewarray _, .inl z :: _ => some (0, q.2.2.2.1, (wr z).toNat, 0)
  | _, _ => none
def lup (q : xQ) (st : List xV) (l : List lOp) : List lOp := match lop q st with
  | some o => o :: l
  | none => l
theorem xheap_log {y pc : Nat} {q : xQ} {ls : xLs} {st : List xV} {l : List lOp} {r : xR} (e : xheap rom y pc q ls st (hl l) = some r) : ∃ pc' ls' st', r = .inl (pc', ls', st', hl (lup q st l)) := by
  unfold xheap at e
  unfold lup lop
  split at e <;> (try split at e) <;> (try split at e) <;> simp_all [nx, hl, hop] <;> (subst e; exact ⟨_, _, _, rfl⟩)
end LG
