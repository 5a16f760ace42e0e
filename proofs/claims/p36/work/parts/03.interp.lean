/-! AN INTERPRETER OF THE METHODS' TABLES over numbers: ints and longs are Int (taken modulo 2^32, 2^64 where it matters), references are numbers of objects (0: null) -/
abbrev xV : Type := Int ⊕ Int ⊕ Nat ⊕ Nat ⊕ UInt64
abbrev vI (z : Int) : xV := .inl z
abbrev vL (z : Int) : xV := .inr (.inl z)
abbrev vR (r : Nat) : xV := .inr (.inr (.inl r))
abbrev vS (k : Nat) : xV := .inr (.inr (.inr (.inl k)))
abbrev vD (d : UInt64) : xV := .inr (.inr (.inr (.inr d)))
def wr (z : Int) : Int := (Int32.ofInt z).toInt
def wl (z : Int) : Int := (Int64.ofInt z).toInt
def xcat : xV → Nat
  | .inl _ => 1
  | .inr (.inl _) => 2
  | .inr (.inr (.inl _)) => 1
  | .inr (.inr (.inr (.inl _))) => 1
  | .inr (.inr (.inr (.inr _))) => 2
/-- how many objects, how many slots they have, their kinds, sizes, references -/
abbrev xG : Type := Nat × Nat × (Nat → Nat) × (Nat → Nat) × (Nat → Nat → Nat)
abbrev xM : Type := Nat → Nat → Int
abbrev xH : Type := xG × xM
abbrev xLs : Type := List (Option xV)
abbrev xF : Type := Nat × xLs × List xV × xH
abbrev xR : Type := xF ⊕ Option xV ⊕ (Nat × List xV × List xV)
abbrev gN (g : xG) : Nat := g.1
abbrev gW (g : xG) : Nat := g.2.1
abbrev gT (g : xG) : Nat → Nat := g.2.2.1
abbrev gZ (g : xG) : Nat → Nat := g.2.2.2.1
abbrev gP (g : xG) : Nat → Nat → Nat := g.2.2.2.2
def xset {α : Type} (M : Nat → Nat → α) (r j : Nat) (v : α) : Nat → Nat → α := fun a b => if a = r ∧ b = j then v else M a b
def xrow {α : Type} (M : Nat → α) (r : Nat) (f : α) : Nat → α := fun a => if a = r then f else M a
/-- a new object -/
def gnew (g : xG) (t z : Nat) : xG := (gN g + 1, gW g + z, xrow (gT g) (gN g + 1) t, xrow (gZ g) (gN g + 1) z, xrow (gP g) (gN g + 1) (fun _ => 0))
def hnew (h : xH) (t z : Nat) : xH := (gnew h.1 t z, xrow h.2 (gN h.1 + 1) (fun _ => 0))
abbrev nx (pc : Nat) (ls : xLs) (st : List xV) (h : xH) : Option xR := some (.inl (pc, ls, st, h))
def xclr (ls : xLs) : Nat → xLs
  | 0 => ls
  | k + 1 => match ls.getD k none with
    | some v => if xcat v = 2 then ls.set k none else ls
    | none => ls
def xsto (ls : xLs) (k : Nat) (v : xV) : xLs :=
  if xcat v = 2 then ((xclr ls k).set k (some v)).set (k + 1) none else (xclr ls k).set k (some v)
def xcmp (c : ClassFile.Cond) (a b : Int) : Prop := match c with
  | .eq => a = b
  | .ne => a ≠ b
  | .lt => a < b
  | .ge => b ≤ a
  | .gt => b < a
  | .le => a ≤ b
def xcmpD (c : ClassFile.Cond) (a b : Int) : Decidable (xcmp c a b) := by
  cases c <;> unfold xcmp <;> exact inferInstance
def xtgt (pc : Nat) (off : Int) : Nat := ((pc : Int) + off).toNat
def xsw (pc : Nat) (dflt lo hi : Int) (offs : Array Int) (z : Int) : Int :=
  if z < lo then dflt else if hi < z then dflt else offs.toList.getD (z - lo).toNat dflt
/-- int-like 0, boolean 1, reference 2 -/
def xfkt : List (List Nat) := [[2, 2, 2, 2], [1, 0, 0, 0], [2, 0, 0], [2, 1, 0], [2, 0], [], [2, 0], [2, 2, 2, 1, 0, 0, 0, 0, 0, 0, 0], [2, 0, 0], [], [2, 2, 2, 2, 2, 2, 2, 2, 1], [2, 2, 0, 2, 1, 2, 0, 2, 1]]
def xfk (ci k : Nat) : Nat := (xfkt.getD ci []).getD k 0
def xnf (ci : Nat) : Nat := (xfkt.getD ci []).length
abbrev xobj (g : xG) (r t : Nat) : Prop := 1 ≤ r ∧ r ≤ gN g ∧ gT g r = t
/-- the arrays that nobody writes: LEAST_VALUES, MOST_VALUES, the script -/
abbrev xRom : Type := Nat → Nat × (Nat → Int)
/-- what only the operand stack sees -/
def xpure (ins : ClassFile.Instr) (a b : Nat) (st : List xV) : Option (List xV) := match ins with
  | .aconst_null => some (vR 0 :: st)
  | .bipush n => some (vI n :: st)
  | .sipush n => some (vI n :: st)
  | .iconst n => some (vI n :: st)
  | .lconst n => some (vL (n.val : Int) :: st)
  | .dconst n => some (vD (if n.val = 0 then FP.dconst0 else FP.dconst1) :: st)
  | .ldc2_w _ => some (vL (if b = 1 then -(a : Int) else (a : Int)) :: st)
  | .iadd => match st with | .inl y :: .inl x :: r => some (vI (x + y) :: r) | _ => none
  | .isub => match st with | .inl y :: .inl x :: r => some (vI (x - y) :: r) | _ => none
  | .imul => match st with | .inl y :: .inl x :: r => some (vI (x * y) :: r) | _ => none
  | .idiv => match st with | .inl y :: .inl x :: r => if wr y = 0 then none else some (vI ((wr x).tdiv (wr y)) :: r) | _ => none
  | .irem => match st with | .inl y :: .inl x :: r => if wr y = 0 then none else some (vI ((wr x).tmod (wr y)) :: r) | _ => none
  | .iand => match st with | .inl y :: .inl x :: r => some (vI (Int32.ofInt x &&& Int32.ofInt y).toInt :: r) | _ => none
  | .ladd => match st with | .inr (.inl y) :: .inr (.inl x) :: r => some (vL (x + y) :: r) | _ => none
  | .lsub => match st with | .inr (.inl y) :: .inr (.inl x) :: r => some (vL (x - y) :: r) | _ => none
  | .lmul => match st with | .inr (.inl y) :: .inr (.inl x) :: r => some (vL (x * y) :: r) | _ => none
  | .ldiv => match st with | .inr (.inl y) :: .inr (.inl x) :: r => if wl y = 0 then none else some (vL ((wl x).tdiv (wl y)) :: r) | _ => none
  | .lrem => match st with | .inr (.inl y) :: .inr (.inl x) :: r => if wl y = 0 then none else some (vL ((wl x).tmod (wl y)) :: r) | _ => none
  | .land => match st with | .inr (.inl y) :: .inr (.inl x) :: r => some (vL (Int64.ofInt x &&& Int64.ofInt y).toInt :: r) | _ => none
  | .lor => match st with | .inr (.inl y) :: .inr (.inl x) :: r => some (vL (Int64.ofInt x ||| Int64.ofInt y).toInt :: r) | _ => none
  | .lxor => match st with | .inr (.inl y) :: .inr (.inl x) :: r => some (vL (Int64.ofInt x ^^^ Int64.ofInt y).toInt :: r) | _ => none
  | .lshl => match st with | .inl y :: .inr (.inl x) :: r => some (vL (Int64.ofInt x <<< ((Int32.ofInt y).toInt64 &&& 63)).toInt :: r) | _ => none
  | .lshr => match st with | .inl y :: .inr (.inl x) :: r => some (vL (Int64.ofInt x >>> ((Int32.ofInt y).toInt64 &&& 63)).toInt :: r) | _ => none
  | .lcmp => match st with | .inr (.inl y) :: .inr (.inl x) :: r => some (vI (if wl x < wl y then -1 else if wl x = wl y then 0 else 1) :: r) | _ => none
  | .i2l => match st with | .inl x :: r => some (vL (wr x) :: r) | _ => none
  | .l2i => match st with | .inr (.inl x) :: r => some (vI x :: r) | _ => none
  | .i2c => match st with | .inl x :: r => some (vI (wr x % 65536) :: r) | _ => none
  | .i2d => match st with | .inl x :: r => some (vD (FP.i2d (Int32.ofInt x)) :: r) | _ => none
  | .dmul => match st with | .inr (.inr (.inr (.inr y))) :: .inr (.inr (.inr (.inr x))) :: r => if FP.dmul x y &&& 0x7fffffffffffffff ≤ 0x7ff0000000000000 then some (vD (FP.dmul x y) :: r) else none | _ => none
  | .ddiv => match st with | .inr (.inr (.inr (.inr y))) :: .inr (.inr (.inr (.inr x))) :: r => if FP.ddiv x y &&& 0x7fffffffffffffff ≤ 0x7ff0000000000000 then some (vD (FP.ddiv x y) :: r) else none | _ => none
  | .dcmp op => match st with | .inr (.inr (.inr (.inr y))) :: .inr (.inr (.inr (.inr x))) :: r => some (vI (Op.cmpValue (FP.dcmp x y) op).toInt :: r) | _ => none
  | .dup => match st with | v :: r => if xcat v = 1 then some (v :: v :: r) else none | _ => none
  | .dup2 => match st with | v :: u :: r => if xcat v = 1 then (if xcat u = 1 then some (v :: u :: v :: u :: r) else none) else none | _ => none
  | .pop => match st with | v :: r => if xcat v = 1 then some r else none | _ => none
  | .ishr => match st with | .inl y :: .inl x :: r => some (vI (Int32.ofInt x >>> (Int32.ofInt y &&& 31)).toInt :: r) | _ => none
  | .ldc _ => some (vI (a : Int) :: st)
  | _ => none
/-- the local that is loaded, and of which sort it must be (0 int, 1 long, 2 reference, 4 double) -/
def xld (ins : ClassFile.Instr) : Option (Nat × Nat) := match ins with
  | .iload k => some (k, 0)
  | .iload_n k => some (k.val, 0)
  | .lload k => some (k, 1)
  | .lload_n k => some (k.val, 1)
  | .aload k => some (k, 2)
  | .aload_n k => some (k.val, 2)
  | .dload k => some (k, 4)
  | .dload_n k => some (k.val, 4)
  | _ => none
def xso (ins : ClassFile.Instr) : Option (Nat × Nat) := match ins with
  | .istore k => some (k, 0)
  | .istore_n k => some (k.val, 0)
  | .lstore k => some (k, 1)
  | .lstore_n k => some (k.val, 1)
  | .astore k => some (k, 2)
  | .astore_n k => some (k.val, 2)
  | .dstore k => some (k, 4)
  | .dstore_n k => some (k.val, 4)
  | _ => none
def xsort : xV → Nat
  | .inl _ => 0
  | .inr (.inl _) => 1
  | .inr (.inr (.inl _)) => 2
  | .inr (.inr (.inr (.inl _))) => 2
  | .inr (.inr (.inr (.inr _))) => 4
/-- jumps -/
def xjmp (pc : Nat) (ins : ClassFile.Instr) (ls : xLs) (st : List xV) (h : xH) : Option xR := match ins with
  | .goto off => if 0 ≤ (pc : Int) + off then nx (xtgt pc off) ls st h else none
  | .if_icmp c off => match st with
    | .inl y :: .inl x :: r => if 0 ≤ (pc : Int) + off then @ite _ (xcmp c (wr x) (wr y)) (xcmpD _ _ _) (nx (xtgt pc off) ls r h) (nx (pc + 3) ls r h) else none
    | _ => none
  | .ifCond c off => match st with
    | .inl x :: r => if 0 ≤ (pc : Int) + off then @ite _ (xcmp c (wr x) 0) (xcmpD _ _ _) (nx (xtgt pc off) ls r h) (nx (pc + 3) ls r h) else none
    | _ => none
  | .ifnull off => match st with
    | .inr (.inr (.inl k)) :: r => if 0 ≤ (pc : Int) + off then (if k = 0 then nx (xtgt pc off) ls r h else nx (pc + 3) ls r h) else none
    | _ => none
  | .ifnonnull off => match st with
    | .inr (.inr (.inl k)) :: r => if 0 ≤ (pc : Int) + off then (if k = 0 then nx (pc + 3) ls r h else nx (xtgt pc off) ls r h) else none
    | _ => none
  | .tableswitch d lo hi offs => match st with
    | .inl x :: r => if 0 ≤ (pc : Int) + xsw pc d lo hi offs (wr x) ∧ ((wr x - lo).toNat < offs.size ∨ wr x < lo ∨ hi < wr x) then nx (xtgt pc (xsw pc d lo hi offs (wr x))) ls r h else none
    | _ => none
  | .lookupswitch d ps => match st with
    | .inl x :: r => if 0 ≤ (pc : Int) + Op.lookupswitch.offset ps.toList d (wr x) ∧ (ps.toList.zip (ps.toList.drop 1)).all (fun (a, next) => a.1 < next.1) = true then nx (xtgt pc (Op.lookupswitch.offset ps.toList d (wr x))) ls r h else none
    | _ => none
  | _ => none
/-- objects and arrays -/
def xheap (rom : xRom) (y pc : Nat) (q : xQ) (ls : xLs) (st : List xV) (h : xH) : Option xR := match q.1 with
  | .getfield _ => match st with
    | .inr (.inr (.inl r)) :: s => if xobj h.1 r q.2.2.2.1 then nx (pc + 3) ls ((if xfk q.2.2.2.1 q.2.2.2.2.1 = 2 then vR (gP h.1 r q.2.2.2.2.1) else vI (h.2 r q.2.2.2.2.1)) :: s) h else none
    | _ => none
  | .putfield _ => match st with
    | .inl z :: .inr (.inr (.inl r)) :: s => if xobj h.1 r q.2.2.2.1 ∧ (xfk q.2.2.2.1 q.2.2.2.2.1 = 0 ∨ (xfk q.2.2.2.1 q.2.2.2.2.1 = 1 ∧ (wr z = 0 ∨ wr z = 1))) then nx (pc + 3) ls s (h.1, xset h.2 r q.2.2.2.2.1 z) else none
    | .inr (.inr (.inl k)) :: .inr (.inr (.inl r)) :: s => if xobj h.1 r q.2.2.2.1 ∧ xfk q.2.2.2.1 q.2.2.2.2.1 = 2 ∧ (xinfo y).2.2.2.2.2.1 = 2 ∧ q.2.2.1 = 0 ∧ (xinfo y).2.2.2.2.2.2 = q.2.2.2.1 then nx (pc + 3) ls s ((gN h.1, gW h.1, gT h.1, gZ h.1, xset (gP h.1) r q.2.2.2.2.1 k), h.2) else none
    | _ => none
  | .getstatic _ => nx (pc + 3) ls (vS q.2.2.2.1 :: st) h
  | .iaload => match st with
    | .inl j :: .inr (.inr (.inl r)) :: s => if xobj h.1 r 100 ∧ 0 ≤ wr j ∧ wr j < gZ h.1 r then nx (pc + 1) ls (vI (h.2 r (wr j).toNat) :: s) h else none
    | .inl j :: .inr (.inr (.inr (.inl k))) :: s => if k < 3 ∧ 0 ≤ wr j ∧ wr j < (rom k).1 then nx (pc + 1) ls (vI ((rom k).2 (wr j).toNat) :: s) h else none
    | _ => none
  | .caload => match st with
    | .inl j :: .inr (.inr (.inl r)) :: s => if xobj h.1 r 102 ∧ 0 ≤ wr j ∧ wr j < gZ h.1 r then nx (pc + 1) ls (vI (h.2 r (wr j).toNat) :: s) h else none
    | _ => none
  | .aaload => match st with
    | .inl j :: .inr (.inr (.inl r)) :: s => if 1 ≤ r ∧ r ≤ gN h.1 ∧ (gT h.1 r = 103 ∨ gT h.1 r = 104) ∧ 0 ≤ wr j ∧ wr j < gZ h.1 r then nx (pc + 1) ls (vR (gP h.1 r (wr j).toNat) :: s) h else none
    | _ => none
  | .iastore => match st with
    | .inl z :: .inl j :: .inr (.inr (.inl r)) :: s => if xobj h.1 r 100 ∧ 0 ≤ wr j ∧ wr j < gZ h.1 r then nx (pc + 1) ls s (h.1, xset h.2 r (wr j).toNat z) else none
    | _ => none
  | .castore => match st with
    | .inl z :: .inl j :: .inr (.inr (.inl r)) :: s => if xobj h.1 r 102 ∧ 0 ≤ wr j ∧ wr j < gZ h.1 r ∧ 0 ≤ wr z ∧ wr z < 65536 then nx (pc + 1) ls s (h.1, xset h.2 r (wr j).toNat z) else none
    | _ => none
  | .aastore => match st with
    | .inr (.inr (.inl k)) :: .inl j :: .inr (.inr (.inl r)) :: s => if 1 ≤ r ∧ r ≤ gN h.1 ∧ ((gT h.1 r = 103 ∧ xobj h.1 k 7) ∨ (gT h.1 r = 104 ∧ xobj h.1 k 3)) ∧ 0 ≤ wr j ∧ wr j < gZ h.1 r then nx (pc + 1) ls s ((gN h.1, gW h.1, gT h.1, gZ h.1, xset (gP h.1) r (wr j).toNat k), h.2) else none
    | _ => none
  | .arraylength => match st with
    | .inr (.inr (.inl r)) :: s => if 1 ≤ r ∧ r ≤ gN h.1 ∧ 100 ≤ gT h.1 r ∧ gT h.1 r < 105 then nx (pc + 1) ls (vI (gZ h.1 r) :: s) h else none
    | .inr (.inr (.inr (.inl k))) :: s => if k < 3 then nx (pc + 1) ls (vI (rom k).1 :: s) h else none
    | _ => none
  | .new _ => nx (pc + 3) ls (vR (gN h.1 + 1) :: st) (hnew h q.2.2.2.1 (xnf q.2.2.2.1))
  | .newarray _ => match st with
    | .inl z :: s => if 0 ≤ wr z ∧ wr z < 60000000 then nx (pc + 2) ls (vR (gN h.1 + 1) :: s) (hnew h q.2.2.2.1 (wr z).toNat) else none
    | _ => none
  | .anewarray _ => match st with
    | .inl z :: s => if 0 ≤ wr z ∧ wr z < 60000000 then nx (pc + 3) ls (vR (gN h.1 + 1) :: s) (hnew h q.2.2.2.1 (wr z).toNat) else none
    | _ => none
  | _ => none
/-- a call of a method of ours: how many values it takes off -/
def xinv (y' k : Nat) (st : List xV) : Option xR :=
  if k ≤ st.length ∧ ((st.drop k).map xcat).sum ≤ 8 ∧ (st.take k).all (fun v => xcat v == 1) = true then some (.inr (.inr (y', (st.take k).reverse, st.drop k))) else none
def xrecv (g : xG) (ci : Nat) (v : Option xV) : Prop := match v with
  | some (.inr (.inr (.inl r))) => 1 ≤ r ∧ r ≤ gN g ∧ (ci = 99 ∨ gT g r = ci)
  | _ => False
def xrecvD (g : xG) (ci : Nat) (v : Option xV) : Decidable (xrecv g ci v) := by
  unfold xrecv; split <;> exact inferInstance
def xcpy (f g : Nat → Int) (sp dp n : Nat) : Nat → Int := fun k => if dp ≤ k ∧ k < dp + n then f (sp + (k - dp)) else g k
def xcall (d pc : Nat) (q : xQ) (ls : xLs) (st : List xV) (h : xH) : Option xR :=
  if q.2.2.1 ≤ 1 then
    let i := xinfo q.2.2.2.1
    if i.2.2.2.2.2.1 = 0 then xinv q.2.2.2.1 i.2.2.2.2.1 st
    else @ite _ (xrecv h.1 (if i.2.2.2.2.2.1 = 2 then 99 else i.2.2.2.2.2.2) (st[i.2.2.2.2.1]?)) (xrecvD _ _ _) (xinv q.2.2.2.1 (i.2.2.2.2.1 + 1) st) none
  else if d = 0 then none
  else match q.2.2.1, st with
  | 6, .inr (.inr (.inl r)) :: s => if r ≠ 0 ∧ (s.map xcat).sum ≤ 8 then nx (pc + 3) ls s h else none
  | 7, .inl y :: .inl x :: s => if (s.map xcat).sum ≤ 8 then nx (pc + 3) ls (vI (if wr x < wr y then y else x) :: s) h else none
  | 8, .inl y :: .inl x :: s => if (s.map xcat).sum ≤ 8 then nx (pc + 3) ls (vI (if wr y < wr x then y else x) :: s) h else none
  | 9, .inl x :: s => if (s.map xcat).sum ≤ 8 then nx (pc + 3) ls (vI (if wr x < 0 then -x else x) :: s) h else none
  | 10, .inl n :: .inl dp :: .inr (.inr (.inl a)) :: .inl sp :: .inr (.inr (.inl a0)) :: s =>
    if xobj h.1 a 100 ∧ xobj h.1 a0 100 ∧ 0 ≤ wr sp ∧ 0 ≤ wr dp ∧ 0 ≤ wr n ∧ wr sp + wr n ≤ gZ h.1 a0 ∧ wr dp + wr n ≤ gZ h.1 a ∧ (s.map xcat).sum ≤ 8 then nx (pc + 3) ls s (h.1, xrow h.2 a (xcpy (h.2 a0) (h.2 a) (wr sp).toNat (wr dp).toNat (wr n).toNat)) else none
  | _, _ => none
/-- no call is dispatched here -/
def xdisp (_ : xQ) (_ : List xV) (_ : xH) : Option xR := none
def xretOk (y : Nat) (z : Int) : Prop := match (xinfo y).2.2.2.1 with
  | some .int => True
  | some .boolean => wr z = 0 ∨ wr z = 1
  | some .char => 0 ≤ wr z ∧ wr z < 65536
  | _ => False
def xretOkD (y : Nat) (z : Int) : Decidable (xretOk y z) := by
  unfold xretOk; split <;> exact inferInstance
def xret (y : Nat) (ins : ClassFile.Instr) (st : List xV) : Option xR := match ins with
  | .ireturn => match st with
    | [.inl z] => @ite _ (xretOk y z) (xretOkD y z) (some (.inr (.inl (some (vI z))))) none
    | _ => none
  | .areturn => match st with
    | [.inr (.inr (.inl r))] => match (xinfo y).2.2.2.1 with
      | some (.object _) => some (.inr (.inl (some (vR r))))
      | _ => none
    | _ => none
  | .dreturn => match st with
    | [.inr (.inr (.inr (.inr x)))] => match (xinfo y).2.2.2.1 with
      | some .double => some (.inr (.inl (some (vD x))))
      | _ => none
    | _ => none
  | .return_ => match st with
    | [] => match (xinfo y).2.2.2.1 with
      | none => some (.inr (.inl none))
      | _ => none
    | _ => none
  | _ => none
/-- of which sort an instruction is -/
def xcls (ins : ClassFile.Instr) : Nat := match ins with
  | .goto _ | .if_icmp _ _ | .ifCond _ _ | .ifnull _ | .ifnonnull _ | .tableswitch _ _ _ _ | .lookupswitch _ _ => 1
  | .iload _ | .iload_n _ | .lload _ | .lload_n _ | .aload _ | .aload_n _ | .dload _ | .dload_n _ => 2
  | .istore _ | .istore_n _ | .lstore _ | .lstore_n _ | .astore _ | .astore_n _ | .dstore _ | .dstore_n _ => 3
  | .iinc _ _ => 4
  | .getfield _ | .putfield _ | .getstatic _ | .iaload | .caload | .aaload | .iastore | .castore | .aastore | .arraylength | .new _ | .newarray _ | .anewarray _ => 5
  | .invokespecial _ | .invokestatic _ | .invokevirtual _ => 6
  | .ireturn | .areturn | .dreturn | .return_ => 7
  | _ => 0
def xstep (rom : xRom) (d y pc : Nat) (q : xQ) (ls : xLs) (st : List xV) (h : xH) : Option xR := match xcls q.1 with
  | 0 => match xpure q.1 q.2.2.2.1 q.2.2.2.2.1 st with | some st' => nx (pc + q.2.1) ls st' h | none => none
  | 1 => xjmp pc q.1 ls st h
  | 2 => match xld q.1 with
    | some (k, t) => match ls.getD k none with
      | some v => if xsort v = t then nx (pc + q.2.1) ls (v :: st) h else none
      | none => none
    | none => none
  | 3 => match xso q.1, st with
    | some (k, t), v :: r => if xsort v = t ∧ k + xcat v ≤ ls.length then nx (pc + q.2.1) (xsto ls k v) r h else none
    | _, _ => none
  | 4 => match q.1 with
    | .iinc k n => match ls.getD k none with
      | some (.inl z) => nx (pc + 3) (ls.set k (some (vI (z + n)))) st h
      | _ => none
    | _ => none
  | 5 => xheap rom y pc q ls st h
  | 6 => if q.2.2.1 = 11 then xdisp q st h else xcall d pc q ls st h
  | _ => xret y q.1 st
def xentry (y : Nat) (as : List xV) : xLs := as.map some ++ List.replicate ((xinfo y).2.2.1 - as.length) none
def xrun (rom : xRom) : Nat → Nat → Nat → xF → Option (Option xV × xH)
  | 0, _, _, _ => none
  | f + 1, d, y, (pc, ls, st, h) => match xcode y pc with
    | none => none
    | some q => match xstep rom d y pc q ls st h with
      | none => none
      | some (.inl s) => xrun rom f d y s
      | some (.inr (.inl v)) => some (v, h)
      | some (.inr (.inr (y', as, rest))) => match d with
        | 0 => none
        | d' + 1 => match xrun rom f d' y' (0, xentry y' as, [], h) with
          | none => none
          | some (v, h') => xrun rom f (d' + 1) y (pc + 3, ls, v.toList ++ rest, h')
