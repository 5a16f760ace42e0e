/-! the tables say what the bytes and the words say -/
def xlen (ins : ClassFile.Instr) : Nat := match ins with
  | .bipush _ | .iload _ | .lload _ | .aload _ | .dload _ | .istore _ | .lstore _ | .astore _ | .dstore _ | .newarray _ | .ldc _ => 2
  | .sipush _ | .ldc2_w _ | .iinc _ _ | .goto _ | .if_icmp _ _ | .ifCond _ _ | .ifnull _ | .ifnonnull _ | .getfield _ | .putfield _ | .getstatic _ | .new _ | .anewarray _ | .invokespecial _ | .invokestatic _ | .invokevirtual _ => 3
  | .tableswitch _ _ _ _ | .lookupswitch _ _ => 0
  | _ => 1
def xrn (k : Nat) : String := if k = 0 then "LEAST_VALUES" else "MOST_VALUES"
def xdy (k : Nat) : MethodName := if k = 0 then ⟨"PedalLayers$Reading", "next", "(IC)I"⟩ else ⟨"PedalLayers$Reading", "isComplete", "(I)Z"⟩
def xml (own : String) (i : Nat) (q : xQ) : Bool :=
  if q.2.2.1 = 0 then decide (lw_tbl[q.2.2.2.2.2]? = some (.methodLink own i (xinfo q.2.2.2.1).1)) else decide (lw_tbl[q.2.2.2.2.2]? = some (.methodLinkNest own i (xinfo q.2.2.2.1).1 "PedalLayers"))
def xtgtOk (q : xQ) (fl : Nat) : Bool := decide (q.2.2.2.1 < 115) && decide ((xinfo q.2.2.2.1).2.2.2.2.2.1 = fl)
def xsq (own : String) (q : xQ) : Bool := match q.1 with
  | .getfield i | .putfield i => match vwCl[q.2.2.2.1]? with
    | some (_, T, N) => decide (q.2.2.2.2.1 < N) && (if q.2.2.1 = 0 then decide (lw_tbl[q.2.2.2.2.2]? = some (.fieldLink own i (T q.2.2.2.2.1).1 (T q.2.2.2.2.1).2.1 (T q.2.2.2.2.1).2.2.1)) else decide (lw_tbl[q.2.2.2.2.2]? = some (.fieldLinkNest own i (T q.2.2.2.2.1).1 (T q.2.2.2.2.1).2.1 (T q.2.2.2.2.1).2.2.1 "PedalLayers")))
    | none => false
  | .getstatic i => decide (q.2.2.2.1 < 2) && decide (lw_tbl[q.2.2.2.2.2]? = some (.fieldLink own i "PedalLayers" (xrn q.2.2.2.1) "[I"))
  | .new i => match vwCl[q.2.2.2.1]? with
    | some (C, _, _) => decide (lw_tbl[q.2.2.2.2.2]? = some (.classLink own i C))
    | none => false
  | .newarray t => decide ((q.2.2.2.1 = 100 ∧ t = .int) ∨ (q.2.2.2.1 = 102 ∧ t = .char))
  | .anewarray i => (decide (q.2.2.2.1 = 103) && decide (lw_tbl[q.2.2.2.2.2]? = some (.classLink own i "PedalLayers$Pedal"))) || (decide (q.2.2.2.1 = 104) && decide (lw_tbl[q.2.2.2.2.2]? = some (.classLink own i "PedalLayers$Layer")))
  | .ldc2_w i => decide (lw_tbl[q.2.2.2.2.2]? = some (.constantLong own i (Int64.ofInt (if q.2.2.2.2.1 = 1 then -(q.2.2.2.1 : Int) else (q.2.2.2.1 : Int)))))
  | .ldc i => decide (lw_tbl[q.2.2.2.2.2]? = some (.constant own i (Int32.ofInt (q.2.2.2.1 : Int))))
  | .bipush n => decide (-128 ≤ n ∧ n < 128)
  | .sipush n => decide (-32768 ≤ n ∧ n < 32768)
  | .invokevirtual i => if q.2.2.1 = 11 then false else decide (q.2.2.1 ≤ 1) && xtgtOk q 1 && xml own i q && decide (q.2.2.2.1 ≠ 900) && decide (q.2.2.2.1 ≠ 901) && decide (q.2.2.2.1 ≠ 902) && decide (q.2.2.2.1 ≠ 903)
  | .invokestatic i => if q.2.2.1 ≤ 1 then xtgtOk q 0 && xml own i q
    else if q.2.2.1 = 7 then decide (lw_tbl[q.2.2.2.2.2]? = some (.methodLink own i Lib.Math.max.name))
    else if q.2.2.1 = 8 then decide (lw_tbl[q.2.2.2.2.2]? = some (.methodLink own i Lib.Math.min.name))
    else if q.2.2.1 = 9 then decide (lw_tbl[q.2.2.2.2.2]? = some (.methodLink own i Lib.Math.abs.name))
    else decide (q.2.2.1 = 10) && decide (lw_tbl[q.2.2.2.2.2]? = some (.methodLink own i arraycopyName))
  | .invokespecial i => if q.2.2.1 ≤ 1 then xtgtOk q 2 && xml own i q else decide (q.2.2.1 = 6) && decide (lw_tbl[q.2.2.2.2.2]? = some (.methodLink own i objectInit))
  | _ => true
def xchk (y : Nat) (o : Option xQ) (pc : Nat) : Bool := match o with
  | none => true
  | some q => decide (decode (xinfo y).2.1 pc = .ok (q.1, q.2.1)) && (decide (xlen q.1 = 0) || decide (xlen q.1 = q.2.1)) && xsq (xinfo y).1.cls q
def xchR (y lo n : Nat) : Bool := (List.range' lo n).all (fun pc => xchk y ((xkall.getD y []).getD pc none) pc)
def xckP (y : Nat) : Prop := ∀ pc, xchk y ((xkall.getD y []).getD pc none) pc = true
theorem xchR_use {y lo n pc : Nat} (h : xchR y lo n = true) (h1 : lo ≤ pc) (h2 : pc < lo + n) : xchk y ((xkall.getD y []).getD pc none) pc = true := List.all_eq_true.mp h pc (List.mem_range'_1.mpr ⟨h1, h2⟩)
theorem xchR_out {y pc : Nat} (h : (xkall.getD y []).length ≤ pc) : xchk y ((xkall.getD y []).getD pc none) pc = true := by
  rw [List.getD_eq_getElem?_getD, List.getElem?_eq_none h]; rfl
/-! of each method: its words -/
def xmP (y : Nat) : Prop := plainName (xinfo y).1.cls = true ∧ Cond.code (xinfo y).1 (xinfo y).2.1 (xinfo y).2.2.1 (xinfo y).2.2.2.1 ∈ lw_tbl ∧ Cond.initialized (xinfo y).1.cls ∈ lw_tbl ∧
  ((xinfo y).2.2.2.2.2.1 = 0 → Cond.static (xinfo y).1 ∈ lw_tbl) ∧ ((xinfo y).2.2.2.2.2.1 ≠ 0 → Cond.instanceMethod (xinfo y).1 ∈ lw_tbl) ∧
  ((xinfo y).2.2.2.2.2.1 = 1 → y ≠ 900 → y ≠ 901 → y ≠ 902 → y ≠ 903 → Cond.selects (xinfo y).1.cls (xinfo y).1 (xinfo y).1 ∈ lw_tbl) ∧
  ((xinfo y).2.2.2.2.2.1 = 2 → (xinfo y).1.name = "<init>" ∧ (xinfo y).2.2.2.1 = none) ∧
  ((xinfo y).1.cls ≠ "java/lang/invoke/MethodHandle" ∧ (xinfo y).1.cls ≠ "java/lang/invoke/VarHandle" ∧ (parseMethodDescriptor (xinfo y).1.desc).map (fun d => d.parameters.length) = some (xinfo y).2.2.2.2.1) ∧
  (xinfo y).2.2.1 ≤ 17 ∧ (xinfo y).2.2.2.2.1 + 1 ≤ (xinfo y).2.2.1 + (if (xinfo y).2.2.2.2.2.1 = 0 then 1 else 0) ∧
  ((xinfo y).2.2.2.2.2.1 = 1 → (xinfo y).2.2.2.2.2.2 < 99) ∧
  ((xinfo y).2.2.2.2.2.2 < 99 → ∃ T N, vwCl[(xinfo y).2.2.2.2.2.2]? = some ((xinfo y).1.cls, T, N))
