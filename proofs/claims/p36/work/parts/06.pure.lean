/-! THE INTERPRETER IS SOUND, 1: what holds along a walk; what only the operand stack sees -/
def xtbl : List Cond := lw_tbl.filter goodWord
abbrev XA (B : Nat) : Nat → Prop := fun q => B < q
def xtys (dA : Nat → ClassId) : List (ClassId × FieldType) := [(dA 100, .int), (dA 101, .int), (dA 102, .char), (dA 103, .object "PedalLayers$Pedal"), (dA 104, .object "PedalLayers$Layer")]
def xRO (B : Nat) (ra : Nat → Nat) (rom : xRom) (U : State) (H : Heap) : Prop := (∀ k, k < 3 → va_T .int (ra k) (rom k).1 (fun j => .int (Int32.ofInt ((rom k).2 j))) (XA B) U H) ∧ ∀ k, k < 2 → va_Z "PedalLayers" (xrn k) "[I" (.ref (ra k)) (XA B) U H
/-- words of nest mates, and of an abstract method: they are kept another way -/
def xisN : Cond → Bool
  | .fieldLinkNest .. => true
  | .methodLinkNest .. => true
  | .declares .. => true
  | .arrayOver (.object _) => true
  | _ => false
def xNW (U : State) : Prop := ∀ w, w ∈ lw_tbl → xisN w = true → va_Nw w U
theorem xNW.warm {s U : State} (hW : s.WarmedH U.vm) (h : xNW s) : xNW U := by
  intro w hw hn
  have h1 := h w hw hn
  cases w <;> first | (cases hn; done) | exact va_Nw.warmF hW h1 | exact va_Nw.warmM hW h1 | exact va_Nw.warmD hW h1 | (rename_i ty; cases ty <;> first | (cases hn; done) | exact va_AO.moved hW.alike h1)
theorem xNW.same {u U : State} (hv : u.vm = U.vm) (h : xNW u) : xNW U := by
  intro w hw hn
  have h1 := h w hw hn
  cases w <;> first | (cases hn; done) | exact va_Nw.same rfl hv h1 | (rename_i ty; cases ty <;> first | (cases hn; done) | exact va_AO.moved (hv ▸ Vm.Alike.refl _) h1)
theorem xNW.use {s : State} {args : Array Value} (h : xNW s) {w : Cond} (hw : w ∈ lw_tbl) (hn : xisN w = true) : w.before args s = true := by
  have h1 := h w hw hn
  cases w <;> first | (cases hn; done) | exact va_Nw.use rfl h1 | (rename_i ty; cases ty <;> first | (cases hn; done) | exact va_AO.use h1)
def XC (rom : xRom) (B : Nat) (ra : Nat → Nat) (dA : Nat → ClassId) (D : va_G) (d y : Nat) (p : Program) (R : Room) (s : State) (m : MethodId) (args : Array Value) (meth : Method) (c : Code) : Prop :=
  p.tables.exec = Jvm.exec ∧ c.code = (xinfo y).2.1 ∧ c.maxLocals = (xinfo y).2.2.1 ∧ s.vm.findClass (xinfo y).1.cls = some m.cls ∧ (∀ w ∈ xtbl, w.before args s = true) ∧ ((xinfo y).2.2.2.2.2.1 = 2 → meth.name = "<init>") ∧ va_K D vwCl (xtys dA) s ∧ xRO B ra rom s s.heap ∧ B + 1 ≤ s.heap.size ∧ d ≤ R.frames ∧ 36 * d ≤ R.locals ∧ xNW s
def xSt (p : Program) (l : Launch) (e : Env) (R : Room) (s : State) (m : MethodId) (args : Array Value) (below : List Frame) (meth : Method) (c : Code) (Q : State → Prop) (B : Nat) (ra : Nat → Nat) (dA : Nat → ClassId) (D : va_G) (y n0 w0 : Nat) (σ : xF) : Prop :=
  ∀ (H : Heap) (locs : List Loc) (lsC : Array Slot), H.size = B + gN σ.2.2.2.1 + 1 → va_P D vwCl (wsx dA B σ.2.2.2) H → va_S (XA B) s.heap H locs → xhas B ra lsC (xinfo y).2.2.1 σ.2.1 →
    W p l e R s m args below meth c H locs (gN σ.2.2.2.1 - n0) (gW σ.2.2.2.1 - w0) Q (F0 m σ.1 lsC (σ.2.2.1.map (cv B ra)))
theorem xtbl_of {args : Array Value} {s : State} (h : ∀ w ∈ xtbl, w.before args s = true) {w : Cond} (h1 : w ∈ lw_tbl) (h2 : goodWord w = true) : w.before args s = true := h w (List.mem_filter.mpr ⟨h1, h2⟩)
section X1
variable {p : Program} {l : Launch} {e : Env} {R : Room} {s : State} {m : MethodId} {args : Array Value} {below : List Frame} {meth : Method} {c : Code} {Q : State → Prop} {B : Nat} {ra : Nat → Nat} {dA : Nat → ClassId} {D : va_G} {rom : xRom} {d y n0 w0 : Nat}
theorem W_top {H : Heap} {locs : List Loc} {cells slots pc : Nat} {ls : Array Slot} {v w : Value} {rest : List Value} (ev : v = w) (k : W p l e R s m args below meth c H locs cells slots Q (F0 m pc ls (v :: rest))) : W p l e R s m args below meth c H locs cells slots Q (F0 m pc ls (w :: rest)) := ev ▸ k
theorem x_cmpv (x y : Int) : Int32.ofInt (if wl x < wl y then -1 else if wl x = wl y then 0 else 1) = lg_cmp (Int64.ofInt x) (Int64.ofInt y) := by
  unfold lg_cmp
  simp only [xl_lt, xl_eq]
  by_cases h1 : wl x < wl y
  · rw [if_pos h1]
    simp [show ¬ wl y < wl x by omega, show ¬ wl x = wl y by omega, h1]
  · rw [if_neg h1]
    by_cases h2 : wl x = wl y
    · rw [if_pos h2]
      simp [h2]
    · rw [if_neg h2]
      simp [show wl y < wl x by omega]
theorem x_b8 {n : Int} (h : -128 ≤ n ∧ n < 128) : (Int8.ofInt n).toInt32 = Int32.ofInt n := by
  apply Int32.toInt_inj.mp
  rw [Int8.toInt_toInt32, Int8.toInt_ofInt_of_le (by omega) (by omega), Int32.toInt_ofInt_of_le (by omega) (by omega)]
theorem x_b16 {n : Int} (h : -32768 ≤ n ∧ n < 32768) : (Int16.ofInt n).toInt32 = Int32.ofInt n := by
  apply Int32.toInt_inj.mp
  rw [Int16.toInt_toInt32, Int16.toInt_ofInt_of_le (by omega) (by omega), Int32.toInt_ofInt_of_le (by omega) (by omega)]

set_option maxHeartbeats 4000000 in
theorem x_pure {pc len a b : Nat} {ins : ClassFile.Instr} {ls : xLs} {st st' : List xV} {h : xH} (hC : XC rom B ra dA D d y p R s m args meth c) (hd : decode (xinfo y).2.1 pc = .ok (ins, len)) (hl : xlen ins = len)
    (hw : ∀ i, ins = .ldc2_w i → (Cond.constantLong (xinfo y).1.cls i (Int64.ofInt (if b = 1 then -(a : Int) else (a : Int)))).before args s = true)
    (hw2 : ∀ i, ins = .ldc i → (Cond.constant (xinfo y).1.cls i (Int32.ofInt (a : Int))).before args s = true)
    (hr : (∀ n, ins = .bipush n → -128 ≤ n ∧ n < 128) ∧ ∀ n, ins = .sipush n → -32768 ≤ n ∧ n < 32768) (hp : xpure ins a b st = some st') (k : xSt p l e R s m args below meth c Q B ra dA D y n0 w0 (pc + len, ls, st', h)) : xSt p l e R s m args below meth c Q B ra dA D y n0 w0 (pc, ls, st, h) := by
  obtain ⟨hx, hb, hml, hown, hts, hin, hK, hRO, hB, hfr, hlo, hNW⟩ := hC
  intro H locs lsC hH hP hS hL
  unfold xpure at hp
  split at hp
  · have hl := hl.symm
    subst hl
    cases hp
    exact lv_null hx hb hd (k H locs lsC hH hP hS hL)
  · have hl := hl.symm
    subst hl
    cases hp
    exact lv_bipush hx hb hd (x_b8 (hr.1 _ rfl)) (k H locs lsC hH hP hS hL)
  · have hl := hl.symm
    subst hl
    cases hp
    exact lv_sipush hx hb hd (x_b16 (hr.2 _ rfl)) (k H locs lsC hH hP hS hL)
  · have hl := hl.symm
    subst hl
    cases hp
    exact lv_iconst hx hb hd rfl (k H locs lsC hH hP hS hL)
  · have hl := hl.symm
    subst hl
    cases hp
    exact lv_lconst hx hb hd (Int64.ofInt_eq_ofNat).symm (k H locs lsC hH hP hS hL)
  · rename_i n
    have hl := hl.symm
    subst hl
    cases hp
    rcases n with ⟨_ | _ | n, hn⟩
    · exact lv_dconst0 hx hb hd (k H locs lsC hH hP hS hL)
    · exact lv_dconst1 hx hb hd (k H locs lsC hH hP hS hL)
    · omega
  · have hl := hl.symm
    subst hl
    cases hp
    exact lv_ldc2 hx hb hown (hw _ rfl) hd (k H locs lsC hH hP hS hL)
  · have hl := hl.symm
    subst hl
    split at hp
    · cases hp
      exact lv_iadd hx hb hd (W_top (congrArg Value.int (Int32.ofInt_add _ _)) (k H locs lsC hH hP hS hL))
    · cases hp
  · have hl := hl.symm
    subst hl
    split at hp
    · cases hp
      exact lv_isub hx hb hd (W_top (congrArg Value.int (Int32.ofInt_sub _ _)) (k H locs lsC hH hP hS hL))
    · cases hp
  · have hl := hl.symm
    subst hl
    split at hp
    · cases hp
      exact lv_imul hx hb hd (W_top (congrArg Value.int (Int32.ofInt_mul _ _)) (k H locs lsC hH hP hS hL))
    · cases hp
  · have hl := hl.symm
    subst hl
    split at hp
    · split at hp
      · cases hp
      · rename_i hz
        cases hp
        exact lv_idiv hx hb hd (fun z => hz ((xi_eq0 _).mp z)) (W_top (congrArg Value.int (xi_div _ _)) (k H locs lsC hH hP hS hL))
    · cases hp
  · have hl := hl.symm
    subst hl
    split at hp
    · split at hp
      · cases hp
      · rename_i hz
        cases hp
        exact lv_irem hx hb hd (fun z => hz ((xi_eq0 _).mp z)) (W_top (congrArg Value.int (xi_mod _ _)) (k H locs lsC hH hP hS hL))
    · cases hp
  · have hl := hl.symm
    subst hl
    split at hp
    · cases hp
      exact lv_iand hx hb hd (W_top (congrArg Value.int (Int32.ofInt_toInt _)) (k H locs lsC hH hP hS hL))
    · cases hp
  · have hl := hl.symm
    subst hl
    split at hp
    · cases hp
      exact lv_ladd hx hb hd (W_top (congrArg Value.long (Int64.ofInt_add _ _)) (k H locs lsC hH hP hS hL))
    · cases hp
  · have hl := hl.symm
    subst hl
    split at hp
    · cases hp
      exact lv_lsub hx hb hd (W_top (congrArg Value.long (Int64.ofInt_sub _ _)) (k H locs lsC hH hP hS hL))
    · cases hp
  · have hl := hl.symm
    subst hl
    split at hp
    · cases hp
      exact lv_lmul hx hb hd (W_top (congrArg Value.long (Int64.ofInt_mul _ _)) (k H locs lsC hH hP hS hL))
    · cases hp
  · have hl := hl.symm
    subst hl
    split at hp
    · split at hp
      · cases hp
      · rename_i hz
        cases hp
        exact lv_ldiv hx hb hd (fun z => hz ((xl_eq0 _).mp z)) (W_top (congrArg Value.long (xl_div _ _)) (k H locs lsC hH hP hS hL))
    · cases hp
  · have hl := hl.symm
    subst hl
    split at hp
    · split at hp
      · cases hp
      · rename_i hz
        cases hp
        exact lv_lrem hx hb hd (fun z => hz ((xl_eq0 _).mp z)) (W_top (congrArg Value.long (xl_mod _ _)) (k H locs lsC hH hP hS hL))
    · cases hp
  · have hl := hl.symm
    subst hl
    split at hp
    · cases hp
      exact lv_land hx hb hd (W_top (congrArg Value.long (Int64.ofInt_toInt _)) (k H locs lsC hH hP hS hL))
    · cases hp
  · have hl := hl.symm
    subst hl
    split at hp
    · cases hp
      exact lv_lor hx hb hd (W_top (congrArg Value.long (Int64.ofInt_toInt _)) (k H locs lsC hH hP hS hL))
    · cases hp
  · have hl := hl.symm
    subst hl
    split at hp
    · cases hp
      exact lv_lxor hx hb hd (W_top (congrArg Value.long (Int64.ofInt_toInt _)) (k H locs lsC hH hP hS hL))
    · cases hp
  · have hl := hl.symm
    subst hl
    split at hp
    · cases hp
      exact lv_lshl hx hb hd rfl (W_top (congrArg Value.long (Int64.ofInt_toInt _)) (k H locs lsC hH hP hS hL))
    · cases hp
  · have hl := hl.symm
    subst hl
    split at hp
    · cases hp
      exact lv_lshr hx hb hd rfl (W_top (congrArg Value.long (Int64.ofInt_toInt _)) (k H locs lsC hH hP hS hL))
    · cases hp
  · have hl := hl.symm
    subst hl
    split at hp
    · cases hp
      exact W.lcmp hx hb hd (W_top (congrArg Value.int (x_cmpv _ _)) (k H locs lsC hH hP hS hL))
    · cases hp
  · have hl := hl.symm
    subst hl
    split at hp
    · cases hp
      exact lv_i2l hx hb hd rfl (W_top (congrArg Value.long (xi_i2l _).symm) (k H locs lsC hH hP hS hL))
    · cases hp
  · have hl := hl.symm
    subst hl
    split at hp
    · cases hp
      exact lv_l2i hx hb hd rfl (W_top (congrArg Value.int Int64.toInt32_ofInt.symm) (k H locs lsC hH hP hS hL))
    · cases hp
  · have hl := hl.symm
    subst hl
    split at hp
    · cases hp
      exact lv_i2c hx hb hd rfl (W_top (congrArg Value.int (xi_i2c _).symm) (k H locs lsC hH hP hS hL))
    · cases hp
  · have hl := hl.symm
    subst hl
    split at hp
    · cases hp
      exact lv_i2d hx hb hd (k H locs lsC hH hP hS hL)
    · cases hp
  · have hl := hl.symm
    subst hl
    split at hp
    · split at hp
      · rename_i hz
        cases hp
        exact lv_dmul hx hb hd hz (k H locs lsC hH hP hS hL)
      · cases hp
    · cases hp
  · have hl := hl.symm
    subst hl
    split at hp
    · split at hp
      · rename_i hz
        cases hp
        exact lv_ddiv hx hb hd hz (k H locs lsC hH hP hS hL)
      · cases hp
    · cases hp
  · have hl := hl.symm
    subst hl
    split at hp
    · cases hp
      exact lv_dcmp hx hb hd (W_top (congrArg Value.int (Int32.ofInt_toInt _)) (k H locs lsC hH hP hS hL))
    · cases hp
  · have hl := hl.symm
    subst hl
    split at hp
    · split at hp
      · rename_i hz
        cases hp
        exact lv_dup hx hb hd (by rw [cv_cat]; exact hz) (k H locs lsC hH hP hS hL)
      · cases hp
    · cases hp
  · have hl := hl.symm
    subst hl
    split at hp
    · split at hp
      · rename_i hz
        split at hp
        · rename_i hz2
          cases hp
          exact lv_dup2_11 hx hb hd (by rw [cv_cat]; exact hz) (by rw [cv_cat]; exact hz2) (k H locs lsC hH hP hS hL)
        · cases hp
      · cases hp
    · cases hp
  · have hl := hl.symm
    subst hl
    split at hp
    · split at hp
      · rename_i hz
        cases hp
        exact lv_pop hx hb hd (by rw [cv_cat]; exact hz) (k H locs lsC hH hP hS hL)
      · cases hp
    · cases hp
  · have hl := hl.symm
    subst hl
    split at hp
    · cases hp
      exact lv_ishr hx hb hd (W_top (congrArg Value.int (Int32.ofInt_toInt _)) (k H locs lsC hH hP hS hL))
    · cases hp
  · have hl := hl.symm
    subst hl
    cases hp
    exact lv_ldc hx hb hown (hw2 _ rfl) hd (k H locs lsC hH hP hS hL)
  · cases hp
end X1
