/-! the interpreter's numbers and objects, and the machine's -/
theorem xi_lt (x y : Int) : Int32.ofInt x < Int32.ofInt y ↔ wr x < wr y := Int32.lt_iff_toInt_lt
theorem xi_le (x y : Int) : Int32.ofInt x ≤ Int32.ofInt y ↔ wr x ≤ wr y := Int32.le_iff_toInt_le
theorem xi_eq (x y : Int) : Int32.ofInt x = Int32.ofInt y ↔ wr x = wr y := Int32.toInt_inj.symm
theorem xi_lt0 (x : Int) : Int32.ofInt x < 0 ↔ wr x < 0 := Int32.lt_iff_toInt_lt
theorem xi_le0 (x : Int) : Int32.ofInt x ≤ 0 ↔ wr x ≤ 0 := Int32.le_iff_toInt_le
theorem xi_0le (x : Int) : 0 ≤ Int32.ofInt x ↔ 0 ≤ wr x := Int32.le_iff_toInt_le
theorem xi_0lt (x : Int) : 0 < Int32.ofInt x ↔ 0 < wr x := Int32.lt_iff_toInt_lt
theorem xi_eq0 (x : Int) : Int32.ofInt x = 0 ↔ wr x = 0 := by
  rw [← Int32.toInt_inj]; rfl
theorem xi_wr (x : Int) : Int32.ofInt (wr x) = Int32.ofInt x := Int32.ofInt_toInt _
theorem xi_wl (x : Int) : Int64.ofInt (wl x) = Int64.ofInt x := Int64.ofInt_toInt _
theorem xi_div (x y : Int) : Int32.ofInt ((wr x).tdiv (wr y)) = Int32.ofInt x / Int32.ofInt y := by
  apply Int32.toInt_inj.mp
  rw [Int32.toInt_div, Int32.toInt_ofInt]; rfl
theorem xi_mod (x y : Int) : Int32.ofInt ((wr x).tmod (wr y)) = Int32.ofInt x - Int32.ofInt x / Int32.ofInt y * Int32.ofInt y := by
  rw [Int.tmod_def, Int32.ofInt_sub, Int32.ofInt_mul, xi_div, xi_wr, xi_wr, Int32.mul_comm]
theorem xl_div (x y : Int) : Int64.ofInt ((wl x).tdiv (wl y)) = Int64.ofInt x / Int64.ofInt y := by
  apply Int64.toInt_inj.mp
  rw [Int64.toInt_div, Int64.toInt_ofInt]; rfl
theorem xl_mod (x y : Int) : Int64.ofInt ((wl x).tmod (wl y)) = Int64.ofInt x - Int64.ofInt x / Int64.ofInt y * Int64.ofInt y := by
  rw [Int.tmod_def, Int64.ofInt_sub, Int64.ofInt_mul, xl_div, xi_wl, xi_wl, Int64.mul_comm]
theorem xl_eq0 (x : Int) : Int64.ofInt x = 0 ↔ wl x = 0 := by
  rw [← Int64.toInt_inj]; rfl
theorem xl_lt (x y : Int) : Int64.ofInt x < Int64.ofInt y ↔ wl x < wl y := Int64.lt_iff_toInt_lt
theorem xl_eq (x y : Int) : Int64.ofInt x = Int64.ofInt y ↔ wl x = wl y := Int64.toInt_inj.symm
theorem xi_i2l (x : Int) : (Int32.ofInt x).toInt64 = Int64.ofInt (wr x) := by
  apply Int64.toInt_inj.mp
  rw [Int32.toInt_toInt64]
  have h1 : -2 ^ 31 ≤ (Int32.ofInt x).toInt := Int32.le_toInt _
  have h2 : (Int32.ofInt x).toInt < 2 ^ 31 := Int32.toInt_lt _
  exact (Int64.toInt_ofInt_of_le (by omega) (by omega)).symm
theorem wr_rng (x : Int) : -2147483648 ≤ wr x ∧ wr x < 2147483648 := ⟨Int32.le_toInt _, Int32.toInt_lt _⟩
theorem wl_rng (x : Int) : -9223372036854775808 ≤ wl x ∧ wl x < 9223372036854775808 := ⟨Int64.le_toInt _, Int64.toInt_lt _⟩
theorem wr_id {x : Int} (h1 : -2147483648 ≤ x) (h2 : x < 2147483648) : wr x = x := Int32.toInt_ofInt_of_le (by omega) (by omega)
theorem wl_id {x : Int} (h1 : -9223372036854775808 ≤ x) (h2 : x < 9223372036854775808) : wl x = x := Int64.toInt_ofInt_of_le (by omega) (by omega)
theorem wr_wr (x : Int) : wr (wr x) = wr x := wr_id (wr_rng x).1 (wr_rng x).2
theorem wr_eq (x : Int) : wr x = x.bmod 4294967296 := Int32.toInt_ofInt
theorem xi_i2c (x : Int) : ((Int32.ofInt x).toUInt32 % 65536).toInt32 = Int32.ofInt (wr x % 65536) := by
  rw [pk_char]
  have h : (wr x % 65536) = (((Int32.ofInt x).toBitVec.toNat % 65536 : Nat) : Int) := by
    have e : wr x = (Int32.ofInt x).toBitVec.toInt := rfl
    rw [e, BitVec.toInt_eq_toNat_bmod]
    generalize (Int32.ofInt x).toBitVec.toNat = n
    rw [Int.bmod_def]
    split <;> omega
  rw [h, Int32.ofInt_eq_ofNat]; rfl
theorem xi_in {j : Int} {n : Nat} (h0 : 0 ≤ wr j) (h1 : wr j < n) : vp_in (Int32.ofInt j) n := vp_in_iff.mpr ⟨h0, h1⟩
theorem xi_cl (j : Int) : (Int32.ofInt j).toNatClampNeg = (wr j).toNat := rfl
theorem xi_nat (n : Nat) : Int32.ofNat n = Int32.ofInt (n : Int) := Int32.ofInt_eq_ofNat.symm
/-! values -/
def cv (B : Nat) (ra : Nat → Nat) : xV → Value
  | .inl z => .int (Int32.ofInt z)
  | .inr (.inl z) => .long (Int64.ofInt z)
  | .inr (.inr (.inl r)) => if r = 0 then .null else .ref (B + r)
  | .inr (.inr (.inr (.inl k))) => .ref (ra k)
  | .inr (.inr (.inr (.inr d))) => .double d
theorem cv_r {B : Nat} {ra : Nat → Nat} {r : Nat} (h : r ≠ 0) : cv B ra (vR r) = .ref (B + r) := if_neg h
theorem cv_0 {B : Nat} {ra : Nat → Nat} : cv B ra (vR 0) = .null := rfl
theorem cv_cat (B : Nat) (ra : Nat → Nat) (v : xV) : (cv B ra v).category = xcat v := by
  match v with
  | .inl z => rfl
  | .inr (.inl z) => rfl
  | .inr (.inr (.inl r)) =>
    show (if r = 0 then Value.null else Value.ref (B + r)).category = 1
    split <;> rfl
  | .inr (.inr (.inr (.inl k))) => rfl
  | .inr (.inr (.inr (.inr d))) => rfl
theorem cv_cats (B : Nat) (ra : Nat → Nat) (l : List xV) : ((l.map (cv B ra)).map fun v => v.category).sum = (l.map xcat).sum := by
  rw [List.map_map]; congr 1; apply List.map_congr_left; intro v _; exact cv_cat B ra v
def xrefo (B r : Nat) : Option Nat := if r = 0 then none else some (B + r)
theorem xrefo_cv (B : Nat) (ra : Nat → Nat) (r : Nat) : va_rf (xrefo B r) = cv B ra (vR r) := by
  show va_rf (if r = 0 then none else some (B + r)) = if r = 0 then Value.null else Value.ref (B + r)
  split <;> rfl
def xfv (B ci k r : Nat) (m : Int) : Value := if xfk ci k = 2 then va_rf (xrefo B r) else .int (Int32.ofInt m)
def xfs (B : Nat) (h : xH) (r : Nat) : List Value := (List.range (xnf (gT h.1 r))).map (fun k => xfv B (gT h.1 r) k (gP h.1 r k) (h.2 r k))
def xarr (B : Nat) (h : xH) (r : Nat) : (Nat → Int32) ⊕ (Nat → Int64) ⊕ (Nat → UInt32) ⊕ (Nat → UInt64) ⊕ (Nat → Option Nat) :=
  if gT h.1 r = 101 then .inr (.inl fun j => Int64.ofInt (h.2 r j)) else if gT h.1 r = 103 ∨ gT h.1 r = 104 then .inr (.inr (.inr (.inr fun j => xrefo B (gP h.1 r j)))) else .inl (fun j => Int32.ofInt (h.2 r j))
def xcont (dA : Nat → ClassId) (B : Nat) (h : xH) (r : Nat) : va_E :=
  if gT h.1 r < 100 then .inr (gT h.1 r, xfs B h r) else .inl (dA (gT h.1 r), gZ h.1 r, xarr B h r)
def wsx (dA : Nat → ClassId) (B : Nat) (h : xH) : va_W := (List.range (gN h.1)).map (fun i => (B + (i + 1), xcont dA B h (i + 1)))
theorem wsx_at {dA : Nat → ClassId} {B : Nat} {h : xH} {r : Nat} (h1 : 1 ≤ r) (h2 : r ≤ gN h.1) : (wsx dA B h)[r - 1]? = some (B + r, xcont dA B h r) := by
  unfold wsx
  rw [List.getElem?_map, List.getElem?_range (by omega), Option.map_some, show r - 1 + 1 = r by omega]
theorem wsx_inv {dA : Nat → ClassId} {B : Nat} {h : xH} {k : Nat} {q : Nat × va_E} (hq : (wsx dA B h)[k]? = some q) : k < gN h.1 ∧ q = (B + (k + 1), xcont dA B h (k + 1)) := by
  unfold wsx at hq
  rw [List.getElem?_map] at hq
  cases hk : (List.range (gN h.1))[k]? with
  | none => rw [hk] at hq; cases hq
  | some i =>
    rw [hk] at hq
    obtain ⟨hlt, he⟩ := List.getElem?_eq_some_iff.mp hk
    rw [List.getElem_range] at he
    subst he
    exact ⟨by simpa using hlt, (Option.some.inj hq).symm⟩
theorem wsx_D (dA : Nat → ClassId) (B : Nat) (h : xH) : va_D (fun q => B < q) (wsx dA B h) := by
  refine ⟨fun i j p q hi hj he => ?_, fun k q hk => ?_⟩
  · rw [(wsx_inv hi).2, (wsx_inv hj).2] at he
    have he : B + (i + 1) = B + (j + 1) := he
    omega
  · rw [(wsx_inv hk).2]
    show B < B + (k + 1)
    omega
theorem wsx_len (dA : Nat → ClassId) (B : Nat) (h : xH) : (wsx dA B h).length = gN h.1 := by
  unfold wsx; rw [List.length_map, List.length_range]
theorem wsx_set {dA : Nat → ClassId} {B : Nat} {h h' : xH} {r : Nat} {e : va_E} (h1 : 1 ≤ r) (h2 : r ≤ gN h.1) (hn : gN h'.1 = gN h.1) (hs : ∀ i, i ≠ r → xcont dA B h' i = xcont dA B h i) (he : xcont dA B h' r = e) : (wsx dA B h).set (r - 1) (B + r, e) = wsx dA B h' := by
  apply List.ext_getElem?
  intro k
  by_cases hk : k = r - 1
  · subst hk
    rw [List.getElem?_set_self (by rw [wsx_len]; omega), wsx_at h1 (by omega), he]
  · rw [List.getElem?_set_ne (Ne.symm hk)]
    by_cases hl : k < gN h.1
    · have a := wsx_at (dA := dA) (B := B) (h := h) (r := k + 1) (by omega) (by omega)
      have b := wsx_at (dA := dA) (B := B) (h := h') (r := k + 1) (by omega) (by omega)
      rw [show k + 1 - 1 = k by omega] at a b
      rw [a, b, hs (k + 1) (by omega)]
    · rw [List.getElem?_eq_none (by rw [wsx_len]; omega), List.getElem?_eq_none (by rw [wsx_len]; omega)]
theorem wsx_push {dA : Nat → ClassId} {B : Nat} {h h' : xH} {e : va_E} (hn : gN h'.1 = gN h.1 + 1) (hs : ∀ i, i ≤ gN h.1 → xcont dA B h' i = xcont dA B h i) (he : xcont dA B h' (gN h.1 + 1) = e) : wsx dA B h ++ [(B + (gN h.1 + 1), e)] = wsx dA B h' := by
  apply List.ext_getElem?
  intro k
  by_cases hl : k < gN h.1
  · rw [List.getElem?_append_left (by rw [wsx_len]; exact hl)]
    have a := wsx_at (dA := dA) (B := B) (h := h) (r := k + 1) (by omega) (by omega)
    have b := wsx_at (dA := dA) (B := B) (h := h') (r := k + 1) (by omega) (by omega)
    rw [show k + 1 - 1 = k by omega] at a b
    rw [a, b, hs (k + 1) (by omega)]
  · rw [List.getElem?_append_right (by rw [wsx_len]; omega), wsx_len]
    by_cases hk : k = gN h.1
    · subst hk
      have b := wsx_at (dA := dA) (B := B) (h := h') (r := gN h.1 + 1) (by omega) (by omega)
      rw [show gN h.1 + 1 - 1 = gN h.1 by omega] at b
      rw [Nat.sub_self, b, he]; rfl
    · rw [List.getElem?_eq_none (by show 1 ≤ _; omega), List.getElem?_eq_none (by rw [wsx_len]; omega)]
/-! locals -/
def xhas (B : Nat) (ra : Nat → Nat) (lsC : Array Slot) (nL : Nat) (ls : xLs) : Prop := ls.length = nL ∧ ∃ l, lv_has lsC nL l ∧ ∀ k v, ls.getD k none = some v → (k, cv B ra v) ∈ l
theorem xhas_get {B : Nat} {ra : Nat → Nat} {lsC : Array Slot} {nL : Nat} {ls : xLs} {k : Nat} {v : xV} (h : xhas B ra lsC nL ls) (hk : ls.getD k none = some v) : lsC[k]? = some (.val (cv B ra v)) := by
  obtain ⟨-, l, h1, h2⟩ := h
  exact h1.2.2 _ (h2 k v hk)
theorem xgetD_set (ls : xLs) (i k : Nat) (o : Option xV) : (ls.set i o).getD k none = if k = i ∧ i < ls.length then o else ls.getD k none := by
  rw [List.getD_eq_getElem?_getD, List.getD_eq_getElem?_getD]
  by_cases h : k = i
  · subst h
    by_cases hl : k < ls.length
    · rw [List.getElem?_set_self hl, if_pos ⟨rfl, hl⟩]; rfl
    · rw [if_neg (fun q => hl q.2), List.getElem?_eq_none (by rw [List.length_set]; omega), List.getElem?_eq_none (by omega)]
  · rw [List.getElem?_set_ne (Ne.symm h), if_neg (fun q => h q.1)]
theorem xclr_len (ls : xLs) (k : Nat) : (xclr ls k).length = ls.length := by
  cases k with
  | zero => rfl
  | succ k =>
    show (match ls.getD k none with | some v => if xcat v = 2 then ls.set k none else ls | none => ls).length = _
    split
    · split
      · rw [List.length_set]
      · rfl
    · rfl
theorem xclr_get {ls : xLs} {i k : Nat} {v : xV} (h : (xclr ls i).getD k none = some v) : ls.getD k none = some v ∧ ¬ (k + 1 = i ∧ xcat v = 2) := by
  cases i with
  | zero => exact ⟨h, fun q => by omega⟩
  | succ i =>
    have h9 : (match ls.getD i none with | some v => if xcat v = 2 then ls.set i none else ls | none => ls).getD k none = some v := h
    clear h
    revert h9; intro h
    split at h
    · rename_i w hw
      split at h
      · rename_i hc
        rw [xgetD_set] at h
        split at h
        · cases h
        · rename_i hn
          refine ⟨h, fun q => hn ⟨by omega, ?_⟩⟩
          rcases Nat.lt_or_ge i ls.length with z | z
          · exact z
          · rw [List.getD_eq_getElem?_getD, List.getElem?_eq_none z] at hw; cases hw
      · rename_i hc
        refine ⟨h, fun q => ?_⟩
        have : k = i := by omega
        subst this
        rw [h] at hw; cases hw; exact hc q.2
    · rename_i hw
      refine ⟨h, fun q => ?_⟩
      have : k = i := by omega
      subst this
      rw [h] at hw; cases hw
theorem xhas_sto1 {B : Nat} {ra : Nat → Nat} {nL : Nat} {ls : xLs} {i : Nat} {v : xV} {l : List (Nat × Value)} {lsC' : Array Slot} (hc : xcat v = 1) (hi : i < nL) (hn : ls.length = nL) (h2 : ∀ k v, ls.getD k none = some v → (k, cv B ra v) ∈ l)
    (h : lv_has lsC' nL ((i, cv B ra v) :: l.filter (fun q => !(q.1 == i) && !(q.1 + 1 == i && q.2.category == 2)))) : xhas B ra lsC' nL (xsto ls i v) := by
  have e : xsto ls i v = (xclr ls i).set i (some v) := by unfold xsto; rw [if_neg (by omega)]
  refine ⟨by rw [e, List.length_set, xclr_len]; exact hn, _, h, fun k w hk => ?_⟩
  rw [e, xgetD_set] at hk
  split at hk
  · rename_i q
    cases hk
    rw [q.1]
    exact List.mem_cons_self
  · rename_i q
    have hki : k ≠ i := fun z => q ⟨z, by rw [xclr_len]; omega⟩
    obtain ⟨a, b⟩ := xclr_get hk
    refine List.mem_cons_of_mem _ (List.mem_filter.mpr ⟨h2 k w a, ?_⟩)
    simp only [Bool.and_eq_true, Bool.not_eq_true', beq_eq_false_iff_ne, ne_eq, Bool.and_eq_false_iff, cv_cat]
    refine ⟨hki, ?_⟩
    by_cases z : k + 1 = i
    · exact Or.inr (fun y => b ⟨z, y⟩)
    · exact Or.inl z
theorem xhas_sto2 {B : Nat} {ra : Nat → Nat} {nL : Nat} {ls : xLs} {i : Nat} {v : xV} {l : List (Nat × Value)} {lsC' : Array Slot} (hc : xcat v = 2) (hi : i + 1 < nL) (hn : ls.length = nL) (h2 : ∀ k v, ls.getD k none = some v → (k, cv B ra v) ∈ l)
    (h : lv_has lsC' nL ((i, cv B ra v) :: l.filter (fun q => !(q.1 == i) && (!(q.1 == i + 1) && !(q.1 + 1 == i && q.2.category == 2))))) : xhas B ra lsC' nL (xsto ls i v) := by
  have e : xsto ls i v = ((xclr ls i).set i (some v)).set (i + 1) none := by unfold xsto; rw [if_pos hc]
  refine ⟨by rw [e, List.length_set, List.length_set, xclr_len]; exact hn, _, h, fun k w hk => ?_⟩
  rw [e, xgetD_set] at hk
  split at hk
  · cases hk
  · rename_i q2
    have hk2 : k ≠ i + 1 := fun z => q2 ⟨z, by rw [List.length_set, xclr_len]; omega⟩
    rw [xgetD_set] at hk
    split at hk
    · rename_i q
      cases hk
      rw [q.1]
      exact List.mem_cons_self
    · rename_i q
      have hki : k ≠ i := fun z => q ⟨z, by rw [xclr_len]; omega⟩
      obtain ⟨a, b⟩ := xclr_get hk
      refine List.mem_cons_of_mem _ (List.mem_filter.mpr ⟨h2 k w a, ?_⟩)
      simp only [Bool.and_eq_true, Bool.not_eq_true', beq_eq_false_iff_ne, ne_eq, Bool.and_eq_false_iff, cv_cat]
      refine ⟨hki, hk2, ?_⟩
      by_cases z : k + 1 = i
      · exact Or.inr (fun y => b ⟨z, y⟩)
      · exact Or.inl z
theorem xhas_inc {B : Nat} {ra : Nat → Nat} {nL : Nat} {ls : xLs} {i : Nat} {x z : Int} {lsC lsC' : Array Slot} {l : List (Nat × Value)} (hi : i < nL) (hn : ls.length = nL) (hl0 : lv_has lsC nL l) (h2 : ∀ k v, ls.getD k none = some v → (k, cv B ra v) ∈ l) (hk0 : ls.getD i none = some (vI x))
    (h : lv_has lsC' nL ((i, cv B ra (vI z)) :: l.filter (fun q => !(q.1 == i) && !(q.1 + 1 == i && q.2.category == 2)))) : xhas B ra lsC' nL (ls.set i (some (vI z))) := by
  refine ⟨by rw [List.length_set]; exact hn, _, h, fun k w hk => ?_⟩
  rw [xgetD_set] at hk
  split at hk
  · rename_i q
    cases hk
    rw [q.1]
    exact List.mem_cons_self
  · rename_i q
    have hki : k ≠ i := fun z => q ⟨z, by omega⟩
    refine List.mem_cons_of_mem _ (List.mem_filter.mpr ⟨h2 k w hk, ?_⟩)
    simp only [Bool.and_eq_true, Bool.not_eq_true', beq_eq_false_iff_ne, ne_eq, Bool.and_eq_false_iff, cv_cat]
    refine ⟨hki, ?_⟩
    by_cases zz : k + 1 = i
    · refine Or.inr (fun y => ?_)
      have a := hl0.2.2 _ (h2 k w hk)
      have b := hl0.2.1.1 k _ a (by rw [cv_cat]; exact y)
      have c := hl0.2.2 _ (h2 i _ hk0)
      rw [zz] at b
      have c : lsC[i]? = some (.val (cv B ra (vI x))) := c
      rw [b] at c
      cases c
    · exact Or.inl zz
