/-! THE LAW'S START: the machine's words give the interpreter's world -/
section WS
theorem st_arr {s : State} {args : Array Value} {ty : FieldType} (h : (Cond.arrayClass ty).before args s = true) (hn : ∀ C, ty ≠ .object C) : ∃ cA : ClassId, ArrOfT s cA ty ∧ va_RA s cA ty := by
  obtain ⟨cA, kA, comp, h1, h2, h3⟩ := Cond.arrayClass_spec h
  refine ⟨cA, fun n z => ⟨fun k h => (by cases h), kA, h2, comp, h3⟩, ?_⟩
  cases ty with
  | object C => exact absurd rfl (hn C)
  | _ => exact h1
theorem st_arq {s : State} {args : Array Value} {C : String} (h : (Cond.arrayOver (.object C)).before args s = true) : ∃ cA : ClassId, ArrOfT s cA (.object C) ∧ va_RA s cA (.object C) := by
  obtain ⟨comp, cA, kA, f1, f0, f2, f3, f4⟩ := Cond.arrayOver_spec h
  exact ⟨cA, fun N z => ⟨(fun k h => by cases h), kA, f2, comp, f3⟩, kA, comp, f2, f3, f1, f4⟩
theorem st_K {s : State} {args : Array Value} (hA : xAll) (hts : ∀ w ∈ lw_tbl, w.before args s = true) : ∃ (D : va_G) (dA : Nat → ClassId), va_K D vwCl (xtys dA) s := by
  have hx : ∀ w ∈ xtbl, w.before args s = true := fun w hw => hts w (List.mem_filter.mp hw).1
  have hk : ∀ c : Nat, ∃ z : ClassId × (Nat → Nat), ∀ q : vw_C, vwCl[c]? = some q → u_Kn s q.1 q.2.1 q.2.2 z.1 z.2 := by
    intro c
    cases e : vwCl[c]? with
    | none => exact ⟨((0 : Nat), fun _ => 0), fun q hq => by cases hq⟩
    | some q =>
      obtain ⟨ty, h⟩ := hA.1 c q e
      obtain ⟨cC, iS, hu⟩ := u_known hx h.1 (hx _ h.2.2.2.2.2.2.1)
      exact ⟨(cC, iS), fun q' hq => by cases hq; exact hu⟩
  obtain ⟨f, hf⟩ := Classical.axiomOfChoice hk
  obtain ⟨a1, a2, a3, a4, a5⟩ := hA.2.1
  obtain ⟨c1, k1⟩ := st_arr (hx _ a1) (fun C h => by cases h)
  obtain ⟨c2, k2⟩ := st_arr (hx _ a2) (fun C h => by cases h)
  obtain ⟨c3, k3⟩ := st_arr (hx _ a3) (fun C h => by cases h)
  obtain ⟨c4, k4⟩ := st_arq (hts _ a4)
  obtain ⟨c5, k5⟩ := st_arq (hts _ a5)
  refine ⟨(fun c => (f c).1, fun c => (f c).2), fun k => if k = 100 then c1 else if k = 101 then c2 else if k = 102 then c3 else if k = 103 then c4 else c5, fun c q hq => hf c q hq, ?_⟩
  intro k q hq
  match k, hq with
  | 0, hq => cases hq; exact k1
  | 1, hq => cases hq; exact k2
  | 2, hq => cases hq; exact k3
  | 3, hq => cases hq; exact k4
  | 4, hq => cases hq; exact k5
  | k + 5, hq => cases hq
theorem st_NW {s : State} {args : Array Value} (hts : ∀ w ∈ lw_tbl, w.before args s = true) : xNW s := by
  intro w hw hn
  have h := hts w hw
  cases w <;> first | (cases hn; done) | exact va_Nw.of rfl h | (rename_i ty; cases ty <;> first | (cases hn; done) | exact va_AO.of h)
theorem st_T {s : State} {args : Array Value} {B : Nat} {n : String} {z0 z1 z2 : Int32} (f : Nat → Int) (e0 : Int32.ofInt (f 0) = z0) (e1 : Int32.ofInt (f 1) = z1) (e2 : Int32.ofInt (f 2) = z2)
    (ha : (Cond.arrayOf (.static "PedalLayers" n "[I") .int).before args s = true) (hl : (Cond.eq (.length (.static "PedalLayers" n "[I")) (.int 3)).before args s = true) (h0 : (Cond.eq (.elem (.static "PedalLayers" n "[I") (.int 0)) (.int z0)).before args s = true) (h1 : (Cond.eq (.elem (.static "PedalLayers" n "[I") (.int 1)) (.int z1)).before args s = true) (h2 : (Cond.eq (.elem (.static "PedalLayers" n "[I") (.int 2)) (.int z2)).before args s = true)
    (hs : (Cond.laysStatic "PedalLayers" n "[I").before args s = true) (hi : (Cond.initialized "PedalLayers").before args s = true) (hB : s.heap.size = B + 1) : ∃ t : Nat, va_T .int t 3 (fun j => .int (Int32.ofInt (f j))) (XA B) s s.heap ∧ va_Z "PedalLayers" n "[I" (.ref t) (XA B) s s.heap := by
  have hA : ∀ a : Nat, a < s.heap.size → ¬ XA B a := fun a ha q => by
    have q : B < a := q
    omega
  obtain ⟨t, ht, hT⟩ := va_Tof (A := XA B) (N := 3) (f := fun j => .int (Int32.ofInt (f j))) (by decide) ha (va_eqt hl) (fun j hj => by
    rcases (show j = 0 ∨ j = 1 ∨ j = 2 by omega) with z | z | z
    · subst z; rw [e0]; exact va_eqt h0
    · subst z; rw [e1]; exact va_eqt h1
    · subst z; rw [e2]; exact va_eqt h2) hA
  exact ⟨t, hT, va_Zof hs hi ht hA⟩
end WS
