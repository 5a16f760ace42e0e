/-! THE INTERPRETER IS SOUND, 3: objects and arrays -/
def xclP (ci : Nat) (q : vw_C) (ty : Nat → FieldType) : Prop := (∀ w ∈ u_ws q.1 q.2.1 q.2.2, w ∈ xtbl) ∧ q.2.2 = xnf ci ∧ ci < 100 ∧ (∀ k, k < q.2.2 → parseFieldDescriptor (q.2.1 k).2.2.1 = some (ty k)) ∧ (∀ a, a < q.2.2 → ∀ b, b < q.2.2 → a ≠ b → (q.2.1 a).2.1 ≠ (q.2.1 b).2.1) ∧
  (∀ k, k < q.2.2 → (xfk ci k = 0 ∧ ty k = .int ∧ (q.2.1 k).2.2.2 = false) ∨ (xfk ci k = 1 ∧ ty k = .boolean ∧ (q.2.1 k).2.2.2 = false) ∨ (xfk ci k = 2 ∧ ((∃ n, ty k = .object n) ∨ ∃ t, ty k = .array t) ∧ (q.2.1 k).2.2.2 = true)) ∧ Cond.instantiable q.1 q.2.2 ∈ xtbl ∧ Cond.initialized q.1 ∈ xtbl ∧ ∀ k, k < q.2.2 → (q.2.1 k).1 = q.1
def xclA : Prop := ∀ ci q, vwCl[ci]? = some q → ∃ ty, xclP ci q ty
/-- the arrays' classes are there -/
def xarA : Prop := Cond.arrayClass .int ∈ xtbl ∧ Cond.arrayClass .int ∈ xtbl ∧ Cond.arrayClass .char ∈ xtbl ∧ Cond.arrayOver (.object "PedalLayers$Pedal") ∈ lw_tbl ∧ Cond.arrayOver (.object "PedalLayers$Layer") ∈ lw_tbl
section X3
variable {p : Program} {l : Launch} {e : Env} {R : Room} {s : State} {m : MethodId} {args : Array Value} {below : List Frame} {meth : Method} {c : Code} {Q : State → Prop} {B : Nat} {ra : Nat → Nat} {dA : Nat → ClassId} {D : va_G} {rom : xRom} {d y n0 w0 : Nat}
theorem W_size {H : Heap} {locs : List Loc} {slots : Nat} {h : xH} {g : JFrame} (hs : s.heap.size = B + n0 + 1) (hn : n0 ≤ gN h.1) (hP : va_P D vwCl (wsx dA B h) H) (hS : va_S (XA B) s.heap H locs)
    (k : H.size = B + gN h.1 + 1 → W p l e R s m args below meth c H locs (gN h.1 - n0) slots Q g) : W p l e R s m args below meth c H locs (gN h.1 - n0) slots Q g := by
  intro T hT X
  have h1 := X.heapSize
  rw [hT] at h1
  have h2 : B + gN h.1 + 1 ≤ H.size := by
    by_cases z : gN h.1 = 0
    · have := hS.1; omega
    · have := (hP _ _ (wsx_at (dA := dA) (B := B) (h := h) (r := gN h.1) (by omega) (Nat.le_refl _))).lt
      have this : B + gN h.1 < H.size := this
      omega
  exact k (by omega) T hT X
theorem xcont_obj {h : xH} {r ci : Nat} (h1 : gT h.1 r = ci) (h2 : ci < 100) : xcont dA B h r = .inr (ci, xfs B h r) := by
  subst h1; exact if_pos h2
theorem xcont_arr {h : xH} {r t : Nat} (h1 : gT h.1 r = t) (h2 : 100 ≤ t) : xcont dA B h r = .inl (dA t, gZ h.1 r, xarr B h r) := by
  subst h1; exact if_neg (by omega)
theorem xarr_i {h : xH} {r : Nat} (h1 : gT h.1 r = 100 ∨ gT h.1 r = 102) : xarr B h r = .inl (fun j => Int32.ofInt (h.2 r j)) := by
  unfold xarr; rw [if_neg (by omega), if_neg (by omega)]
theorem xarr_l {h : xH} {r : Nat} (h1 : gT h.1 r = 101) : xarr B h r = .inr (.inl (fun j => Int64.ofInt (h.2 r j))) := by
  unfold xarr; rw [if_pos h1]
theorem xarr_q {h : xH} {r : Nat} (h1 : gT h.1 r = 103 ∨ gT h.1 r = 104) : xarr B h r = .inr (.inr (.inr (.inr (fun j => xrefo B (gP h.1 r j))))) := by
  unfold xarr; rw [if_neg (by omega), if_pos h1]
theorem xfs_len (h : xH) (r : Nat) : (xfs B h r).length = xnf (gT h.1 r) := by
  unfold xfs; rw [List.length_map, List.length_range]
theorem xfs_get {h : xH} {r k : Nat} (hk : k < xnf (gT h.1 r)) : (xfs B h r)[k]? = some (xfv B (gT h.1 r) k (gP h.1 r k) (h.2 r k)) := by
  unfold xfs; rw [List.getElem?_map, List.getElem?_range hk]; rfl
theorem xfs_set {h h' : xH} {r k : Nat} {v : Value} (ht : gT h'.1 r = gT h.1 r) (hk : k < xnf (gT h.1 r)) (he : xfv B (gT h.1 r) k (gP h'.1 r k) (h'.2 r k) = v) (ho : ∀ j, j ≠ k → gP h'.1 r j = gP h.1 r j ∧ h'.2 r j = h.2 r j) : (xfs B h r).set k v = xfs B h' r := by
  apply List.ext_getElem?
  intro j
  by_cases hj : j = k
  · subst hj
    rw [List.getElem?_set_self (by rw [xfs_len]; exact hk), xfs_get (by rw [ht]; exact hk), ht, he]
  · rw [List.getElem?_set_ne (Ne.symm hj)]
    by_cases hl : j < xnf (gT h.1 r)
    · rw [xfs_get hl, xfs_get (by rw [ht]; exact hl), ht, (ho j hj).1, (ho j hj).2]
    · rw [List.getElem?_eq_none (by rw [xfs_len]; omega), List.getElem?_eq_none (by rw [xfs_len, ht]; omega)]
theorem xcont_cong {h h' : xH} {r : Nat} (h1 : gT h'.1 r = gT h.1 r) (h2 : gZ h'.1 r = gZ h.1 r) (h3 : gP h'.1 r = gP h.1 r) (h4 : h'.2 r = h.2 r) : xcont dA B h' r = xcont dA B h r := by
  unfold xcont xfs xarr; rw [h1, h2, h3, h4]
theorem xset_ne {α : Type} {M : Nat → Nat → α} {r j i : Nat} {v : α} (h : i ≠ r) : xset M r j v i = M i := by
  funext b; unfold xset; rw [if_neg (fun q => h q.1)]
theorem xset_at {α : Type} {M : Nat → Nat → α} {r j : Nat} {v : α} : xset M r j v r j = v := by unfold xset; rw [if_pos ⟨rfl, rfl⟩]
theorem xset_ot {α : Type} {M : Nat → Nat → α} {r j k : Nat} {v : α} (h : k ≠ j) : xset M r j v r k = M r k := by unfold xset; rw [if_neg (fun q => h q.2)]
theorem xrow_ne {α : Type} {M : Nat → α} {r i : Nat} {f : α} (h : i ≠ r) : xrow M r f i = M i := if_neg h
theorem xrow_at {α : Type} {M : Nat → α} {r : Nat} {f : α} : xrow M r f r = f := if_pos rfl
theorem xset_row {M : Nat → Nat → Int} {r j : Nat} {v : Int} : (fun k => Int32.ofInt (xset M r j v r k)) = upd (fun k => Int32.ofInt (M r k)) j (Int32.ofInt v) := by
  funext k; unfold xset upd
  by_cases hk : k = j
  · rw [if_pos ⟨rfl, hk⟩, if_pos hk]
  · rw [if_neg (fun q => hk q.2), if_neg hk]
theorem xset_rowL {M : Nat → Nat → Int} {r j : Nat} {v : Int} : (fun k => Int64.ofInt (xset M r j v r k)) = vp_updL (fun k => Int64.ofInt (M r k)) j (Int64.ofInt v) := by
  funext k; unfold xset vp_updL
  by_cases hk : k = j
  · rw [if_pos ⟨rfl, hk⟩, if_pos hk]
  · rw [if_neg (fun q => hk q.2), if_neg hk]
theorem xfv_cv {ci k r : Nat} {z : Int} : xfv B ci k r z = cv B ra (if xfk ci k = 2 then vR r else vI z) := by
  unfold xfv
  split
  · exact xrefo_cv B ra r
  · rfl
theorem xmem {wi : Nat} {w : Cond} {b : Bool} (h : decide (lw_tbl[wi]? = some w) = true) : w ∈ lw_tbl := List.mem_of_getElem? (of_decide_eq_true h)
set_option maxHeartbeats 4000000 in
theorem x_get {pc len i kd ci k wi r : Nat} {ls : xLs} {st : List xV} {h : xH} (hC : XC rom B ra dA D d y p R s m args meth c) (hcl : xclA) (hsq : xsq (xinfo y).1.cls (.getfield i, len, kd, ci, k, wi) = true) (hd : decode (xinfo y).2.1 pc = .ok (.getfield i, 3))
    (ho : xobj h.1 r ci) (kk : xSt p l e R s m args below meth c Q B ra dA D y n0 w0 (pc + 3, ls, (if xfk ci k = 2 then vR (gP h.1 r k) else vI (h.2 r k)) :: st, h)) : xSt p l e R s m args below meth c Q B ra dA D y n0 w0 (pc, ls, vR r :: st, h) := by
  obtain ⟨hx, hb, hml, hown, hts, hin, hK, hRO, hB, hfr, hlo, hNW⟩ := hC
  intro H locs lsC hH hP hS hL
  obtain ⟨o1, o2, o3⟩ := ho
  unfold xsq at hsq
  dsimp only at hsq
  split at hsq
  · rename_i C T N hc
    simp only [Bool.and_eq_true, decide_eq_true_eq] at hsq
    obtain ⟨hk, hw⟩ := hsq
    obtain ⟨ty, c1, c2, c3, c4, c5, c6, c7, c8, c9⟩ := hcl ci _ hc
    have he := wsx_at (dA := dA) (B := B) (h := h) o1 o2
    rw [xcont_obj o3 c3] at he
    have hg : (xfs B h r)[k]? = some (xfv B (gT h.1 r) k (gP h.1 r k) (h.2 r k)) := xfs_get (by rw [o3, ← c2]; exact hk)
    rw [o3, xfv_cv (ra := ra)] at hg
    have kk := kk H locs lsC hH hP hS hL
    show W p l e R s m args below meth c H locs _ _ Q (F0 m pc lsC (cv B ra (vR r) :: _))
    rw [cv_r (by omega)]
    split at hw
    · exact va_get (D := D) (ci := ci) (C := C) (T := T) (N := N) hx hb hts c1 hown hK hP (r - 1) he hc k hk (xtbl_of hts (List.mem_of_getElem? (of_decide_eq_true hw)) rfl) (fun _ h9 => h9) hg hd kk
    · exact va_getN (D := D) (ci := ci) (C := C) (T := T) (N := N) hx hb hts c1 hown hK hP (r - 1) he hc k hk (hNW.use (List.mem_of_getElem? (of_decide_eq_true hw)) rfl) (fun _ h9 => h9) hg hd kk
  · cases hsq
set_option maxHeartbeats 4000000 in
theorem x_put {pc len i kd ci k wi r : Nat} {z : Int} {ls : xLs} {st : List xV} {h : xH} (hC : XC rom B ra dA D d y p R s m args meth c) (hs : s.heap.size = B + n0 + 1) (hn0 : n0 ≤ gN h.1) (hcl : xclA) (hsq : xsq (xinfo y).1.cls (.putfield i, len, kd, ci, k, wi) = true) (hd : decode (xinfo y).2.1 pc = .ok (.putfield i, 3))
    (ho : xobj h.1 r ci) (hz : xfk ci k = 0 ∨ (xfk ci k = 1 ∧ (wr z = 0 ∨ wr z = 1))) (kk : xSt p l e R s m args below meth c Q B ra dA D y n0 w0 (pc + 3, ls, st, (h.1, xset h.2 r k z))) : xSt p l e R s m args below meth c Q B ra dA D y n0 w0 (pc, ls, vI z :: vR r :: st, h) := by
  obtain ⟨hx, hb, hml, hown, hts, hin, hK, hRO, hB, hfr, hlo, hNW⟩ := hC
  intro H locs lsC hH hP hS hL
  obtain ⟨o1, o2, o3⟩ := ho
  unfold xsq at hsq
  dsimp only at hsq
  split at hsq
  · rename_i C T N hc
    simp only [Bool.and_eq_true, decide_eq_true_eq] at hsq
    obtain ⟨hk, hw⟩ := hsq
    obtain ⟨ty, c1, c2, c3, c4, c5, c6, c7, c8, c9⟩ := hcl ci _ hc
    have he := wsx_at (dA := dA) (B := B) (h := h) o1 o2
    rw [xcont_obj o3 c3] at he
    have c6 := c6 k hk
    have hfin : (T k).2.2.2 = false := by
      rcases c6 with c6 | c6 | c6
      · exact c6.2.2
      · exact c6.2.2
      · omega
    have hty : narrow (ty k) (.int (Int32.ofInt z)) = .int (Int32.ofInt z) ∧ fits (ty k) (.int (Int32.ofInt z)) = true := by
      rcases c6 with c6 | c6 | c6
      · rw [c6.2.1]; exact ⟨rfl, rfl⟩
      · rw [c6.2.1]
        have hz := hz.resolve_left (by omega)
        rcases hz.2 with z0 | z0
        · rw [show Int32.ofInt z = 0 from (xi_eq0 z).mpr z0]; exact ⟨rfl, rfl⟩
        · rw [show Int32.ofInt z = 1 from Int32.toInt_inj.mp z0]; exact ⟨rfl, rfl⟩
      · omega
    have hlen : k < (xfs B h r).length := by rw [xfs_len, o3, ← c2]; exact hk
    have hset : (wsx dA B h).set (r - 1) (B + r, .inr (ci, (xfs B h r).set k (.int (Int32.ofInt z)))) = wsx dA B (h.1, xset h.2 r k z) := by
      refine wsx_set o1 o2 rfl (fun j hj => xcont_cong rfl rfl rfl (xset_ne hj)) ?_
      rw [xcont_obj (h := (h.1, xset h.2 r k z)) o3 c3]
      rw [xfs_set (B := B) (h := h) (h' := (h.1, xset h.2 r k z)) (v := .int (Int32.ofInt z)) rfl (by rw [o3, ← c2]; exact hk) ?_ (fun j hj => ⟨rfl, xset_ot hj⟩)]
      show xfv B (gT h.1 r) k (gP h.1 r k) (xset h.2 r k z r k) = _
      rw [xset_at, o3]
      unfold xfv
      rw [if_neg (by omega)]
    have go : ∀ (H1 : Heap) (locs1 : List Loc), va_P D vwCl ((wsx dA B h).set (r - 1) (B + r, .inr (ci, (xfs B h r).set k (.int (Int32.ofInt z))))) H1 → va_D (XA B) ((wsx dA B h).set (r - 1) (B + r, .inr (ci, (xfs B h r).set k (.int (Int32.ofInt z))))) → va_S (XA B) s.heap H1 locs1 → W p l e R s m args below meth c H1 locs1 (gN h.1 - n0) (gW h.1 - w0) Q (F0 m (pc + 3) lsC (st.map (cv B ra))) := by
      intro H1 locs1 hP1 hD1 hS1
      rw [hset] at hP1
      exact W_size (h := (h.1, xset h.2 r k z)) hs hn0 hP1 hS1 (fun hz1 => kk H1 locs1 lsC hz1 hP1 hS1 hL)
    show W p l e R s m args below meth c H locs _ _ Q (F0 m pc lsC (.int (Int32.ofInt z) :: cv B ra (vR r) :: _))
    rw [cv_r (by omega)]
    split at hw
    · exact va_put (D := D) (ci := ci) (C := C) (T := T) (N := N) hx hb hts c1 ty c4 c5 hown hK hP (wsx_D dA B h) hS (r - 1) he hc k hk (xtbl_of hts (List.mem_of_getElem? (of_decide_eq_true hw)) rfl) (fun _ h9 => h9) hfin (c4 k hk) hty.1 hty.2 hlen hd go
    · exact va_putN (D := D) (ci := ci) (C := C) (T := T) (N := N) hx hb hts c1 ty c4 c5 hown hK hP (wsx_D dA B h) hS (r - 1) he hc k hk (hNW.use (List.mem_of_getElem? (of_decide_eq_true hw)) rfl) (fun _ h9 => h9) hfin (c4 k hk) hty.1 hty.2 hlen hd go
  · cases hsq
end X3
