/-! THE INTERPRETER IS SOUND, 5: new objects, references in arrays, the JDK's methods -/
section X5
variable {p : Program} {l : Launch} {e : Env} {R : Room} {s : State} {m : MethodId} {args : Array Value} {below : List Frame} {meth : Method} {c : Code} {Q : State → Prop} {B : Nat} {ra : Nat → Nat} {dA : Nat → ClassId} {D : va_G} {rom : xRom} {d y n0 w0 : Nat}
theorem x_born {pc z q : Nat} {ee : va_E} {ls : xLs} {st : List xV} {h h' : xH} {H1 : Heap} {locs1 : List Loc} {lsC : Array Slot} (hs : s.heap.size = B + n0 + 1) (hn0 : n0 ≤ gN h.1) (hw0 : w0 ≤ gW h.1) (hN : gN h'.1 = gN h.1 + 1) (hW : gW h'.1 = gW h.1 + z)
    (hc : ∀ i, i ≤ gN h.1 → xcont dA B h' i = xcont dA B h i) (he : xcont dA B h' (gN h.1 + 1) = ee) (hP1 : va_P D vwCl (wsx dA B h ++ [(q, ee)]) H1) (hD1 : va_D (XA B) (wsx dA B h ++ [(q, ee)])) (hS1 : va_S (XA B) s.heap H1 locs1) (hL : xhas B ra lsC (xinfo y).2.2.1 ls)
    (kk : xSt p l e R s m args below meth c Q B ra dA D y n0 w0 (pc, ls, vR (gN h.1 + 1) :: st, h')) : W p l e R s m args below meth c H1 locs1 (gN h.1 - n0 + 1) (gW h.1 - w0 + z) Q (F0 m pc lsC (.ref q :: st.map (cv B ra))) := by
  intro T hT X
  have hX := X.heapSize
  rw [hT] at hX
  have hqk : (wsx dA B h ++ [(q, ee)])[gN h.1]? = some (q, ee) := by
    rw [List.getElem?_append_right (by rw [wsx_len]; omega), wsx_len, Nat.sub_self]; rfl
  have hq1 : q < H1.size := (hP1 _ _ hqk).lt
  have hq2 : B < q := hD1.2 _ _ hqk
  have hq3 : ¬ (q < B + gN h.1 + 1) := by
    intro hlt
    have hk := wsx_at (dA := dA) (B := B) (h := h) (r := q - B) (by omega) (by omega)
    have hk2 : (wsx dA B h ++ [(q, ee)])[q - B - 1]? = some (B + (q - B), xcont dA B h (q - B)) := by
      rw [List.getElem?_append_left (by rw [wsx_len]; omega)]; exact hk
    have := hD1.1 _ _ _ _ hk2 hqk (by show B + (q - B) = q; omega)
    omega
  have hq : q = B + (gN h.1 + 1) := by omega
  subst hq
  rw [wsx_push hN hc he] at hP1
  have k2 := kk H1 locs1 lsC (by show H1.size = B + gN h'.1 + 1; omega) hP1 hS1 hL
  have k2 : W p l e R s m args below meth c H1 locs1 (gN h'.1 - n0) (gW h'.1 - w0) Q (F0 m pc lsC (cv B ra (vR (gN h.1 + 1)) :: st.map (cv B ra))) := k2
  rw [hN, hW, cv_r (by omega), show gN h.1 + 1 - n0 = gN h.1 - n0 + 1 by omega, show gW h.1 + z - w0 = gW h.1 - w0 + z by omega] at k2
  exact k2 T hT X
theorem hnew_cong {h : xH} {t z i : Nat} (hi : i ≤ gN h.1) : xcont dA B (hnew h t z) i = xcont dA B h i := by
  have hne : i ≠ gN h.1 + 1 := by omega
  exact xcont_cong (xrow_ne hne) (xrow_ne hne) (xrow_ne hne) (xrow_ne hne)
theorem hnew_T {h : xH} {t z : Nat} : gT (hnew h t z).1 (gN h.1 + 1) = t := xrow_at
theorem hnew_Z {h : xH} {t z : Nat} : gZ (hnew h t z).1 (gN h.1 + 1) = z := xrow_at
theorem hnew_P {h : xH} {t z : Nat} : gP (hnew h t z).1 (gN h.1 + 1) = fun _ => 0 := xrow_at
theorem hnew_M {h : xH} {t z : Nat} : (hnew h t z).2 (gN h.1 + 1) = fun _ => 0 := xrow_at
set_option maxHeartbeats 4000000 in
theorem x_new {pc len i kd ci b wi : Nat} {ls : xLs} {st : List xV} {h : xH} (hC : XC rom B ra dA D d y p R s m args meth c) (hs : s.heap.size = B + n0 + 1) (hn0 : n0 ≤ gN h.1) (hw0 : w0 ≤ gW h.1) (hcl : xclA) (hsq : xsq (xinfo y).1.cls (.new i, len, kd, ci, b, wi) = true) (hd : decode (xinfo y).2.1 pc = .ok (.new i, 3))
    (hc1 : gN h.1 - n0 + 1 ≤ R.cells) (hc2 : gW h.1 - w0 + xnf ci ≤ R.slots)
    (kk : xSt p l e R s m args below meth c Q B ra dA D y n0 w0 (pc + 3, ls, vR (gN h.1 + 1) :: st, hnew h ci (xnf ci))) : xSt p l e R s m args below meth c Q B ra dA D y n0 w0 (pc, ls, st, h) := by
  obtain ⟨hx, hb, hml, hown, hts, hin, hK, hRO, hB, hfr, hlo, hNW⟩ := hC
  intro H locs lsC hH hP hS hL
  unfold xsq at hsq
  dsimp only at hsq
  split at hsq
  · rename_i C T N hc
    simp only [decide_eq_true_eq] at hsq
    obtain ⟨ty, c1, c2, c3, c4, c5, c6, c7, c8, c9⟩ := hcl ci _ hc
    have c2 : N = xnf ci := c2
    have hee : xcont dA B (hnew h ci (xnf ci)) (gN h.1 + 1) = .inr (ci, (List.range N).map (fun k => defaultValue (ty k))) := by
      rw [xcont_obj hnew_T c3]
      unfold xfs
      rw [hnew_T, hnew_P, hnew_M, c2]
      congr 2
      apply List.map_congr_left
      intro k hk
      have hk : k < N := by rw [c2]; exact List.mem_range.mp hk
      unfold xfv
      rcases c6 k hk with c | c | c
      · rw [if_neg (by omega), c.2.1]; rfl
      · rw [if_neg (by omega), c.2.1]; rfl
      · rw [if_pos c.1]
        rcases c.2.1 with ⟨n, hn⟩ | ⟨n, hn⟩ <;> (rw [hn]; rfl)
    refine va_new (ci := ci) (C := C) (T := T) (N := N) hx hb hts c1 ty c4 hown (xtbl_of hts (List.mem_of_getElem? hsq) rfl) (hts _ c7) (hts _ c8) hK hP (wsx_D dA B h) hS (fun q hq => by show B < q; omega) hc (fs := (List.range N).map (fun k => defaultValue (ty k))) (fun j hj => ?_) hc1 (by rw [c2]; exact hc2) hd (fun q H1 hP1 hD1 hS1 => ?_)
    · unfold vp_V
      rw [List.getD_eq_getElem?_getD, List.getElem?_map, List.getElem?_range hj]; rfl
    · rw [c2]
      exact x_born hs hn0 hw0 rfl rfl (fun i hi => hnew_cong hi) hee hP1 hD1 hS1 hL kk
  · cases hsq
theorem xK_uniq {tys : List (ClassId × FieldType)} {cA : ClassId} {ty : FieldType} {k : Nat} {cB : ClassId} (hK1 : va_K D vwCl (tys ++ [(cA, ty)]) s) (hk : tys[k]? = some (cB, ty)) (hr : va_RA s cB ty) : cA = cB := by
  have h1 := (hK1.2 tys.length (cA, ty) (by rw [List.getElem?_append_right (Nat.le_refl _), Nat.sub_self]; rfl)).2
  cases ty with
  | object C =>
    obtain ⟨_, _, _, _, _, a⟩ := h1
    obtain ⟨_, _, _, _, _, b⟩ := hr
    exact Option.some.inj (a.symm.trans b)
  | _ => exact Option.some.inj (Eq.trans (Eq.symm h1) hr)
set_option maxHeartbeats 4000000 in
theorem x_newa {pc len kd ci b wi : Nat} {t : ArrayType} {z : Int} {ls : xLs} {st : List xV} {h : xH} (hC : XC rom B ra dA D d y p R s m args meth c) (hs : s.heap.size = B + n0 + 1) (hn0 : n0 ≤ gN h.1) (hw0 : w0 ≤ gW h.1) (har : xarA) (hsq : xsq (xinfo y).1.cls (.newarray t, len, kd, ci, b, wi) = true) (hd : decode (xinfo y).2.1 pc = .ok (.newarray t, 2))
    (h0 : 0 ≤ wr z) (h1 : wr z < 60000000) (hc1 : gN h.1 - n0 + 1 ≤ R.cells) (hc2 : gW h.1 - w0 + (wr z).toNat ≤ R.slots)
    (kk : xSt p l e R s m args below meth c Q B ra dA D y n0 w0 (pc + 2, ls, vR (gN h.1 + 1) :: st, hnew h ci (wr z).toNat)) : xSt p l e R s m args below meth c Q B ra dA D y n0 w0 (pc, ls, vI z :: st, h) := by
  obtain ⟨hx, hb, hml, hown, hts, hin, hK, hRO, hB, hfr, hlo, hNW⟩ := hC
  intro H locs lsC hH hP hS hL
  unfold xsq at hsq
  simp only [decide_eq_true_eq] at hsq
  have hng : ¬ Int32.ofInt z < 0 := fun q => by have := (xi_lt0 z).mp q; omega
  have hee : ∀ t', ci = t' → 100 ≤ t' → xcont dA B (hnew h ci (wr z).toNat) (gN h.1 + 1) = .inl (dA t', (wr z).toNat, xarr B (hnew h ci (wr z).toNat) (gN h.1 + 1)) := fun t' e1 e2 => by
    rw [xcont_arr (hnew_T.trans e1) e2, hnew_Z]
  rcases hsq with ⟨rfl, rfl⟩ | ⟨rfl, rfl⟩
  · refine va_newa (atype := .int) (ty := .int) (a0 := ((wr z).toNat, .inl (fun _ => 0))) hx hb (hts _ har.1) rfl hK hP (wsx_D dA B h) hS (fun q hq => by show B < q; omega) (fun _ => rfl) hng rfl (by show _ * 4 ≤ _; omega) hc1 hc2 hd (fun q cA H1 hK1 hP1 hD1 hS1 => ?_)
    have e9 := xK_uniq (k := 0) hK1 rfl (hK.2 0 _ rfl).2
    refine x_born hs hn0 hw0 rfl rfl (fun i hi => hnew_cong hi) ?_ hP1 hD1 hS1 hL kk
    rw [hee 100 rfl (by omega), xarr_i (Or.inl hnew_T), hnew_M, e9]; rfl
  · refine va_newa (atype := .char) (ty := .char) (a0 := ((wr z).toNat, .inl (fun _ => 0))) hx hb (hts _ har.2.2.1) rfl hK hP (wsx_D dA B h) hS (fun q hq => by show B < q; omega) (fun _ => rfl) hng rfl (by show _ * 2 ≤ _; omega) hc1 hc2 hd (fun q cA H1 hK1 hP1 hD1 hS1 => ?_)
    have e9 := xK_uniq (k := 2) hK1 rfl (hK.2 2 _ rfl).2
    refine x_born hs hn0 hw0 rfl rfl (fun i hi => hnew_cong hi) ?_ hP1 hD1 hS1 hL kk
    rw [hee 102 rfl (by omega), xarr_i (Or.inr hnew_T), hnew_M, e9]; rfl
set_option maxHeartbeats 4000000 in
theorem x_anew {pc len i kd ci b wi : Nat} {z : Int} {ls : xLs} {st : List xV} {h : xH} (hC : XC rom B ra dA D d y p R s m args meth c) (hs : s.heap.size = B + n0 + 1) (hn0 : n0 ≤ gN h.1) (hw0 : w0 ≤ gW h.1) (har : xarA) (hsq : xsq (xinfo y).1.cls (.anewarray i, len, kd, ci, b, wi) = true) (hd : decode (xinfo y).2.1 pc = .ok (.anewarray i, 3))
    (h0 : 0 ≤ wr z) (h1 : wr z < 60000000) (hc1 : gN h.1 - n0 + 1 ≤ R.cells) (hc2 : gW h.1 - w0 + (wr z).toNat ≤ R.slots)
    (kk : xSt p l e R s m args below meth c Q B ra dA D y n0 w0 (pc + 3, ls, vR (gN h.1 + 1) :: st, hnew h ci (wr z).toNat)) : xSt p l e R s m args below meth c Q B ra dA D y n0 w0 (pc, ls, vI z :: st, h) := by
  obtain ⟨hx, hb, hml, hown, hts, hin, hK, hRO, hB, hfr, hlo, hNW⟩ := hC
  intro H locs lsC hH hP hS hL
  unfold xsq at hsq
  simp only [Bool.or_eq_true, Bool.and_eq_true, decide_eq_true_eq] at hsq
  have hng : ¬ Int32.ofInt z < 0 := fun q => by have := (xi_lt0 z).mp q; omega
  have hee : ∀ t', ci = t' → 100 ≤ t' → xcont dA B (hnew h ci (wr z).toNat) (gN h.1 + 1) = .inl (dA t', (wr z).toNat, xarr B (hnew h ci (wr z).toNat) (gN h.1 + 1)) := fun t' e1 e2 => by
    rw [xcont_arr (hnew_T.trans e1) e2, hnew_Z]
  rcases hsq with ⟨rfl, hw⟩ | ⟨rfl, hw⟩
  · refine va_newq hx hb hown (xtbl_of hts (List.mem_of_getElem? hw) rfl) (hNW _ har.2.2.2.1 rfl) hK hP (wsx_D dA B h) hS (fun q hq => by show B < q; omega) hng rfl (by show (wr z).toNat * 4 ≤ _; omega) hc1 hc2 hd (fun q cA H1 hK1 hP1 hD1 hS1 => ?_)
    have e9 := xK_uniq (k := 3) hK1 rfl (hK.2 3 _ rfl).2
    refine x_born hs hn0 hw0 rfl rfl (fun i hi => hnew_cong hi) ?_ hP1 hD1 hS1 hL kk
    rw [hee 103 rfl (by omega), xarr_q (Or.inl hnew_T), hnew_P, e9]; rfl
  · refine va_newq hx hb hown (xtbl_of hts (List.mem_of_getElem? hw) rfl) (hNW _ har.2.2.2.2 rfl) hK hP (wsx_D dA B h) hS (fun q hq => by show B < q; omega) hng rfl (by show (wr z).toNat * 4 ≤ _; omega) hc1 hc2 hd (fun q cA H1 hK1 hP1 hD1 hS1 => ?_)
    have e9 := xK_uniq (k := 4) hK1 rfl (hK.2 4 _ rfl).2
    refine x_born hs hn0 hw0 rfl rfl (fun i hi => hnew_cong hi) ?_ hP1 hD1 hS1 hL kk
    rw [hee 104 rfl (by omega), xarr_q (Or.inr hnew_T), hnew_P, e9]; rfl
set_option maxHeartbeats 4000000 in
theorem x_aast {pc r v : Nat} {j : Int} {ls : xLs} {st : List xV} {h : xH} (hC : XC rom B ra dA D d y p R s m args meth c) (hs : s.heap.size = B + n0 + 1) (hn0 : n0 ≤ gN h.1) (hcl : xclA)
    (h0 : 0 ≤ wr j) (h1 : wr j < gZ h.1 r) (o1 : 1 ≤ r) (o2 : r ≤ gN h.1) (ho : (gT h.1 r = 103 ∧ xobj h.1 v 7) ∨ (gT h.1 r = 104 ∧ xobj h.1 v 3)) (hd : decode (xinfo y).2.1 pc = .ok (.aastore, 1))
    (kk : xSt p l e R s m args below meth c Q B ra dA D y n0 w0 (pc + 1, ls, st, ((gN h.1, gW h.1, gT h.1, gZ h.1, xset (gP h.1) r (wr j).toNat v), h.2))) : xSt p l e R s m args below meth c Q B ra dA D y n0 w0 (pc, ls, vR v :: vI j :: vR r :: st, h) := by
  obtain ⟨hx, hb, hml, hown, hts, hin, hK, hRO, hB, hfr, hlo, hNW⟩ := hC
  intro H locs lsC hH hP hS hL
  have he := wsx_at (dA := dA) (B := B) (h := h) o1 o2
  generalize hh' : (((gN h.1, gW h.1, gT h.1, gZ h.1, xset (gP h.1) r (wr j).toNat v), h.2) : xH) = h' at kk
  have e1 : gN h'.1 = gN h.1 := by rw [← hh']
  have e2 : gW h'.1 = gW h.1 := by rw [← hh']
  have e3 : gT h'.1 = gT h.1 := by rw [← hh']
  have e4 : gZ h'.1 = gZ h.1 := by rw [← hh']
  have e5 : gP h'.1 = xset (gP h.1) r (wr j).toNat v := by rw [← hh']
  have e6 : h'.2 = h.2 := by rw [← hh']
  have hv0 : v ≠ 0 := by
    rcases ho with ⟨_, o, _⟩ | ⟨_, o, _⟩ <;> omega
  have hup : (fun k => xrefo B (gP h'.1 r k)) = va_up (fun k => xrefo B (gP h.1 r k)) (wr j).toNat (some (B + v)) := by
    funext k
    rw [e5]
    unfold va_up
    by_cases hk : k = (wr j).toNat
    · rw [hk, xset_at, if_pos rfl]; exact if_neg hv0
    · rw [xset_ot hk, if_neg hk]
  have go : ∀ ee, xcont dA B h' r = ee → ∀ (H1 : Heap) (locs1 : List Loc), va_P D vwCl ((wsx dA B h).set (r - 1) (B + r, ee)) H1 → va_D (XA B) ((wsx dA B h).set (r - 1) (B + r, ee)) → va_S (XA B) s.heap H1 locs1 → W p l e R s m args below meth c H1 locs1 (gN h.1 - n0) (gW h.1 - w0) Q (F0 m (pc + 1) lsC (st.map (cv B ra))) := by
    intro ee he H1 locs1 hP1 hD1 hS1
    rw [wsx_set (h' := h') o1 o2 e1 (fun i hi => xcont_cong (by rw [e3]) (by rw [e4]) (by rw [e5, xset_ne hi]) (by rw [e6])) he] at hP1
    have kk := fun hz1 => kk H1 locs1 lsC hz1 hP1 hS1 hL
    dsimp only at kk
    rw [e1, e2] at kk
    refine W_size (h := h') hs (by rw [e1]; exact hn0) hP1 hS1 (fun hz1 => ?_) |> fun q => by rw [e1] at q; exact q
    rw [e1] at hz1 ⊢
    exact kk hz1
  have hc7 : ∃ T N, vwCl[7]? = some ("PedalLayers$Pedal", T, N) := ⟨_, _, rfl⟩
  have hc3 : ∃ T N, vwCl[3]? = some ("PedalLayers$Layer", T, N) := ⟨_, _, rfl⟩
  show W p l e R s m args below meth c H locs _ _ Q (F0 m pc lsC (cv B ra (vR v) :: .int (Int32.ofInt j) :: cv B ra (vR r) :: _))
  rw [cv_r (r := r) (by omega), cv_r hv0]
  rcases ho with ⟨ht, v1, v2, v3⟩ | ⟨ht, v1, v2, v3⟩
  · have hv := wsx_at (dA := dA) (B := B) (h := h) v1 v2
    rw [xcont_obj v3 (by omega)] at hv
    rw [xcont_arr ht (by omega), xarr_q (Or.inl ht)] at he
    obtain ⟨T, N, hc7⟩ := hc7
    refine va_astq hx hb hK hP (wsx_D dA B h) hS (r - 1) 3 (v - 1) 7 he rfl hv hc7 (xi_in h0 h1) hd (go _ ?_)
    rw [xcont_arr (h := h') (t := 103) ((congrFun e3 r).trans ht) (by omega), xarr_q (h := h') (Or.inl ((congrFun e3 r).trans ht)), hup, e4]; rfl
  · have hv := wsx_at (dA := dA) (B := B) (h := h) v1 v2
    rw [xcont_obj v3 (by omega)] at hv
    rw [xcont_arr ht (by omega), xarr_q (Or.inr ht)] at he
    obtain ⟨T, N, hc3⟩ := hc3
    refine va_astq hx hb hK hP (wsx_D dA B h) hS (r - 1) 4 (v - 1) 3 he rfl hv hc3 (xi_in h0 h1) hd (go _ ?_)
    rw [xcont_arr (h := h') (t := 104) ((congrFun e3 r).trans ht) (by omega), xarr_q (h := h') (Or.inr ((congrFun e3 r).trans ht)), hup, e4]; rfl
end X5
