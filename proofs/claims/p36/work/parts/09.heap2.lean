/-! THE INTERPRETER IS SOUND, 4: references put, statics, arrays, new objects -/
section X4
variable {p : Program} {l : Launch} {e : Env} {R : Room} {s : State} {m : MethodId} {args : Array Value} {below : List Frame} {meth : Method} {c : Code} {Q : State → Prop} {B : Nat} {ra : Nat → Nat} {dA : Nat → ClassId} {D : va_G} {rom : xRom} {d y n0 w0 : Nat}
set_option maxHeartbeats 4000000 in
theorem x_putF {pc len i kd ci k wi r v : Nat} {ls : xLs} {st : List xV} {h : xH} (hC : XC rom B ra dA D d y p R s m args meth c) (hs : s.heap.size = B + n0 + 1) (hn0 : n0 ≤ gN h.1) (hcl : xclA) (hM : (xinfo y).2.2.2.2.2.2 < 99 → ∃ T N, vwCl[(xinfo y).2.2.2.2.2.2]? = some ((xinfo y).1.cls, T, N)) (hsq : xsq (xinfo y).1.cls (.putfield i, len, kd, ci, k, wi) = true) (hd : decode (xinfo y).2.1 pc = .ok (.putfield i, 3))
    (ho : xobj h.1 r ci) (hz : xfk ci k = 2 ∧ (xinfo y).2.2.2.2.2.1 = 2 ∧ kd = 0 ∧ (xinfo y).2.2.2.2.2.2 = ci) (kk : xSt p l e R s m args below meth c Q B ra dA D y n0 w0 (pc + 3, ls, st, ((gN h.1, gW h.1, gT h.1, gZ h.1, xset (gP h.1) r k v), h.2))) : xSt p l e R s m args below meth c Q B ra dA D y n0 w0 (pc, ls, vR v :: vR r :: st, h) := by
  obtain ⟨hx, hb, hml, hown, hts, hin, hK, hRO, hB, hfr, hlo, hNW⟩ := hC
  intro H locs lsC hH hP hS hL
  obtain ⟨o1, o2, o3⟩ := ho
  obtain ⟨z1, z2, z3, z4⟩ := hz
  subst z3
  unfold xsq at hsq
  dsimp only at hsq
  split at hsq
  · rename_i C T N hc
    simp only [Bool.and_eq_true, decide_eq_true_eq, if_true] at hsq
    obtain ⟨hk, hw⟩ := hsq
    obtain ⟨ty, c1, c2, c3, c4, c5, c6, c7, c8, c9⟩ := hcl ci _ hc
    have hCn : C = (xinfo y).1.cls := by
      have hci : ci < vwCl.length := (List.getElem?_eq_some_iff.mp hc).1
      have hci : ci < 11 := hci
      obtain ⟨T', N', hm⟩ := hM (by omega)
      rw [z4, hc] at hm
      exact (congrArg (fun q => q.1) (Option.some.inj hm))
    have he := wsx_at (dA := dA) (B := B) (h := h) o1 o2
    rw [xcont_obj o3 c3] at he
    have c6 := (c6 k hk).resolve_left (by omega)
    have c6 := c6.resolve_left (by omega)
    generalize hh' : (((gN h.1, gW h.1, gT h.1, gZ h.1, xset (gP h.1) r k v), h.2) : xH) = h' at kk
    have e1 : gN h'.1 = gN h.1 := by rw [← hh']
    have e2 : gW h'.1 = gW h.1 := by rw [← hh']
    have e3 : gT h'.1 = gT h.1 := by rw [← hh']
    have e4 : gZ h'.1 = gZ h.1 := by rw [← hh']
    have e5 : gP h'.1 = xset (gP h.1) r k v := by rw [← hh']
    have e6 : h'.2 = h.2 := by rw [← hh']
    have hlen : k < (xfs B h r).length := by rw [xfs_len, o3, ← c2]; exact hk
    have hset : (wsx dA B h).set (r - 1) (B + r, .inr (ci, (xfs B h r).set k (cv B ra (vR v)))) = wsx dA B h' := by
      refine wsx_set o1 o2 e1 (fun j hj => xcont_cong (by rw [e3]) (by rw [e4]) (by rw [e5, xset_ne hj]) (by rw [e6])) ?_
      rw [xcont_obj (h := h') (by rw [e3]; exact o3) c3]
      rw [xfs_set (B := B) (h := h) (h' := h') (v := cv B ra (vR v)) (by rw [e3]) (by rw [o3, ← c2]; exact hk) ?_ (fun j hj => ⟨by rw [e5, xset_ot hj], by rw [e6]⟩)]
      rw [e5, e6, xset_at, o3, xfv_cv (ra := ra), if_pos z1]
    have go : ∀ (H1 : Heap) (locs1 : List Loc), va_P D vwCl ((wsx dA B h).set (r - 1) (B + r, .inr (ci, (xfs B h r).set k (cv B ra (vR v))))) H1 → va_D (XA B) ((wsx dA B h).set (r - 1) (B + r, .inr (ci, (xfs B h r).set k (cv B ra (vR v))))) → va_S (XA B) s.heap H1 locs1 → W p l e R s m args below meth c H1 locs1 (gN h.1 - n0) (gW h.1 - w0) Q (F0 m (pc + 3) lsC (st.map (cv B ra))) := by
      intro H1 locs1 hP1 hD1 hS1
      rw [hset] at hP1
      have kk := fun hz1 => kk H1 locs1 lsC hz1 hP1 hS1 hL
      dsimp only at kk
      rw [e1, e2] at kk
      refine W_size (h := h') hs (by rw [e1]; exact hn0) hP1 hS1 (fun hz1 => ?_) |> fun q => by rw [e1] at q; exact q
      rw [e1] at hz1 ⊢
      exact kk hz1
    have hty : narrow (ty k) (cv B ra (vR v)) = cv B ra (vR v) ∧ fits (ty k) (cv B ra (vR v)) = true := by
      by_cases hv : v = 0
      · subst hv
        rw [cv_0]
        rcases c6.2.1 with ⟨n, hn⟩ | ⟨n, hn⟩ <;> (rw [hn]; exact ⟨rfl, rfl⟩)
      · rw [cv_r hv]
        rcases c6.2.1 with ⟨n, hn⟩ | ⟨n, hn⟩ <;> (rw [hn]; exact ⟨rfl, rfl⟩)
    show W p l e R s m args below meth c H locs _ _ Q (F0 m pc lsC (cv B ra (vR v) :: cv B ra (vR r) :: _))
    rw [cv_r (r := r) (by omega)]
    exact va_putF (D := D) (ci := ci) (C := C) (T := T) (N := N) hx hb hts c1 ty c4 c5 hown hK hP (wsx_D dA B h) hS (r - 1) he hc k hk (xtbl_of hts (List.mem_of_getElem? hw) rfl) (fun _ h9 => h9) c6.2.2 (hin z2) ((c9 k hk).trans hCn) (c4 k hk) hty.1 hty.2 hlen hd go
  · cases hsq
theorem x_gets {pc len i kd k b wi : Nat} {ls : xLs} {st : List xV} {h : xH} (hC : XC rom B ra dA D d y p R s m args meth c) (hsq : xsq (xinfo y).1.cls (.getstatic i, len, kd, k, b, wi) = true) (hd : decode (xinfo y).2.1 pc = .ok (.getstatic i, 3))
    (kk : xSt p l e R s m args below meth c Q B ra dA D y n0 w0 (pc + 3, ls, vS k :: st, h)) : xSt p l e R s m args below meth c Q B ra dA D y n0 w0 (pc, ls, st, h) := by
  obtain ⟨hx, hb, hml, hown, hts, hin, hK, hRO, hB, hfr, hlo, hNW⟩ := hC
  intro H locs lsC hH hP hS hL
  unfold xsq at hsq
  simp only [Bool.and_eq_true, decide_eq_true_eq] at hsq
  exact va_gets hx hb (hRO.2 k hsq.1) hS hown (xtbl_of hts (List.mem_of_getElem? hsq.2) rfl) (fun _ h9 => h9) hd (kk H locs lsC hH hP hS hL)
set_option maxHeartbeats 4000000 in
theorem x_ald {pc r : Nat} {j : Int} {ls : xLs} {st : List xV} {h : xH} (hC : XC rom B ra dA D d y p R s m args meth c)
    (h0 : 0 ≤ wr j) (h1 : wr j < gZ h.1 r) (o1 : 1 ≤ r) (o2 : r ≤ gN h.1) {w : xV}
    (hcs : (decode (xinfo y).2.1 pc = .ok (.iaload, 1) ∧ gT h.1 r = 100 ∧ w = vI (h.2 r (wr j).toNat)) ∨ (decode (xinfo y).2.1 pc = .ok (.caload, 1) ∧ gT h.1 r = 102 ∧ w = vI (h.2 r (wr j).toNat)) ∨ (decode (xinfo y).2.1 pc = .ok (.aaload, 1) ∧ (gT h.1 r = 103 ∨ gT h.1 r = 104) ∧ w = vR (gP h.1 r (wr j).toNat)))
    (kk : xSt p l e R s m args below meth c Q B ra dA D y n0 w0 (pc + 1, ls, w :: st, h)) : xSt p l e R s m args below meth c Q B ra dA D y n0 w0 (pc, ls, vI j :: vR r :: st, h) := by
  obtain ⟨hx, hb, hml, hown, hts, hin, hK, hRO, hB, hfr, hlo, hNW⟩ := hC
  intro H locs lsC hH hP hS hL
  have he := wsx_at (dA := dA) (B := B) (h := h) o1 o2
  have kk := kk H locs lsC hH hP hS hL
  show W p l e R s m args below meth c H locs _ _ Q (F0 m pc lsC (.int (Int32.ofInt j) :: cv B ra (vR r) :: _))
  rw [cv_r (by omega)]
  rcases hcs with ⟨hd, ht, rfl⟩ | ⟨hd, ht, rfl⟩ | ⟨hd, ht, rfl⟩
  · rw [xcont_arr ht (by omega), xarr_i (Or.inl ht)] at he
    exact va_iald hx hb hK hP (r - 1) 0 he rfl (xi_in h0 h1) hd kk
  · rw [xcont_arr ht (by omega), xarr_i (Or.inr ht)] at he
    exact va_cald hx hb hK hP (r - 1) 2 he rfl (xi_in h0 h1) hd kk
  · have e9 := xrefo_cv B ra (gP h.1 r (wr j).toNat)
    rcases ht with ht | ht
    · rw [xcont_arr ht (by omega), xarr_q (Or.inl ht)] at he
      exact va_aldq hx hb hK hP (r - 1) 3 he rfl (xi_in h0 h1) hd (W_top e9.symm kk)
    · rw [xcont_arr ht (by omega), xarr_q (Or.inr ht)] at he
      exact va_aldq hx hb hK hP (r - 1) 4 he rfl (xi_in h0 h1) hd (W_top e9.symm kk)
theorem x_ald_rom {pc k : Nat} {j : Int} {ls : xLs} {st : List xV} {h : xH} (hC : XC rom B ra dA D d y p R s m args meth c) (hk : k < 3) (h0 : 0 ≤ wr j) (h1 : wr j < (rom k).1) (hd : decode (xinfo y).2.1 pc = .ok (.iaload, 1))
    (kk : xSt p l e R s m args below meth c Q B ra dA D y n0 w0 (pc + 1, ls, vI ((rom k).2 (wr j).toNat) :: st, h)) : xSt p l e R s m args below meth c Q B ra dA D y n0 w0 (pc, ls, vI j :: vS k :: st, h) := by
  obtain ⟨hx, hb, hml, hown, hts, hin, hK, hRO, hB, hfr, hlo, hNW⟩ := hC
  intro H locs lsC hH hP hS hL
  exact va_ti hx hb (hRO.1 k hk) hS (xi_in h0 h1) rfl hd (kk H locs lsC hH hP hS hL)
theorem x_alen {pc r : Nat} {ls : xLs} {st : List xV} {h : xH} (hC : XC rom B ra dA D d y p R s m args meth c) (o1 : 1 ≤ r) (o2 : r ≤ gN h.1) (o3 : 100 ≤ gT h.1 r) (o4 : gT h.1 r < 105) (hd : decode (xinfo y).2.1 pc = .ok (.arraylength, 1))
    (kk : xSt p l e R s m args below meth c Q B ra dA D y n0 w0 (pc + 1, ls, vI (gZ h.1 r) :: st, h)) : xSt p l e R s m args below meth c Q B ra dA D y n0 w0 (pc, ls, vR r :: st, h) := by
  obtain ⟨hx, hb, hml, hown, hts, hin, hK, hRO, hB, hfr, hlo, hNW⟩ := hC
  intro H locs lsC hH hP hS hL
  have he := wsx_at (dA := dA) (B := B) (h := h) o1 o2
  rw [xcont_arr rfl o3] at he
  show W p l e R s m args below meth c H locs _ _ Q (F0 m pc lsC (cv B ra (vR r) :: _))
  rw [cv_r (by omega)]
  have ht : ∃ (t : Nat) (ty : FieldType), (xtys dA)[t]? = some (dA (gT h.1 r), ty) := by
    rcases (show gT h.1 r = 100 ∨ gT h.1 r = 101 ∨ gT h.1 r = 102 ∨ gT h.1 r = 103 ∨ gT h.1 r = 104 by omega) with q | q | q | q | q <;> rw [q]
    · exact ⟨0, _, rfl⟩
    · exact ⟨1, _, rfl⟩
    · exact ⟨2, _, rfl⟩
    · exact ⟨3, _, rfl⟩
    · exact ⟨4, _, rfl⟩
  obtain ⟨t, ty, ht⟩ := ht
  exact va_alen hx hb hK hP (r - 1) t he ht (xi_nat _) hd (kk H locs lsC hH hP hS hL)
theorem x_alen_rom {pc k : Nat} {ls : xLs} {st : List xV} {h : xH} (hC : XC rom B ra dA D d y p R s m args meth c) (hk : k < 3) (hd : decode (xinfo y).2.1 pc = .ok (.arraylength, 1))
    (kk : xSt p l e R s m args below meth c Q B ra dA D y n0 w0 (pc + 1, ls, vI (rom k).1 :: st, h)) : xSt p l e R s m args below meth c Q B ra dA D y n0 w0 (pc, ls, vS k :: st, h) := by
  obtain ⟨hx, hb, hml, hown, hts, hin, hK, hRO, hB, hfr, hlo, hNW⟩ := hC
  intro H locs lsC hH hP hS hL
  exact va_tlen hx hb (hRO.1 k hk) hS (xi_nat _) hd (kk H locs lsC hH hP hS hL)
set_option maxHeartbeats 4000000 in
theorem x_ast {pc r : Nat} {j z : Int} {w : xV} {ls : xLs} {st : List xV} {h : xH} (hC : XC rom B ra dA D d y p R s m args meth c) (hs : s.heap.size = B + n0 + 1) (hn0 : n0 ≤ gN h.1)
    (h0 : 0 ≤ wr j) (h1 : wr j < gZ h.1 r) (o1 : 1 ≤ r) (o2 : r ≤ gN h.1)
    (hcs : (decode (xinfo y).2.1 pc = .ok (.iastore, 1) ∧ gT h.1 r = 100 ∧ w = vI z) ∨ (decode (xinfo y).2.1 pc = .ok (.castore, 1) ∧ gT h.1 r = 102 ∧ w = vI z ∧ 0 ≤ wr z ∧ wr z < 65536))
    (kk : xSt p l e R s m args below meth c Q B ra dA D y n0 w0 (pc + 1, ls, st, (h.1, xset h.2 r (wr j).toNat z))) : xSt p l e R s m args below meth c Q B ra dA D y n0 w0 (pc, ls, w :: vI j :: vR r :: st, h) := by
  obtain ⟨hx, hb, hml, hown, hts, hin, hK, hRO, hB, hfr, hlo, hNW⟩ := hC
  intro H locs lsC hH hP hS hL
  have he := wsx_at (dA := dA) (B := B) (h := h) o1 o2
  have hset : ∀ ee, xcont dA B (h.1, xset h.2 r (wr j).toNat z) r = ee → (wsx dA B h).set (r - 1) (B + r, ee) = wsx dA B (h.1, xset h.2 r (wr j).toNat z) := fun ee he => wsx_set o1 o2 rfl (fun i hi => xcont_cong rfl rfl rfl (xset_ne hi)) he
  have go : ∀ ee, xcont dA B (h.1, xset h.2 r (wr j).toNat z) r = ee → ∀ (H1 : Heap) (locs1 : List Loc), va_P D vwCl ((wsx dA B h).set (r - 1) (B + r, ee)) H1 → va_D (XA B) ((wsx dA B h).set (r - 1) (B + r, ee)) → va_S (XA B) s.heap H1 locs1 → W p l e R s m args below meth c H1 locs1 (gN h.1 - n0) (gW h.1 - w0) Q (F0 m (pc + 1) lsC (st.map (cv B ra))) := by
    intro ee he H1 locs1 hP1 hD1 hS1
    rw [hset ee he] at hP1
    exact W_size (h := (h.1, xset h.2 r (wr j).toNat z)) hs hn0 hP1 hS1 (fun hz1 => kk H1 locs1 lsC hz1 hP1 hS1 hL)
  rcases hcs with ⟨hd, ht, rfl⟩ | ⟨hd, ht, rfl, z0, z1⟩
  · show W p l e R s m args below meth c H locs _ _ Q (F0 m pc lsC (.int (Int32.ofInt z) :: .int (Int32.ofInt j) :: cv B ra (vR r) :: _))
    rw [cv_r (by omega)]
    rw [xcont_arr ht (by omega), xarr_i (Or.inl ht)] at he
    refine va_iast hx hb hK hP (wsx_D dA B h) hS (r - 1) 0 he rfl (xi_in h0 h1) hd (go _ ?_)
    rw [xcont_arr (h := (h.1, xset h.2 r (wr j).toNat z)) ht (by omega), xarr_i (h := (h.1, xset h.2 r (wr j).toNat z)) (Or.inl ht)]
    show Sum.inl (_, _, Sum.inl (fun k => Int32.ofInt (xset h.2 r (wr j).toNat z r k))) = _
    rw [xset_row]; rfl
  · show W p l e R s m args below meth c H locs _ _ Q (F0 m pc lsC (.int (Int32.ofInt z) :: .int (Int32.ofInt j) :: cv B ra (vR r) :: _))
    rw [cv_r (by omega)]
    rw [xcont_arr ht (by omega), xarr_i (Or.inr ht)] at he
    refine va_cast hx hb hK hP (wsx_D dA B h) hS (r - 1) 2 he rfl (xi_in h0 h1) hd (go _ ?_)
    rw [xcont_arr (h := (h.1, xset h.2 r (wr j).toNat z)) ht (by omega), xarr_i (h := (h.1, xset h.2 r (wr j).toNat z)) (Or.inr ht)]
    show Sum.inl (_, _, Sum.inl (fun k => Int32.ofInt (xset h.2 r (wr j).toNat z r k))) = _
    rw [xset_row]
    have e9 : vp_nar .char (Int32.ofInt z) = Int32.ofInt z := by
      rw [vp_nar_char]
      have e8 := xi_i2c z
      rw [Int.emod_eq_of_lt z0 z1, xi_wr] at e8
      exact e8
    rw [e9]; rfl
end X4
