/-! THE INTERPRETER IS SOUND, 8: the dispatched calls; the whole -/
section X8
variable {p : Program} {l : Launch} {e : Env} {R : Room} {s : State} {m : MethodId} {args : Array Value} {below : List Frame} {meth : Method} {c : Code} {Q : State → Prop} {B : Nat} {ra : Nat → Nat} {dA : Nat → ClassId} {D : va_G} {rom : xRom} {d y n0 w0 : Nat}
set_option maxHeartbeats 4000000 in
theorem x_disp {pc len a b wi i y' : Nat} {ls : xLs} {st as rest : List xV} {h h1 : xH} {v : Option xV} (hC : XC rom B ra dA D (d + 1) y p R s m args meth c) (hs : s.heap.size = B + n0 + 1) (hn0 : n0 ≤ gN h.1) (hw0 : w0 ≤ gW h.1) (hN : gN h.1 ≤ gN h1.1) (hW : gW h.1 ≤ gW h1.1) (hc1 : gN h1.1 - n0 ≤ R.cells) (hc2 : gW h1.1 - w0 ≤ R.slots)
    (hmA : ∀ y, y < 221 → xmP y) (hds : xdsA) (hsq : xsq (xinfo y).1.cls (.invokevirtual i, len, 11, a, b, wi) = true) (hd : decode (xinfo y).2.1 pc = .ok (.invokevirtual i, 3))
    (hp : xdisp (.invokevirtual i, len, 11, a, b, wi) st h = some (.inr (.inr (y', as, rest)))) (hM : xMet l rom B ra dA D d y' as h v h1)
    (kk : xSt p l e R s m args below meth c Q B ra dA D y n0 w0 (pc + 3, ls, v.toList ++ rest, h1)) : xSt p l e R s m args below meth c Q B ra dA D y n0 w0 (pc, ls, st, h) := by
  obtain ⟨hx, hb, hml, hown, hts, hin, hK, hRO, hB, hfr, hlo, hNW⟩ := hC
  intro H locs lsC hH hP hS hL
  have hsz := xhas_size hL
  have hfix : CallFix p m c (xinfo y).2.1 (xinfo y).2.2.1 s args xtbl (xinfo y).1.cls := ⟨hx, hb, hml, hown, hts⟩
  have hfin : ∀ (H1 : Heap) (locs1 : List Loc), va_P D vwCl (wsx dA B h1) H1 → va_S (XA B) s.heap H1 locs1 → W p l e R s m args below meth c H1 locs1 (gN h.1 - n0 + (gN h1.1 - gN h.1)) (gW h.1 - w0 + (gW h1.1 - gW h.1)) Q (F0 m (pc + 3) lsC ((v.map (cv B ra)).toList ++ rest.map (cv B ra))) := by
    intro H1 locs1 hP1 hS1
    rw [show gN h.1 - n0 + (gN h1.1 - gN h.1) = gN h1.1 - n0 by omega, show gW h.1 - w0 + (gW h1.1 - gW h.1) = gW h1.1 - w0 by omega]
    refine W_size hs (by omega) hP1 hS1 (fun hz1 => ?_)
    have k9 := kk H1 locs1 lsC hz1 hP1 hS1 hL
    have e9 : (v.toList ++ rest).map (cv B ra) = (v.map (cv B ra)).toList ++ rest.map (cv B ra) := by
      rw [List.map_append]; cases v <;> rfl
    dsimp only at k9
    rw [e9] at k9
    exact k9
  have hroom : gN h.1 - n0 + (gN h1.1 - gN h.1) ≤ R.cells ∧ gW h.1 - w0 + (gW h1.1 - gW h.1) ≤ R.slots := by omega
  unfold xsq at hsq
  simp only [if_true, Bool.and_eq_true, decide_eq_true_eq] at hsq
  obtain ⟨ha2, hlk⟩ := hsq
  have key : ∀ (t y9 r : Nat), xobj h.1 r t → st[2 - a]? = some (vR r) → xinv y9 (2 - a + 1) st = some (.inr (.inr (y', as, rest))) → ((a = 0 ∧ t = 5 ∧ y9 = 40) ∨ (a = 0 ∧ t = 9 ∧ y9 = 93) ∨ (a = 1 ∧ t = 5 ∧ y9 = 42) ∨ (a = 1 ∧ t = 9 ∧ y9 = 95)) → W p l e R s m args below meth c H locs (gN h.1 - n0) (gW h.1 - w0) Q (F0 m pc lsC (st.map (cv B ra))) := by
    intro t y9 r ho hst hi hcase
    obtain ⟨g1, g2, g3, g4, g5, g6, g7, -⟩ := hds a t y9 hcase
    obtain ⟨rfl, rfl, rfl, b1, b2, b3⟩ := xinv_inv hi
    obtain ⟨m1, m2, m3, m4, m5, m6, m7, m8, m9, m10, m11, m12⟩ := hmA y' g7
    obtain ⟨o1, o2, o3⟩ := ho
    obtain ⟨t1, t2⟩ := xtake_recv hst
    obtain ⟨T, N, hcc⟩ := m12 (m11 g6)
    rw [g5] at hcc
    have he := wsx_at (dA := dA) (B := B) (h := h) o1 o2
    rw [xcont_obj o3 (by omega)] at he
    have hrc := va_recv hK hP hcc he
    have hpre : PreV s H (xinfo y').1.cls (B + r) (xPc rom B ra dA D ((st.take (2 - a + 1)).reverse) h) (((st.take (2 - a)).reverse).map (cv B ra)) := by
      refine ⟨xPc_blind, hrc, ?_⟩
      have e9 : Value.ref (B + r) :: ((st.take (2 - a)).reverse).map (cv B ra) = ((st.take (2 - a + 1)).reverse).map (cv B ra) := by
        rw [t1, List.map_cons, cv_r (by omega)]
      rw [e9]
      exact xPc_at hK hRO hNW hH hP hS
    have hstk : st.map (cv B ra) = (((st.take (2 - a)).reverse).map (cv B ra)).reverse ++ .ref (B + r) :: (st.drop (2 - a + 1)).map (cv B ra) := by
      conv => lhs; rw [t2]
      rw [List.map_append, List.map_cons, cv_r (by omega), List.map_reverse, List.reverse_reverse]
    have hnn : (((st.take (2 - a)).reverse).map (cv B ra)).length = 2 - a := by
      rw [List.length_map, List.length_reverse, List.length_take]; omega
    have hww : 2 * (F0 m pc lsC (st.map (cv B ra))).monitorRoom + (((st.drop (2 - a + 1)).map (cv B ra)).map fun v => v.category).sum ≤ 8 := by
      rw [cv_cats]; show 2 * 0 + _ ≤ 8; omega
    have hR2 : (xrm d (gN h1.1 - gN h.1) (gW h1.1 - gW h.1)).frames + 1 ≤ R.frames ∧ 8 + ((xinfo y').2.2.1 + 11) + (xrm d (gN h1.1 - gN h.1) (gW h1.1 - gW h.1)).locals ≤ R.locals := by
      show d + 1 ≤ R.frames ∧ 8 + ((xinfo y').2.2.1 + 11) + 36 * d ≤ R.locals
      omega
    refine x_after (va_runU hfix hM (va_cwA (x := xdy a) (owner := "PedalLayers$Reading") (2 - a) hts (fun w hw => ?_) rfl rfl rfl (hNW _ g3 rfl) ⟨by decide, by decide, g4⟩ hR2) hpre rfl hnn hsz hstk hww hd hroom) hS hfin
    rcases List.mem_append.mp hw with hw | hw
    · rcases List.mem_cons.mp hw with rfl | hw
      · exact xgood1 (List.mem_of_getElem? hlk) rfl
      · rcases List.mem_cons.mp hw with rfl | hw
        · exact xgood1 g1 rfl
        · rcases List.mem_cons.mp hw with rfl | hw
          · exact xgood1 g2 rfl
          · rcases List.mem_cons.mp hw with rfl | hw
            · exact xgood1 (m5 (by omega)) rfl
            · rcases List.mem_cons.mp hw with rfl | hw
              · exact xgood1 m3 rfl
              · cases hw
    · exact xgoodIn m2 w hw
  unfold xdisp at hp
  dsimp only at hp
  split at hp
  · split at hp
    · rename_i ho
      exact key 5 40 _ ho rfl hp (Or.inl ⟨rfl, rfl, rfl⟩)
    · split at hp
      · rename_i ho
        exact key 9 93 _ ho rfl hp (Or.inr (Or.inl ⟨rfl, rfl, rfl⟩))
      · cases hp
  · split at hp
    · rename_i ho
      exact key 5 42 _ ho rfl hp (Or.inr (Or.inr (Or.inl ⟨rfl, rfl, rfl⟩)))
    · split at hp
      · rename_i ho
        exact key 9 95 _ ho rfl hp (Or.inr (Or.inr (Or.inr ⟨rfl, rfl, rfl⟩)))
      · cases hp
  · cases hp
/-- all that the tables say -/
def xAll : Prop := xclA ∧ xarA ∧ xjdA ∧ xdsA ∧ (∀ y, y < 222 → xckP y) ∧ ∀ y, y < 221 → xmP y
theorem xcode_ok {y pc : Nat} {q : xQ} (hA : xAll) (h : xcode y pc = some q) : y < 222 ∧ decode (xinfo y).2.1 pc = .ok (q.1, q.2.1) ∧ (xlen q.1 = 0 ∨ xlen q.1 = q.2.1) ∧ xsq (xinfo y).1.cls q = true := by
  have hy : y < 222 := by
    rcases Nat.lt_or_ge y 222 with z | z
    · exact z
    · have hl : xkall.length ≤ y := Nat.le_trans (by decide +kernel) z
      unfold xcode at h
      rw [List.getD_eq_getElem?_getD, List.getD_eq_getElem?_getD, List.getElem?_eq_none hl] at h
      cases h
  have h1 := hA.2.2.2.2.1 y hy pc
  have h : (xkall.getD y []).getD pc none = some q := h
  rw [h] at h1
  unfold xchk at h1
  simp only [Bool.and_eq_true, Bool.or_eq_true, decide_eq_true_eq] at h1
  exact ⟨hy, h1.1.1, h1.1.2, h1.2⟩
end X8
