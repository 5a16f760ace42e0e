/-! THE INTERPRETER IS SOUND, 7: calls -/
def xPc (rom : xRom) (B : Nat) (ra : Nat → Nat) (dA : Nat → ClassId) (D : va_G) (as : List xV) (h : xH) : Array Value → State → Prop := fun v U => v = (as.map (cv B ra)).toArray ∧ U.heap.size = B + gN h.1 + 1 ∧ va_P D vwCl (wsx dA B h) U.heap ∧ va_K D vwCl (xtys dA) U ∧ xRO B ra rom U U.heap ∧ xNW U
def xQc (B : Nat) (ra : Nat → Nat) (dA : Nat → ClassId) (D : va_G) (v : Option xV) (h' : xH) : Array Value → State → Outcome → State → Prop := fun _ st o t => o = .returned (v.map (cv B ra)) ∧ va_P D vwCl (wsx dA B h') t.heap ∧ va_F (XA B) st t
def xws (y : Nat) : List Cond := Cond.code (xinfo y).1 (xinfo y).2.1 (xinfo y).2.2.1 (xinfo y).2.2.2.1 :: xtbl
def xrm (d cc ss : Nat) : Room := { frames := d, cells := cc, slots := ss, locals := 36 * d }
def xMet (l : Launch) (rom : xRom) (B : Nat) (ra : Nat → Nat) (dA : Nat → ClassId) (D : va_G) (d y : Nat) (as : List xV) (h : xH) (v : Option xV) (h' : xH) : Prop :=
  Met l (xinfo y).1 (xws y) (xrm d (gN h'.1 - gN h.1) (gW h'.1 - gW h.1)) (xPc rom B ra dA D as h) (xQc B ra dA D v h') (gN h'.1 - gN h.1) (gW h'.1 - gW h.1) (XA B)
/-- the words of the two dispatched methods -/
def xdsA : Prop := True
section X7
variable {p : Program} {l : Launch} {e : Env} {R : Room} {s : State} {m : MethodId} {args : Array Value} {below : List Frame} {meth : Method} {c : Code} {Q : State → Prop} {B : Nat} {ra : Nat → Nat} {dA : Nat → ClassId} {D : va_G} {rom : xRom} {d y n0 w0 : Nat}
theorem xRO.to {U : State} {H : Heap} {locs : List Loc} (h : xRO B ra rom s s.heap) (hS : va_S (XA B) s.heap H locs) (hv : s.vm.Alike U.vm) : xRO B ra rom U H :=
  ⟨fun k hk => ((h.1 k hk).kept (fun a h1 h2 => hS.2.1 a h1 h2)).moved hv, fun k hk => ((h.2 k hk).kept (fun a h1 h2 => hS.2.1 a h1 h2)).moved hv⟩
theorem xPc_blind {as : List xV} {h : xH} : FrameBlind (xPc rom B ra dA D as h) := by
  intro a U g mk q
  obtain ⟨q0, q1, q2, q3, q4, q5⟩ := q
  exact ⟨q0, q1, q2, va_K.moved (u := U) (U := U.calling g mk a) (Vm.Alike.refl U.vm) q3, ⟨fun k hk => (q4.1 k hk).moved (U := U.calling g mk a) (Vm.Alike.refl U.vm), fun k hk => (q4.2 k hk).moved (U := U.calling g mk a) (Vm.Alike.refl U.vm)⟩, xNW.same (u := U) (U := U.calling g mk a) rfl q5⟩
theorem xPc_at {as : List xV} {h : xH} {H : Heap} {locs : List Loc} (hK : va_K D vwCl (xtys dA) s) (hRO : xRO B ra rom s s.heap) (hNW : xNW s) (hH : H.size = B + gN h.1 + 1) (hP : va_P D vwCl (wsx dA B h) H) (hS : va_S (XA B) s.heap H locs) : ∀ U : State, U.heap = H → s.WarmedH U.vm → xPc rom B ra dA D as h (as.map (cv B ra)).toArray U :=
  fun U hU hW => ⟨rfl, by rw [hU]; exact hH, by rw [hU]; exact hP, va_K.moved hW.alike hK, by rw [hU]; exact hRO.to hS hW.alike, xNW.warm hW hNW⟩
theorem xgoodIn {y : Nat} (hm : Cond.code (xinfo y).1 (xinfo y).2.1 (xinfo y).2.2.1 (xinfo y).2.2.2.1 ∈ lw_tbl) : GoodIn xtbl (xws y) := by
  intro w hw
  rcases List.mem_cons.mp hw with rfl | hw
  · exact ⟨List.mem_filter.mpr ⟨hm, rfl⟩, good_of_word rfl⟩
  · exact ⟨hw, good_of_word (List.mem_filter.mp hw).2⟩
theorem xgood1 {w : Cond} (h1 : w ∈ lw_tbl) (h2 : goodWord w = true) : w ∈ xtbl ∧ ((w.onTables && w.keeps) = true ∨ ∃ ty, w = .arrayClass ty) := ⟨List.mem_filter.mpr ⟨h1, h2⟩, good_of_word h2⟩
theorem x_after {pc mc ms cells slots : Nat} {lsC : Array Slot} {st0 rest : List Value} {H : Heap} {locs : List Loc} {v : Option xV} {h1 : xH} {a : Array Value} (hr : va_Run p l e R s m args below meth c H locs cells slots mc ms (F0 m pc lsC st0) rest (xQc B ra dA D v h1 a) (XA B)) (hS : va_S (XA B) s.heap H locs)
    (kk : ∀ (H1 : Heap) (locs1 : List Loc), va_P D vwCl (wsx dA B h1) H1 → va_S (XA B) s.heap H1 locs1 → W p l e R s m args below meth c H1 locs1 (cells + mc) (slots + ms) Q (F0 m (pc + 3) lsC ((v.map (cv B ra)).toList ++ rest))) : W p l e R s m args below meth c H locs cells slots Q (F0 m pc lsC st0) := by
  intro T hT X
  obtain ⟨vv, st₀, t, T', L, h0, X', hL, e1, e2, ⟨hv, hP1, hz, hk⟩, st⟩ := hr T hT X
  cases hv
  rw [h0] at hz hk
  obtain ⟨t2, a1, b1⟩ := kk T'.heap (locs ++ L) (by rw [e1]; exact hP1)
    ⟨Nat.le_trans hS.1 (by rw [e1]; exact hz), fun q q1 q2 => by rw [e1, hk q (Nat.lt_of_lt_of_le q1 hS.1) q2]; exact hS.2.1 q q1 q2, fun q hq => by
      rcases List.mem_append.mp hq with z | z
      · exact hS.2.2 q z
      · exact hL q z⟩ T' rfl X'
  exact ⟨t2, st t2 a1, b1⟩
theorem xinv_inv {y' k y'' : Nat} {st as rest : List xV} (h : xinv y' k st = some (.inr (.inr (y'', as, rest)))) : y'' = y' ∧ as = (st.take k).reverse ∧ rest = st.drop k ∧ k ≤ st.length ∧ ((st.drop k).map xcat).sum ≤ 8 ∧ (st.take k).all (fun v => xcat v == 1) = true := by
  unfold xinv at h
  split at h
  · rename_i q
    cases h
    exact ⟨rfl, rfl, rfl, q.1, q.2.1, q.2.2⟩
  · cases h
theorem xtake_recv {st : List xV} {n : Nat} {v : xV} (h : st[n]? = some v) : (st.take (n + 1)).reverse = v :: (st.take n).reverse ∧ st = st.take n ++ v :: st.drop (n + 1) := by
  have hl : n < st.length := (List.getElem?_eq_some_iff.mp h).1
  have e := (List.getElem?_eq_some_iff.mp h).2
  constructor
  · rw [List.take_succ, h]; simp
  · conv => lhs; rw [← List.take_append_drop n st]
    rw [List.drop_eq_getElem_cons hl, e]
set_option maxHeartbeats 4000000 in
theorem x_call {pc len a b wi kd y' : Nat} {ins : ClassFile.Instr} {ls : xLs} {st as rest : List xV} {h h1 : xH} {v : Option xV} (hC : XC rom B ra dA D (d + 1) y p R s m args meth c) (hs : s.heap.size = B + n0 + 1) (hn0 : n0 ≤ gN h.1) (hw0 : w0 ≤ gW h.1) (hN : gN h.1 ≤ gN h1.1) (hW : gW h.1 ≤ gW h1.1) (hc1 : gN h1.1 - n0 ≤ R.cells) (hc2 : gW h1.1 - w0 ≤ R.slots)
    (hmA : ∀ y, y < 115 → xmP y) (hcl : xclA) (hcl6 : xcls ins = 6) (hsq : xsq (xinfo y).1.cls (ins, len, kd, a, b, wi) = true) (hd : decode (xinfo y).2.1 pc = .ok (ins, 3)) (hkd : kd ≤ 1)
    (hp : xcall (d + 1) pc (ins, len, kd, a, b, wi) ls st h = some (.inr (.inr (y', as, rest)))) (hM : xMet l rom B ra dA D d y' as h v h1)
    (kk : xSt p l e R s m args below meth c Q B ra dA D y n0 w0 (pc + 3, ls, v.toList ++ rest, h1)) : xSt p l e R s m args below meth c Q B ra dA D y n0 w0 (pc, ls, st, h) := by
  obtain ⟨hx, hb, hml, hown, hts, hin, hK, hRO, hB, hfr, hlo, hNW⟩ := hC
  intro H locs lsC hH hP hS hL
  have hsz := xhas_size hL
  unfold xcall at hp
  dsimp only at hp
  rw [if_pos hkd] at hp
  have hfix : CallFix p m c (xinfo y).2.1 (xinfo y).2.2.1 s args xtbl (xinfo y).1.cls := ⟨hx, hb, hml, hown, hts⟩
  have hfin : ∀ (H1 : Heap) (locs1 : List Loc), va_P D vwCl (wsx dA B h1) H1 → va_S (XA B) s.heap H1 locs1 → W p l e R s m args below meth c H1 locs1 (gN h.1 - n0 + (gN h1.1 - gN h.1)) (gW h.1 - w0 + (gW h1.1 - gW h.1)) Q (F0 m (pc + 3) lsC ((v.map (cv B ra)).toList ++ rest.map (cv B ra))) := by
    intro H1 locs1 hP1 hS1
    rw [show gN h.1 - n0 + (gN h1.1 - gN h.1) = gN h1.1 - n0 by omega, show gW h.1 - w0 + (gW h1.1 - gW h.1) = gW h1.1 - w0 by omega]
    refine W_size hs (by omega) hP1 hS1 (fun hz1 => ?_)
    have k9 := kk H1 locs1 lsC hz1 hP1 hS1 hL
    have e9 : (v.toList ++ rest).map (cv B ra) = (v.map (cv B ra)).toList ++ rest.map (cv B ra) := by
      rw [List.map_append]; cases v <;> rfl
    dsimp only at k9
    rw [e9] at k9
    exact k9
  have hroom : gN h.1 - n0 + (gN h1.1 - gN h.1) ≤ R.cells ∧ gW h.1 - w0 + (gW h1.1 - gW h.1) ≤ R.slots := by omega
  have key : ∀ (i fl : Nat), a < 115 → (xinfo a).2.2.2.2.2.1 = fl → xml (xinfo y).1.cls i (ins, len, kd, a, b, wi) = true → (ins = .invokestatic i ∧ fl = 0) ∨ (ins = .invokevirtual i ∧ fl = 1 ∧ a ≠ 900 ∧ a ≠ 901 ∧ a ≠ 902 ∧ a ≠ 903) ∨ (ins = .invokespecial i ∧ fl = 2) → W p l e R s m args below meth c H locs (gN h.1 - n0) (gW h.1 - w0) Q (F0 m pc lsC (st.map (cv B ra))) := by
    intro i fl ha hfl hxml hins
    obtain ⟨m1, m2, m3, m4, m5, m6, m7, m8, m9, m10, m11, m12⟩ := hmA a ha
    have hGI := xgoodIn m2
    have hl0 : kd = 0 → Cond.methodLink (xinfo y).1.cls i (xinfo a).1 ∈ lw_tbl := fun q => by
      unfold xml at hxml
      dsimp only at hxml
      rw [if_pos q] at hxml
      exact List.mem_of_getElem? (of_decide_eq_true hxml)
    have hl1 : kd ≠ 0 → Cond.methodLinkNest (xinfo y).1.cls i (xinfo a).1 "PedalLayers" ∈ lw_tbl := fun q => by
      unfold xml at hxml
      dsimp only at hxml
      rw [if_neg q] at hxml
      exact List.mem_of_getElem? (of_decide_eq_true hxml)
    have hR2 : (xrm d (gN h1.1 - gN h.1) (gW h1.1 - gW h.1)).frames + 1 ≤ R.frames ∧ 8 + ((xinfo a).2.2.1 + 11) + (xrm d (gN h1.1 - gN h.1) (gW h1.1 - gW h.1)).locals ≤ R.locals := by
      show d + 1 ≤ R.frames ∧ 8 + ((xinfo a).2.2.1 + 11) + 36 * d ≤ R.locals
      omega
    rcases hins with ⟨rfl, rfl⟩ | ⟨rfl, rfl, a1, a2, a3, a4⟩ | ⟨rfl, rfl⟩
    · rw [if_pos hfl] at hp
      obtain ⟨rfl, rfl, rfl, b1, b2, b3⟩ := xinv_inv hp
      have hstk : st.map (cv B ra) = (((st.take (xinfo y').2.2.2.2.1).reverse).map (cv B ra)).reverse ++ (st.drop (xinfo y').2.2.2.2.1).map (cv B ra) := by
        rw [List.map_reverse, List.reverse_reverse, ← List.map_append, List.take_append_drop]
      have hpre : PreS s H (xPc rom B ra dA D ((st.take (xinfo y').2.2.2.2.1).reverse) h) (((st.take (xinfo y').2.2.2.2.1).reverse).map (cv B ra)) := ⟨xPc_blind, xPc_at hK hRO hNW hH hP hS⟩
      have hnn : (((st.take (xinfo y').2.2.2.2.1).reverse).map (cv B ra)).length = (xinfo y').2.2.2.2.1 := by
        rw [List.length_map, List.length_reverse, List.length_take]; omega
      have hww : 2 * (F0 m pc lsC (st.map (cv B ra))).monitorRoom + (((st.drop (xinfo y').2.2.2.2.1).map (cv B ra)).map fun v => v.category).sum ≤ 8 := by
        rw [cv_cats]; show 2 * 0 + _ ≤ 8; omega
      by_cases hk0 : kd = 0
      · refine x_after (va_runS hfix hM (va_cwS (xinfo y').2.2.2.2.1 hts (fun w hw => ?_) rfl rfl rfl m8 hR2) hpre rfl hnn hsz hstk hww hd hroom) hS hfin
        rcases List.mem_append.mp hw with hw | hw
        · rcases List.mem_cons.mp hw with rfl | hw
          · exact xgood1 (hl0 hk0) rfl
          · rcases List.mem_cons.mp hw with rfl | hw
            · exact xgood1 (m4 hfl) rfl
            · rcases List.mem_cons.mp hw with rfl | hw
              · exact xgood1 m3 rfl
              · cases hw
        · exact hGI w hw
      · exact x_after (va_runSN hfix hM ⟨va_cnB (xinfo y').2.2.2.2.1 hts hGI rfl rfl rfl (hNW _ (hl1 hk0) rfl) (xtbl_of hts m3 rfl) m8 hR2, xtbl_of hts (m4 hfl) rfl, trivial⟩ hpre rfl hnn hsz hstk hww hd hroom) hS hfin
    · rw [if_neg (by omega)] at hp
      by_cases hrv : xrecv h.1 (if (xinfo a).2.2.2.2.2.1 = 2 then 99 else (xinfo a).2.2.2.2.2.2) (st[(xinfo a).2.2.2.2.1]?)
      · rw [if_pos hrv] at hp
        obtain ⟨rfl, rfl, rfl, b1, b2, b3⟩ := xinv_inv hp
        rw [if_neg (by omega)] at hrv
        unfold xrecv at hrv
        split at hrv
        · rename_i o r hst
          obtain ⟨o1, o2, o3⟩ := hrv
          obtain ⟨t1, t2⟩ := xtake_recv hst
          have h99 := m11 hfl
          have o3 := o3.resolve_left (by omega)
          obtain ⟨T, N, hcc⟩ := m12 h99
          have he := wsx_at (dA := dA) (B := B) (h := h) o1 o2
          rw [xcont_obj o3 (by omega)] at he
          have hrc := va_recv hK hP hcc he
          have hpre : PreV s H (xinfo y').1.cls (B + r) (xPc rom B ra dA D ((st.take ((xinfo y').2.2.2.2.1 + 1)).reverse) h) (((st.take (xinfo y').2.2.2.2.1).reverse).map (cv B ra)) := by
            refine ⟨xPc_blind, hrc, ?_⟩
            have e9 : Value.ref (B + r) :: ((st.take (xinfo y').2.2.2.2.1).reverse).map (cv B ra) = ((st.take ((xinfo y').2.2.2.2.1 + 1)).reverse).map (cv B ra) := by
              rw [t1, List.map_cons, cv_r (by omega)]
            rw [e9]
            exact xPc_at hK hRO hNW hH hP hS
          have hstk : st.map (cv B ra) = (((st.take (xinfo y').2.2.2.2.1).reverse).map (cv B ra)).reverse ++ .ref (B + r) :: (st.drop ((xinfo y').2.2.2.2.1 + 1)).map (cv B ra) := by
            conv => lhs; rw [t2]
            rw [List.map_append, List.map_cons, cv_r (by omega), List.map_reverse, List.reverse_reverse]
          have hnn : (((st.take (xinfo y').2.2.2.2.1).reverse).map (cv B ra)).length = (xinfo y').2.2.2.2.1 := by
            rw [List.length_map, List.length_reverse, List.length_take]; omega
          have hww : 2 * (F0 m pc lsC (st.map (cv B ra))).monitorRoom + (((st.drop ((xinfo y').2.2.2.2.1 + 1)).map (cv B ra)).map fun v => v.category).sum ≤ 8 := by
            rw [cv_cats]; show 2 * 0 + _ ≤ 8; omega
          by_cases hk0 : kd = 0
          · refine x_after (va_runV hfix hM (cwV (xinfo y').2.2.2.2.1 hts (fun w hw => ?_) rfl rfl rfl ⟨rfl, m8⟩ hR2) hpre rfl hnn hsz hstk hww hd hroom) hS hfin
            rcases List.mem_append.mp hw with hw | hw
            · rcases List.mem_cons.mp hw with rfl | hw
              · exact xgood1 (hl0 hk0) rfl
              · rcases List.mem_cons.mp hw with rfl | hw
                · exact xgood1 (m5 (by omega)) rfl
                · rcases List.mem_cons.mp hw with rfl | hw
                  · exact xgood1 (m6 hfl a1 a2 a3 a4) rfl
                  · rcases List.mem_cons.mp hw with rfl | hw
                    · exact xgood1 m3 rfl
                    · cases hw
            · exact hGI w hw
          · exact x_after (va_runVN hfix hM ⟨va_cnB (xinfo y').2.2.2.2.1 hts hGI rfl rfl rfl (hNW _ (hl1 hk0) rfl) (xtbl_of hts m3 rfl) m8 hR2, xtbl_of hts (m5 (by omega)) rfl, xtbl_of hts (m6 hfl a1 a2 a3 a4) rfl⟩ hpre rfl hnn hsz hstk hww hd hroom) hS hfin
        · exact hrv.elim
      · rw [if_neg hrv] at hp; cases hp
    · rw [if_neg (by omega)] at hp
      by_cases hrv : xrecv h.1 (if (xinfo a).2.2.2.2.2.1 = 2 then 99 else (xinfo a).2.2.2.2.2.2) (st[(xinfo a).2.2.2.2.1]?)
      · rw [if_pos hrv] at hp
        obtain ⟨rfl, rfl, rfl, b1, b2, b3⟩ := xinv_inv hp
        unfold xrecv at hrv
        split at hrv
        · rename_i o r hst
          obtain ⟨o1, o2, -⟩ := hrv
          obtain ⟨t1, t2⟩ := xtake_recv hst
          have e9 : Value.ref (B + r) :: ((st.take (xinfo y').2.2.2.2.1).reverse).map (cv B ra) = ((st.take ((xinfo y').2.2.2.2.1 + 1)).reverse).map (cv B ra) := by
            rw [t1, List.map_cons, cv_r (by omega)]
          have hpre : PreS s H (xPc rom B ra dA D ((st.take ((xinfo y').2.2.2.2.1 + 1)).reverse) h) (Value.ref (B + r) :: ((st.take (xinfo y').2.2.2.2.1).reverse).map (cv B ra)) := by
            refine ⟨xPc_blind, ?_⟩
            rw [e9]
            exact xPc_at hK hRO hNW hH hP hS
          have hstk : st.map (cv B ra) = (((st.take (xinfo y').2.2.2.2.1).reverse).map (cv B ra)).reverse ++ .ref (B + r) :: (st.drop ((xinfo y').2.2.2.2.1 + 1)).map (cv B ra) := by
            conv => lhs; rw [t2]
            rw [List.map_append, List.map_cons, cv_r (by omega), List.map_reverse, List.reverse_reverse]
          have hnn : (((st.take (xinfo y').2.2.2.2.1).reverse).map (cv B ra)).length = (xinfo y').2.2.2.2.1 := by
            rw [List.length_map, List.length_reverse, List.length_take]; omega
          have hww : 2 * (F0 m pc lsC (st.map (cv B ra))).monitorRoom + (((st.drop ((xinfo y').2.2.2.2.1 + 1)).map (cv B ra)).map fun v => v.category).sum ≤ 8 := by
            rw [cv_cats]; show 2 * 0 + _ ≤ 8; omega
          obtain ⟨q1, q2⟩ := m7 hfl
          have hwx : xws y' = Cond.code (xinfo y').1 (xinfo y').2.1 (xinfo y').2.2.1 none :: xtbl := by
            unfold xws; rw [q2]
          by_cases hk0 : kd = 0
          · exact x_after (va_runI hfix hM (cwI (xinfo y').2.2.2.2.1 hts hGI hwx rfl rfl (xtbl_of hts m3 rfl) (xtbl_of hts (hl0 hk0) rfl) (xtbl_of hts (m5 (by omega)) rfl) q1 m8 hR2) hpre rfl hnn hsz hstk hww hd hroom) hS hfin
          · exact x_after (va_runIN hfix hM ⟨va_cnB (xinfo y').2.2.2.2.1 hts hGI hwx rfl rfl (hNW _ (hl1 hk0) rfl) (xtbl_of hts m3 rfl) m8 hR2, q1, xtbl_of hts (m5 (by omega)) rfl⟩ hpre rfl hnn hsz hstk hww hd hroom) hS hfin
        · exact hrv.elim
      · rw [if_neg hrv] at hp; cases hp
  unfold xcls at hcl6
  split at hcl6 <;> first | (cases hcl6; done) | skip
  · rename_i i
    unfold xsq at hsq
    dsimp only at hsq
    rw [if_pos hkd] at hsq
    unfold xtgtOk at hsq
    simp only [Bool.and_eq_true, decide_eq_true_eq] at hsq
    exact key i 2 hsq.1.1 hsq.1.2 hsq.2 (Or.inr (Or.inr ⟨rfl, rfl⟩))
  · rename_i i
    unfold xsq at hsq
    dsimp only at hsq
    rw [if_pos hkd] at hsq
    unfold xtgtOk at hsq
    simp only [Bool.and_eq_true, decide_eq_true_eq] at hsq
    exact key i 0 hsq.1.1 hsq.1.2 hsq.2 (Or.inl ⟨rfl, rfl⟩)
  · rename_i i
    unfold xsq at hsq
    dsimp only at hsq
    rw [if_neg (by omega)] at hsq
    unfold xtgtOk at hsq
    simp only [Bool.and_eq_true, decide_eq_true_eq] at hsq
    exact key i 1 hsq.1.1.1.1.1.2.1 hsq.1.1.1.1.1.2.2 hsq.1.1.1.1.2 (Or.inr (Or.inl ⟨rfl, rfl, hsq.1.1.1.2, hsq.1.1.2, hsq.1.2, hsq.2⟩))
end X7
