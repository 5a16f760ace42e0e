/-! THE INTERPRETER IS SOUND, 10: whole runs -/
theorem xargs_mem {B : Nat} {ra : Nat → Nat} : ∀ (as : List xV), (as.all (fun v => xcat v == 1)) = true → ∀ (i k : Nat) (v : xV), as[k]? = some v → (i + k, cv B ra v) ∈ lv_args i (as.map (cv B ra))
  | [], _, _, _, _, h => by simp at h
  | a :: as, hc, i, k, v, h => by
    simp only [List.all_cons, Bool.and_eq_true, beq_iff_eq] at hc
    have e : lv_args i ((a :: as).map (cv B ra)) = (i, cv B ra a) :: lv_args (i + 1) (as.map (cv B ra)) := by
      show (i, cv B ra a) :: lv_args (if (cv B ra a).category = 2 then i + 2 else i + 1) _ = _
      rw [cv_cat, if_neg (by omega)]
    rw [e]
    cases k with
    | zero =>
      simp only [List.getElem?_cons_zero, Option.some.injEq] at h
      subst h
      exact List.mem_cons_self
    | succ k =>
      rw [List.getElem?_cons_succ] at h
      have := xargs_mem (B := B) (ra := ra) as hc.2 (i + 1) k v h
      rw [show i + (k + 1) = i + 1 + k by omega]
      exact List.mem_cons_of_mem _ this
theorem xsl_len {B : Nat} {ra : Nat → Nat} : ∀ (as : List xV), (as.all (fun v => xcat v == 1)) = true → (lg_sl (as.map (cv B ra))).length = as.length
  | [], _ => rfl
  | a :: as, hc => by
    simp only [List.all_cons, Bool.and_eq_true, beq_iff_eq] at hc
    have h1 := xsl_len (B := B) (ra := ra) as hc.2
    have h2 : ¬ (cv B ra a).category = 2 := by rw [cv_cat]; omega
    simp only [lg_sl, List.map_cons, List.flatMap_cons, List.length_append, List.length_cons] at h1 ⊢
    rw [h1]
    simp [h2]
    try omega
theorem xhas_entry {B : Nat} {ra : Nat → Nat} {y : Nat} {as : List xV} (hc : (as.all (fun v => xcat v == 1)) = true) (hl : as.length ≤ (xinfo y).2.2.1) :
    xhas B ra ((lg_sl (as.map (cv B ra)) ++ List.replicate ((xinfo y).2.2.1 - (lg_sl (as.map (cv B ra))).length) Slot.unset).toArray) (xinfo y).2.2.1 (xentry y as) := by
  refine ⟨?_, _, lv_entry (as.map (cv B ra)) (by rw [xsl_len as hc]; exact hl), fun k v hk => ?_⟩
  · unfold xentry; rw [List.length_append, List.length_map, List.length_replicate]; omega
  · unfold xentry at hk
    rw [List.getD_eq_getElem?_getD] at hk
    have h0 := xargs_mem (B := B) (ra := ra) as hc 0 k v
    rw [Nat.zero_add] at h0
    refine h0 ?_
    by_cases hlt : k < as.length
    · rw [List.getElem?_append_left (by rw [List.length_map]; exact hlt), List.getElem?_map] at hk
      cases ha : as[k]? with
      | none => rw [ha] at hk; cases hk
      | some w => rw [ha] at hk; exact congrArg some (Option.some.inj hk)
    · rw [List.getElem?_append_right (by rw [List.length_map]; omega), List.getElem?_replicate] at hk
      split at hk <;> cases hk
theorem x_run_mono {rom : xRom} : ∀ (f d y : Nat) (σ : xF) (v : Option xV) (h' : xH), xrun rom f d y σ = some (v, h') → gN σ.2.2.2.1 ≤ gN h'.1 ∧ gW σ.2.2.2.1 ≤ gW h'.1
  | 0, _, _, _, _, _, h => by cases h
  | f + 1, d, y, (pc, ls, st, h), v, h', hr => by
    unfold xrun at hr
    split at hr
    · cases hr
    · rename_i q hq
      split at hr
      · cases hr
      · rename_i σ hs
        have h1 := x_mono hs
        have h2 := x_run_mono f d y σ v h' hr
        exact ⟨Nat.le_trans h1.1 h2.1, Nat.le_trans h1.2 h2.2⟩
      · cases hr; exact ⟨Nat.le_refl _, Nat.le_refl _⟩
      · rename_i y' as rest hs
        split at hr
        · cases hr
        · rename_i d'
          split at hr
          · cases hr
          · rename_i v1 h1 hc
            have a1 := x_run_mono f d' y' _ v1 h1 hc
            have a2 := x_run_mono f (d' + 1) y _ v h' hr
            exact ⟨Nat.le_trans a1.1 a2.1, Nat.le_trans a1.2 a2.2⟩
theorem x_ret_inv {rom : xRom} {d y pc : Nat} {q : xQ} {ls : xLs} {st : List xV} {h : xH} {v : Option xV} (hp : xstep rom d y pc q ls st h = some (.inr (.inl v))) : xret y q.1 st = some (.inr (.inl v)) := by
  obtain ⟨ins, len, kd, a, b, wi⟩ := q
  unfold xstep at hp
  dsimp only at hp
  split at hp
  · split at hp <;> cases hp
  · unfold xjmp at hp
    split at hp <;> repeat' split at hp
    all_goals (cases hp)
  · repeat' split at hp
    all_goals (cases hp)
  · repeat' split at hp
    all_goals (cases hp)
  · repeat' split at hp
    all_goals (cases hp)
  · unfold xheap at hp
    dsimp only at hp
    split at hp <;> repeat' split at hp
    all_goals (cases hp)
  · split at hp
    · unfold xdisp at hp
      cases hp
    · unfold xcall at hp
      dsimp only at hp
      split at hp
      · unfold xinv at hp
        split at hp
        · split at hp <;> cases hp
        · by_cases hr : xrecv h.1 (if (xinfo a).2.2.2.2.2.1 = 2 then 99 else (xinfo a).2.2.2.2.2.2) (st[(xinfo a).2.2.2.2.1]?)
          · rw [if_pos hr] at hp
            split at hp <;> cases hp
          · rw [if_neg hr] at hp; cases hp
      · split at hp
        · cases hp
        · split at hp <;> repeat' split at hp
          all_goals (cases hp)
  · exact hp
theorem xcall_inv {d pc y' : Nat} {q : xQ} {ls : xLs} {st as rest : List xV} {h : xH} (hp : xcall d pc q ls st h = some (.inr (.inr (y', as, rest)))) : q.2.2.1 ≤ 1 ∧ y' = q.2.2.2.1 ∧ (as.all (fun v => xcat v == 1)) = true ∧ as.length = (xinfo y').2.2.2.2.1 + (if (xinfo y').2.2.2.2.2.1 = 0 then 0 else 1) := by
  unfold xcall at hp
  dsimp only at hp
  split at hp
  · rename_i hk
    refine ⟨hk, ?_⟩
    split at hp
    · rename_i h0
      obtain ⟨rfl, rfl, rfl, b1, b2, b3⟩ := xinv_inv hp
      refine ⟨rfl, by rw [List.all_reverse]; exact b3, ?_⟩
      rw [if_pos h0, List.length_reverse, List.length_take]; omega
    · rename_i h0
      by_cases hr : xrecv h.1 (if (xinfo q.2.2.2.1).2.2.2.2.2.1 = 2 then 99 else (xinfo q.2.2.2.1).2.2.2.2.2.2) (st[(xinfo q.2.2.2.1).2.2.2.2.1]?)
      · rw [if_pos hr] at hp
        obtain ⟨rfl, rfl, rfl, b1, b2, b3⟩ := xinv_inv hp
        refine ⟨rfl, by rw [List.all_reverse]; exact b3, ?_⟩
        rw [if_neg h0, List.length_reverse, List.length_take]; omega
      · rw [if_neg hr] at hp; cases hp
  · split at hp
    · cases hp
    · split at hp <;> repeat' split at hp
      all_goals (cases hp)
/-- a call's target is a method of the table, and not the law -/
theorem xtgt_lt {y a b wi kd len : Nat} {ins : ClassFile.Instr} (hcl : xcls ins = 6) (hk : kd ≤ 1) (hsq : xsq (xinfo y).1.cls (ins, len, kd, a, b, wi) = true) : a < 115 := by
  unfold xcls at hcl
  split at hcl <;> first | (cases hcl; done) | skip
  · unfold xsq at hsq
    dsimp only at hsq
    rw [if_pos hk] at hsq
    unfold xtgtOk at hsq
    simp only [Bool.and_eq_true, decide_eq_true_eq] at hsq
    exact hsq.1.1
  · unfold xsq at hsq
    dsimp only at hsq
    rw [if_pos hk] at hsq
    unfold xtgtOk at hsq
    simp only [Bool.and_eq_true, decide_eq_true_eq] at hsq
    exact hsq.1.1
  · unfold xsq at hsq
    dsimp only at hsq
    rw [if_neg (by omega)] at hsq
    unfold xtgtOk at hsq
    simp only [Bool.and_eq_true, decide_eq_true_eq] at hsq
    exact hsq.1.1.1.1.1.2.1
section X10
variable {B : Nat} {ra : Nat → Nat} {dA : Nat → ClassId} {D : va_G} {rom : xRom}
def xHR (p : Program) (l : Launch) (e : Env) (R : Room) (s : State) (m : MethodId) (args : Array Value) (below : List Frame) (meth : Method) (c : Code) (Q : State → Prop) (B : Nat) (ra : Nat → Nat) (dA : Nat → ClassId) (D : va_G) (y n0 w0 : Nat) (v : Option xV) (h' : xH) : Prop :=
  ∀ (pc : Nat) (ins : ClassFile.Instr) (st : List xV), decode (xinfo y).2.1 pc = .ok (ins, 1) → xret y ins st = some (.inr (.inl v)) → ∀ (H : Heap) (locs : List Loc) (lsC : Array Slot), va_P D vwCl (wsx dA B h') H → va_S (XA B) s.heap H locs →
    W p l e R s m args below meth c H locs (gN h'.1 - n0) (gW h'.1 - w0) Q (F0 m pc lsC (st.map (cv B ra)))
theorem x_retMQ {p : Program} {l : Launch} {e : Env} {R : Room} {s : State} {m : MethodId} {args : Array Value} {below : List Frame} {meth : Method} {c : Code} {y n0 w0 : Nat} {v : Option xV} {h' : xH} (hx : p.tables.exec = Jvm.exec) (hb : c.code = (xinfo y).2.1) (hr : meth.sig.returnType = (xinfo y).2.2.2.1) (hlocks : meth.locks = false) :
    xHR p l e R s m args below meth c (MQ below (xQc B ra dA D v h') args s (gN h'.1 - n0) (gW h'.1 - w0) (XA B)) B ra dA D y n0 w0 v h' := by
  intro pc ins st hd hret H locs lsC hP hS
  have hq : ∀ (t : State), t.heap = H → ∀ o : Option Value, o = v.map (cv B ra) → xQc B ra dA D v h' args s (.returned o) t := fun t ht o ho => ⟨by rw [ho], by rw [ht]; exact hP, hS.F ht⟩
  unfold xret at hret
  split at hret
  · split at hret
    · rename_i z
      by_cases hz : xretOk y z
      · rw [if_pos hz] at hret
        cases hret
        unfold xretOk at hz
        split at hz
        · rename_i hty
          exact W.zret (ty := .int) hx hb (hr.trans hty) rfl (fun t ht _ => hq t ht _ rfl) hS.2.2 hd hlocks
        · rename_i hty
          refine W.zret (ty := .boolean) hx hb (hr.trans hty) ?_ (fun t ht _ => hq t ht _ rfl) hS.2.2 hd hlocks
          rcases hz with z0 | z0
          · rw [show Int32.ofInt z = 0 from (xi_eq0 z).mpr z0]; rfl
          · rw [show Int32.ofInt z = 1 from Int32.toInt_inj.mp z0]; rfl
        · rename_i hty
          refine W.zret (ty := .char) hx hb (hr.trans hty) ?_ (fun t ht _ => hq t ht _ rfl) hS.2.2 hd hlocks
          have e8 := xi_i2c z
          rw [Int.emod_eq_of_lt hz.1 hz.2, xi_wr] at e8
          have e7 := pk_nc (Int32.ofInt z)
          rw [e8] at e7
          exact e7
        · exact hz.elim
      · rw [if_neg hz] at hret; cases hret
    · cases hret
  · split at hret
    · rename_i r
      split at hret
      · rename_i nn hty
        cases hret
        refine W.aret (v := cv B ra (vR r)) hx hb (hr.trans hty) (Or.inl ⟨_, rfl⟩) ?_ (fun t ht _ => hq t ht _ rfl) hS.2.2 hd hlocks
        by_cases h0 : r = 0
        · subst h0; exact Or.inl rfl
        · exact Or.inr ⟨_, cv_r h0⟩
      · cases hret
    · cases hret
  · split at hret
    · split at hret
      · rename_i hty
        cases hret
        exact W.dret hx hb (hr.trans hty) (fun t ht _ => hq t ht _ rfl) hS.2.2 hd hlocks
      · cases hret
    · cases hret
  · split at hret
    · split at hret
      · rename_i hty
        cases hret
        exact W.vret hx hb (hr.trans hty) (fun t ht _ => hq t ht _ rfl) hS.2.2 hd hlocks
      · cases hret
    · cases hret
  · cases hret
def xSound (l : Launch) (rom : xRom) (B : Nat) (ra : Nat → Nat) (dA : Nat → ClassId) (D : va_G) (f : Nat) : Prop := ∀ (d y : Nat) (σ : xF) (v : Option xV) (h' : xH), xrun rom f d y σ = some (v, h') →
  ∀ (p : Program) (e : Env) (R : Room) (s : State) (m : MethodId) (args : Array Value) (below : List Frame) (meth : Method) (c : Code) (Q : State → Prop) (n0 w0 : Nat), XC rom B ra dA D d y p R s m args meth c → s.heap.size = B + n0 + 1 → n0 ≤ gN σ.2.2.2.1 → w0 ≤ gW σ.2.2.2.1 → gN h'.1 - n0 ≤ R.cells → gW h'.1 - w0 ≤ R.slots →
    ((xinfo y).2.2.2.2.2.2 < 99 → ∃ T N, vwCl[(xinfo y).2.2.2.2.2.2]? = some ((xinfo y).1.cls, T, N)) → xHR p l e R s m args below meth c Q B ra dA D y n0 w0 v h' → xSt p l e R s m args below meth c Q B ra dA D y n0 w0 σ
theorem x_met {l : Launch} {f d y : Nat} {as : List xV} {h h1 : xH} {v : Option xV} (hA : xAll) (ih : xSound l rom B ra dA D f) (hy : y < 115) (hc : (as.all (fun v => xcat v == 1)) = true) (hn : as.length ≤ (xinfo y).2.2.1) (hr : xrun rom f d y (0, xentry y as, [], h) = some (v, h1)) : xMet l rom B ra dA D d y as h v h1 := by
  obtain ⟨m1, m2, m3, m4, m5, m6, m7, m8, m9, m10, m11, m12⟩ := hA.2.2.2.2.2 y hy
  refine Met.ofW (cc := (xinfo y).2.1) (maxL := (xinfo y).2.2.1) (ret := (xinfo y).2.2.2.1) m1 rfl ?_
  intro p e s m args below meth c s₁ B0 hml hv
  obtain ⟨rfl, hsz, hP, hK, hRO, hNW⟩ := hv
  have hts := atoms_spec (ws := xws y) B0.pre
  have hown : s.vm.findClass (xinfo y).1.cls = some m.cls := findClass_of_methodNamed B0.named
  have hx := B0.exec
  have hb := B0.bytes
  have hret := B0.returns
  have hlocks := B0.notSynchronized
  have hC : XC rom B ra dA D d y p (headSpec (xws y) (xrm d (gN h1.1 - gN h.1) (gW h1.1 - gW h.1))).room s m (as.map (cv B ra)).toArray meth c := by
    refine ⟨hx, hb, hml, hown, fun w hw => hts w (List.mem_cons_of_mem _ hw), fun hf => ?_, hK, hRO, by omega, Nat.le_refl _, Nat.le_refl _, hNW⟩
    have := (name_of_methodNamed B0.named B0.method).1
    rw [this]; exact (m7 hf).1
  have k9 := ih d y _ v h1 hr p e _ s m _ below meth c (MQ below (xQc B ra dA D v h1) (as.map (cv B ra)).toArray s (gN h1.1 - gN h.1) (gW h1.1 - gW h.1) (XA B)) (gN h.1) (gW h.1) hC hsz (Nat.le_refl _) (Nat.le_refl _) (Nat.le_refl _) (Nat.le_refl _) m12 (x_retMQ hx hb hret hlocks)
  have k8 := k9 s.heap [] _ hsz hP va_S.rf (xhas_entry hc hn)
  dsimp only at k8
  rw [Nat.sub_self, Nat.sub_self] at k8
  rw [lg_entry_eq]
  exact k8
theorem x_sound {l : Launch} (hA : xAll) : ∀ f, xSound l rom B ra dA D f := by
  intro f
  induction f with
  | zero => intro d y σ v h' hr; cases hr
  | succ f ih =>
    intro d y σ v h' hr p e R s m args below meth c Q n0 w0 hC hs hn0 hw0 hc1 hc2 hM hHR
    obtain ⟨pc, ls, st, h⟩ := σ
    unfold xrun at hr
    split at hr
    · cases hr
    · rename_i q hq
      obtain ⟨hy, hd, hl, hsq⟩ := xcode_ok hA hq
      split at hr
      · cases hr
      · rename_i σ hst
        have h1 := x_mono hst
        have h2 := x_run_mono f d y σ v h' hr
        refine x_step hA hC hs hn0 hw0 hM hq hst (by omega) (by omega) ?_
        exact ih d y σ v h' hr p e R s m args below meth c Q n0 w0 hC hs (Nat.le_trans hn0 h1.1) (Nat.le_trans hw0 h1.2) hc1 hc2 hM hHR
      · rename_i v1 hst
        cases hr
        have hre := x_ret_inv hst
        intro H locs lsC hH hP hS hL
        obtain ⟨ins, len, kd, a, b, wi⟩ := q
        have hne : xlen ins = 1 := by
          unfold xret at hre
          dsimp only at hre
          split at hre <;> first | rfl | (cases hre; done)
        have hl : xlen ins = 0 ∨ xlen ins = len := hl
        have h1 : len = 1 := by omega
        subst h1
        exact hHR pc ins st hd hre H locs lsC hP hS
      · rename_i y' as rest hst
        split at hr
        · cases hr
        · rename_i d'
          split at hr
          · cases hr
          · rename_i v1 h1 hcr
            have a1 := x_run_mono f d' y' _ v1 h1 hcr
            have a2 := x_run_mono f (d' + 1) y _ v h' hr
            have a1 : gN h.1 ≤ gN h1.1 ∧ gW h.1 ≤ gW h1.1 := a1
            have a2 : gN h1.1 ≤ gN h'.1 ∧ gW h1.1 ≤ gW h'.1 := a2
            have hn0 : n0 ≤ gN h.1 := hn0
            have hw0 : w0 ≤ gW h.1 := hw0
            have kcont := ih (d' + 1) y _ v h' hr p e R s m args below meth c Q n0 w0 hC hs (Nat.le_trans hn0 a1.1) (Nat.le_trans hw0 a1.2) hc1 hc2 hM hHR
            obtain ⟨ins, len, kd, a, b, wi⟩ := q
            have hl : xlen ins = 0 ∨ xlen ins = len := hl
            have hd : decode (xinfo y).2.1 pc = .ok (ins, len) := hd
            have h6 : xcls ins = 6 ∧ ((kd = 11 ∧ xdisp (ins, len, kd, a, b, wi) st h = some (.inr (.inr (y', as, rest)))) ∨ (kd ≠ 11 ∧ xcall (d' + 1) pc (ins, len, kd, a, b, wi) ls st h = some (.inr (.inr (y', as, rest))))) := by
              unfold xstep at hst
              dsimp only at hst
              split at hst
              · split at hst <;> cases hst
              · unfold xjmp at hst
                split at hst <;> repeat' split at hst
                all_goals (cases hst)
              · repeat' split at hst
                all_goals (cases hst)
              · repeat' split at hst
                all_goals (cases hst)
              · repeat' split at hst
                all_goals (cases hst)
              · unfold xheap at hst
                dsimp only at hst
                split at hst <;> repeat' split at hst
                all_goals (cases hst)
              · rename_i h6
                refine ⟨h6, ?_⟩
                split at hst
                · rename_i hk; exact Or.inl ⟨hk, hst⟩
                · rename_i hk; exact Or.inr ⟨hk, hst⟩
              · unfold xret at hst
                split at hst
                · split at hst
                  · rename_i z
                    by_cases hr9 : xretOk y z
                    · rw [if_pos hr9] at hst; cases hst
                    · rw [if_neg hr9] at hst; cases hst
                  · cases hst
                · split at hst
                  · split at hst <;> cases hst
                  · cases hst
                · split at hst
                  · split at hst <;> cases hst
                  · cases hst
                · split at hst
                  · split at hst <;> cases hst
                  · cases hst
                · cases hst
            obtain ⟨h6, hcase⟩ := h6
            have h3 : len = 3 := by
              have hl := hl.resolve_left (xlen_ne (by omega))
              rw [← hl]
              unfold xcls at h6
              split at h6 <;> first | (cases h6; done) | rfl
            subst h3
            rcases hcase with ⟨rfl, hdp⟩ | ⟨hk, hcl⟩
            · exfalso
              unfold xdisp at hdp
              cases hdp
            · obtain ⟨b1, b2, b3, b4⟩ := xcall_inv hcl
              have b1 : kd ≤ 1 := b1
              have b2 : y' = a := b2
              have hlt := xtgt_lt h6 b1 hsq
              have hlt' : y' < 115 := by rw [b2]; exact hlt
              have hmm := hA.2.2.2.2.2 y' hlt'
              have hmet := x_met hA ih hlt' b3 (by have := hmm.2.2.2.2.2.2.2.2.2.1; split at this <;> split at b4 <;> omega) hcr
              exact x_call hC hs hn0 hw0 a1.1 a1.2 (by omega) (by omega) hA.2.2.2.2.2 hA.1 h6 hsq hd b1 hcl hmet kcont
end X10
