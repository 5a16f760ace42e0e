/-! THE INTERPRETER IS SOUND, 9: one step -/
section X9
variable {p : Program} {l : Launch} {e : Env} {R : Room} {s : State} {m : MethodId} {args : Array Value} {below : List Frame} {meth : Method} {c : Code} {Q : State → Prop} {B : Nat} {ra : Nat → Nat} {dA : Nat → ClassId} {D : va_G} {rom : xRom} {d y n0 w0 : Nat}
theorem xlen_ne {ins : ClassFile.Instr} (h : xcls ins ≠ 1) : xlen ins ≠ 0 := by
  cases ins <;> first | (exact absurd rfl h) | (intro q; cases q)
set_option maxHeartbeats 4000000 in
theorem x_heap {pc len kd a b wi : Nat} {ins : ClassFile.Instr} {ls : xLs} {st : List xV} {h : xH} {σ : xF} (hA : xAll) (hC : XC rom B ra dA D d y p R s m args meth c) (hs : s.heap.size = B + n0 + 1) (hn0 : n0 ≤ gN h.1) (hw0 : w0 ≤ gW h.1) (hM : (xinfo y).2.2.2.2.2.2 < 99 → ∃ T N, vwCl[(xinfo y).2.2.2.2.2.2]? = some ((xinfo y).1.cls, T, N))
    (hd : decode (xinfo y).2.1 pc = .ok (ins, len)) (hl : xlen ins = len) (hsq : xsq (xinfo y).1.cls (ins, len, kd, a, b, wi) = true)
    (hp : xheap rom y pc (ins, len, kd, a, b, wi) ls st h = some (.inl σ)) (hc1 : gN σ.2.2.2.1 - n0 ≤ R.cells) (hc2 : gW σ.2.2.2.1 - w0 ≤ R.slots) :
    xSt p l e R s m args below meth c Q B ra dA D y n0 w0 σ → xSt p l e R s m args below meth c Q B ra dA D y n0 w0 (pc, ls, st, h) := by
  obtain ⟨hcl, har, hjd, hds, hck, hmA⟩ := hA
  intro kk
  have hl := hl.symm
  subst hl
  unfold xheap at hp
  dsimp only at hp
  split at hp
  · split at hp
    · split at hp
      · rename_i ho; cases hp; exact x_get hC hcl hsq hd ho kk
      · cases hp
    · cases hp
  · split at hp
    · split at hp
      · rename_i ho; cases hp; exact x_put hC hs hn0 hcl hsq hd ho.1 ho.2 kk
      · cases hp
    · split at hp
      · rename_i ho; cases hp; exact x_putF hC hs hn0 hcl hM hsq hd ho.1 ho.2 kk
      · cases hp
    · cases hp
  · cases hp; exact x_gets hC hsq hd kk
  · split at hp
    · split at hp
      · rename_i ho; cases hp; exact x_ald hC ho.2.1 ho.2.2 ho.1.1 ho.1.2.1 (Or.inl ⟨hd, ho.1.2.2, rfl⟩) kk
      · cases hp
    · split at hp
      · rename_i ho; cases hp; exact x_ald_rom hC ho.1 ho.2.1 ho.2.2 hd kk
      · cases hp
    · cases hp
  · split at hp
    · split at hp
      · rename_i ho; cases hp; exact x_ald hC ho.2.1 ho.2.2 ho.1.1 ho.1.2.1 (Or.inr (Or.inl ⟨hd, ho.1.2.2, rfl⟩)) kk
      · cases hp
    · cases hp
  · split at hp
    · split at hp
      · rename_i ho; cases hp; exact x_ald hC ho.2.2.2.1 ho.2.2.2.2 ho.1 ho.2.1 (Or.inr (Or.inr ⟨hd, ho.2.2.1, rfl⟩)) kk
      · cases hp
    · cases hp
  · split at hp
    · split at hp
      · rename_i ho; cases hp; exact x_ast hC hs hn0 ho.2.1 ho.2.2 ho.1.1 ho.1.2.1 (Or.inl ⟨hd, ho.1.2.2, rfl⟩) kk
      · cases hp
    · cases hp
  · split at hp
    · split at hp
      · rename_i ho; cases hp; exact x_ast hC hs hn0 ho.2.1 ho.2.2.1 ho.1.1 ho.1.2.1 (Or.inr ⟨hd, ho.1.2.2, rfl, ho.2.2.2.1, ho.2.2.2.2⟩) kk
      · cases hp
    · cases hp
  · split at hp
    · split at hp
      · rename_i ho; cases hp; exact x_aast hC hs hn0 hcl ho.2.2.2.1 ho.2.2.2.2 ho.1 ho.2.1 ho.2.2.1 hd kk
      · cases hp
    · cases hp
  · split at hp
    · split at hp
      · rename_i ho; cases hp; exact x_alen hC ho.1 ho.2.1 ho.2.2.1 ho.2.2.2 hd kk
      · cases hp
    · split at hp
      · rename_i ho; cases hp; exact x_alen_rom hC ho hd kk
      · cases hp
    · cases hp
  · cases hp
    have hc1 : gN h.1 + 1 - n0 ≤ R.cells := hc1
    have hc2 : gW h.1 + xnf a - w0 ≤ R.slots := hc2
    exact x_new hC hs hn0 hw0 hcl hsq hd (by omega) (by omega) kk
  · split at hp
    · split at hp
      · rename_i ho; cases hp
        have hc1 : gN h.1 + 1 - n0 ≤ R.cells := hc1
        have hc2 : gW h.1 + (wr _).toNat - w0 ≤ R.slots := hc2
        exact x_newa hC hs hn0 hw0 har hsq hd ho.1 ho.2 (by omega) (by omega) kk
      · cases hp
    · cases hp
  · split at hp
    · split at hp
      · rename_i ho; cases hp
        have hc1 : gN h.1 + 1 - n0 ≤ R.cells := hc1
        have hc2 : gW h.1 + (wr _).toNat - w0 ≤ R.slots := hc2
        exact x_anew hC hs hn0 hw0 har hsq hd ho.1 ho.2 (by omega) (by omega) kk
      · cases hp
    · cases hp
  · cases hp
theorem x_heap_mono {pc len kd a b wi : Nat} {ins : ClassFile.Instr} {ls : xLs} {st : List xV} {h : xH} {σ : xF} (hp : xheap rom y pc (ins, len, kd, a, b, wi) ls st h = some (.inl σ)) : gN h.1 ≤ gN σ.2.2.2.1 ∧ gW h.1 ≤ gW σ.2.2.2.1 := by
  unfold xheap at hp
  dsimp only at hp
  split at hp <;> repeat' split at hp
  all_goals first
    | (cases hp; done)
    | (cases hp; exact ⟨Nat.le_refl _, Nat.le_refl _⟩)
    | (cases hp; exact ⟨Nat.le_succ _, Nat.le_add_right _ _⟩)
theorem x_jmp_same {pc : Nat} {ins : ClassFile.Instr} {ls : xLs} {st : List xV} {h : xH} {σ : xF} (hp : xjmp pc ins ls st h = some (.inl σ)) : σ.2.2.2 = h := by
  unfold xjmp at hp
  split at hp <;> repeat' split at hp
  all_goals first
    | (cases hp; done)
    | (cases hp; rfl)
theorem x_call_same {pc : Nat} {q : xQ} {ls : xLs} {st : List xV} {h : xH} {σ : xF} (hp : xcall d pc q ls st h = some (.inl σ)) : σ.2.2.2.1 = h.1 ∧ ¬ q.2.2.1 ≤ 1 := by
  unfold xcall at hp
  dsimp only at hp
  split at hp
  · unfold xinv at hp
    split at hp
    · split at hp <;> cases hp
    · by_cases hr : xrecv h.1 (if (xinfo q.2.2.2.1).2.2.2.2.2.1 = 2 then 99 else (xinfo q.2.2.2.1).2.2.2.2.2.2) (st[(xinfo q.2.2.2.1).2.2.2.2.1]?)
      · rw [if_pos hr] at hp
        split at hp <;> cases hp
      · rw [if_neg hr] at hp; cases hp
  · rename_i hk
    refine ⟨?_, hk⟩
    split at hp
    · cases hp
    · split at hp <;> repeat' split at hp
      all_goals first
        | (cases hp; done)
        | (cases hp; rfl)
theorem x_disp_same {q : xQ} {st : List xV} {h : xH} {σ : xF} (hp : xdisp q st h = some (.inl σ)) : False := by
  unfold xdisp at hp
  cases hp
theorem x_ret_same {ins : ClassFile.Instr} {st : List xV} {σ : xF} (hp : xret y ins st = some (.inl σ)) : False := by
  unfold xret at hp
  split at hp
  · split at hp
    · rename_i z
      by_cases hr : xretOk y z
      · rw [if_pos hr] at hp; cases hp
      · rw [if_neg hr] at hp; cases hp
    · cases hp
  · split at hp
    · split at hp <;> cases hp
    · cases hp
  · split at hp
    · split at hp <;> cases hp
    · cases hp
  · split at hp
    · split at hp <;> cases hp
    · cases hp
  · cases hp
theorem x_mono {pc : Nat} {q : xQ} {ls : xLs} {st : List xV} {h : xH} {σ : xF} (hp : xstep rom d y pc q ls st h = some (.inl σ)) : gN h.1 ≤ gN σ.2.2.2.1 ∧ gW h.1 ≤ gW σ.2.2.2.1 := by
  obtain ⟨ins, len, kd, a, b, wi⟩ := q
  unfold xstep at hp
  dsimp only at hp
  split at hp
  · split at hp
    · cases hp; exact ⟨Nat.le_refl _, Nat.le_refl _⟩
    · cases hp
  · rw [x_jmp_same hp]; exact ⟨Nat.le_refl _, Nat.le_refl _⟩
  · repeat' split at hp
    all_goals first
      | (cases hp; done)
      | (cases hp; exact ⟨Nat.le_refl _, Nat.le_refl _⟩)
  · repeat' split at hp
    all_goals first
      | (cases hp; done)
      | (cases hp; exact ⟨Nat.le_refl _, Nat.le_refl _⟩)
  · repeat' split at hp
    all_goals first
      | (cases hp; done)
      | (cases hp; exact ⟨Nat.le_refl _, Nat.le_refl _⟩)
  · exact x_heap_mono hp
  · split at hp
    · exact (x_disp_same hp).elim
    · rw [(x_call_same hp).1]; exact ⟨Nat.le_refl _, Nat.le_refl _⟩
  · exact (x_ret_same hp).elim
set_option maxHeartbeats 4000000 in
theorem x_step {pc : Nat} {q : xQ} {ls : xLs} {st : List xV} {h : xH} {σ : xF} (hA : xAll) (hC : XC rom B ra dA D d y p R s m args meth c) (hs : s.heap.size = B + n0 + 1) (hn0 : n0 ≤ gN h.1) (hw0 : w0 ≤ gW h.1) (hM : (xinfo y).2.2.2.2.2.2 < 99 → ∃ T N, vwCl[(xinfo y).2.2.2.2.2.2]? = some ((xinfo y).1.cls, T, N))
    (hq : xcode y pc = some q) (hp : xstep rom d y pc q ls st h = some (.inl σ)) (hc1 : gN σ.2.2.2.1 - n0 ≤ R.cells) (hc2 : gW σ.2.2.2.1 - w0 ≤ R.slots) (kk : xSt p l e R s m args below meth c Q B ra dA D y n0 w0 σ) : xSt p l e R s m args below meth c Q B ra dA D y n0 w0 (pc, ls, st, h) := by
  obtain ⟨hy, hd, hl, hsq⟩ := xcode_ok hA hq
  have hmono := x_mono hp
  obtain ⟨ins, len, kd, a, b, wi⟩ := q
  dsimp only at hd hl
  unfold xstep at hp
  dsimp only at hp
  split at hp
  · rename_i hcl
    have hl := hl.resolve_left (xlen_ne (by omega))
    split at hp
    · rename_i st' hst
      cases hp
      refine x_pure hC hd hl (fun i hi => ?_) (fun i hi => ?_) ⟨fun n hi => ?_, fun n hi => ?_⟩ hst kk
      · subst hi
        unfold xsq at hsq
        simp only [decide_eq_true_eq] at hsq
        exact xtbl_of hC.2.2.2.2.1 (List.mem_of_getElem? hsq) rfl
      · subst hi
        unfold xsq at hsq
        simp only [decide_eq_true_eq] at hsq
        exact xtbl_of hC.2.2.2.2.1 (List.mem_of_getElem? hsq) rfl
      · subst hi
        unfold xsq at hsq
        exact of_decide_eq_true hsq
      · subst hi
        unfold xsq at hsq
        exact of_decide_eq_true hsq
    · cases hp
  · exact x_jmp hC hd hl hp kk
  · rename_i hcl
    have hl := hl.resolve_left (xlen_ne (by omega))
    split at hp
    · rename_i k t hk
      split at hp
      · rename_i v hv
        split at hp
        · rename_i ht
          cases hp
          exact x_load hC hd hl hk hv ht kk
        · cases hp
      · cases hp
    · cases hp
  · rename_i hcl
    have hl := hl.resolve_left (xlen_ne (by omega))
    split at hp
    · rename_i k t v r hk
      split at hp
      · rename_i ht
        cases hp
        exact x_store hC hd hl hk ht.1 ht.2 kk
      · cases hp
    · cases hp
  · rename_i hcl
    have hl := hl.resolve_left (xlen_ne (by omega))
    split at hp
    · split at hp
      · rename_i z hv
        cases hp
        exact x_iinc hC hd hl hv kk
      · cases hp
    · cases hp
  · rename_i hcl
    have hl := hl.resolve_left (xlen_ne (by omega))
    exact x_heap hA hC hs hn0 hw0 hM hd hl hsq hp hc1 hc2 kk
  · rename_i hcl
    have hl := hl.resolve_left (xlen_ne (by omega))
    split at hp
    · exact (x_disp_same hp).elim
    · rename_i h11
      obtain ⟨e1, e2⟩ := x_call_same hp
      have h3 : len = 3 := by
        rw [← hl]
        unfold xcls at hcl
        split at hcl <;> first | (cases hcl; done) | rfl
      subst h3
      rw [e1] at hc1 hc2
      exact x_native hC hs hn0 hc1 hc2 hA.2.2.1 hcl hsq hd e2 h11 hp kk
  · exact (x_ret_same hp).elim
end X9
