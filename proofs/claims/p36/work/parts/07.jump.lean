/-! THE INTERPRETER IS SOUND, 2: jumps and locals -/
section X2
variable {p : Program} {l : Launch} {e : Env} {R : Room} {s : State} {m : MethodId} {args : Array Value} {below : List Frame} {meth : Method} {c : Code} {Q : State → Prop} {B : Nat} {ra : Nat → Nat} {dA : Nat → ClassId} {D : va_G} {rom : xRom} {d y n0 w0 : Nat}
theorem xtgt_ok {pc : Nat} {off : Int} (h : 0 ≤ (pc : Int) + off) : (pc : Int) + off = ((xtgt pc off : Nat) : Int) := (Int.toNat_of_nonneg h).symm
theorem x_offs {offs : Array Int} {k : Nat} {df : Int} (h : k < offs.size) : offs[k]? = some (offs.toList.getD k df) := by
  rw [List.getD_eq_getElem?_getD, Array.getElem?_toList]
  cases hq : offs[k]? with
  | none => rw [Array.getElem?_eq_none_iff] at hq; omega
  | some v => rfl
set_option maxHeartbeats 4000000 in
theorem x_jmp {pc len : Nat} {ins : ClassFile.Instr} {ls : xLs} {st : List xV} {h : xH} {σ : xF} (hC : XC rom B ra dA D d y p R s m args meth c) (hd : decode (xinfo y).2.1 pc = .ok (ins, len)) (hl : xlen ins = 0 ∨ xlen ins = len)
    (hp : xjmp pc ins ls st h = some (.inl σ)) (k : xSt p l e R s m args below meth c Q B ra dA D y n0 w0 σ) : xSt p l e R s m args below meth c Q B ra dA D y n0 w0 (pc, ls, st, h) := by
  obtain ⟨hx, hb, hml, hown, hts, hin, hK, hRO, hB, hfr, hlo, hNW⟩ := hC
  intro H locs lsC hH hP hS hL
  unfold xjmp at hp
  split at hp
  · have hl := hl.resolve_left (show ¬ (3 : Nat) = 0 by decide)
    have hl := hl.symm
    subst hl
    split at hp
    · rename_i ht
      cases hp
      exact lv_goto hx hb hd (xtgt_ok ht) (k H locs lsC hH hP hS hL)
    · cases hp
  · have hl := hl.resolve_left (show ¬ (3 : Nat) = 0 by decide)
    have hl := hl.symm
    subst hl
    rename_i cn off x9
    split at hp
    · split at hp
      · rename_i ht
        cases cn
        · split at hp
          · rename_i hz
            cases hp
            exact lv_icmp_eq hx hb hd (xtgt_ok ht) (fun _ => (k H locs lsC hH hP hS hL)) (fun z => absurd ((xi_eq _ _).mpr hz) z)
          · rename_i hz
            cases hp
            exact lv_icmp_eq hx hb hd (xtgt_ok ht) (fun z => absurd ((xi_eq _ _).mp z) hz) (fun _ => (k H locs lsC hH hP hS hL))
        · split at hp
          · rename_i hz
            cases hp
            exact lv_icmp_ne hx hb hd (xtgt_ok ht) (fun _ => (k H locs lsC hH hP hS hL)) (fun z => absurd ((xi_eq _ _).mp z) hz)
          · rename_i hz
            cases hp
            exact lv_icmp_ne hx hb hd (xtgt_ok ht) (fun z => absurd (fun q => z ((xi_eq _ _).mpr q)) hz) (fun _ => (k H locs lsC hH hP hS hL))
        · split at hp
          · rename_i hz
            cases hp
            exact lv_icmp_lt hx hb hd (xtgt_ok ht) (fun _ => (k H locs lsC hH hP hS hL)) (fun z => absurd ((xi_lt _ _).mpr hz) z)
          · rename_i hz
            cases hp
            exact lv_icmp_lt hx hb hd (xtgt_ok ht) (fun z => absurd ((xi_lt _ _).mp z) hz) (fun _ => (k H locs lsC hH hP hS hL))
        · split at hp
          · rename_i hz
            cases hp
            exact lv_icmp_ge hx hb hd (xtgt_ok ht) (fun _ => (k H locs lsC hH hP hS hL)) (fun z => absurd ((xi_le _ _).mpr hz) z)
          · rename_i hz
            cases hp
            exact lv_icmp_ge hx hb hd (xtgt_ok ht) (fun z => absurd ((xi_le _ _).mp z) hz) (fun _ => (k H locs lsC hH hP hS hL))
        · split at hp
          · rename_i hz
            cases hp
            exact lv_icmp_gt hx hb hd (xtgt_ok ht) (fun _ => (k H locs lsC hH hP hS hL)) (fun z => absurd ((xi_lt _ _).mpr hz) z)
          · rename_i hz
            cases hp
            exact lv_icmp_gt hx hb hd (xtgt_ok ht) (fun z => absurd ((xi_lt _ _).mp z) hz) (fun _ => (k H locs lsC hH hP hS hL))
        · split at hp
          · rename_i hz
            cases hp
            exact lv_icmp_le hx hb hd (xtgt_ok ht) (fun _ => (k H locs lsC hH hP hS hL)) (fun z => absurd ((xi_le _ _).mpr hz) z)
          · rename_i hz
            cases hp
            exact lv_icmp_le hx hb hd (xtgt_ok ht) (fun z => absurd ((xi_le _ _).mp z) hz) (fun _ => (k H locs lsC hH hP hS hL))
      · cases hp
    · cases hp
  · have hl := hl.resolve_left (show ¬ (3 : Nat) = 0 by decide)
    have hl := hl.symm
    subst hl
    rename_i cn off x9
    split at hp
    · split at hp
      · rename_i ht
        cases cn
        · split at hp
          · rename_i hz
            cases hp
            exact lv_if_eq hx hb hd (xtgt_ok ht) (fun _ => (k H locs lsC hH hP hS hL)) (fun z => absurd ((xi_eq0 _).mpr hz) z)
          · rename_i hz
            cases hp
            exact lv_if_eq hx hb hd (xtgt_ok ht) (fun z => absurd ((xi_eq0 _).mp z) hz) (fun _ => (k H locs lsC hH hP hS hL))
        · split at hp
          · rename_i hz
            cases hp
            exact lv_if_ne hx hb hd (xtgt_ok ht) (fun _ => (k H locs lsC hH hP hS hL)) (fun z => absurd ((xi_eq0 _).mp z) hz)
          · rename_i hz
            cases hp
            exact lv_if_ne hx hb hd (xtgt_ok ht) (fun z => absurd (fun q => z ((xi_eq0 _).mpr q)) hz) (fun _ => (k H locs lsC hH hP hS hL))
        · split at hp
          · rename_i hz
            cases hp
            exact lv_if_lt hx hb hd (xtgt_ok ht) (fun _ => (k H locs lsC hH hP hS hL)) (fun z => absurd ((xi_lt0 _).mpr hz) z)
          · rename_i hz
            cases hp
            exact lv_if_lt hx hb hd (xtgt_ok ht) (fun z => absurd ((xi_lt0 _).mp z) hz) (fun _ => (k H locs lsC hH hP hS hL))
        · split at hp
          · rename_i hz
            cases hp
            exact lv_if_ge hx hb hd (xtgt_ok ht) (fun _ => (k H locs lsC hH hP hS hL)) (fun z => absurd ((xi_0le _).mpr hz) z)
          · rename_i hz
            cases hp
            exact lv_if_ge hx hb hd (xtgt_ok ht) (fun z => absurd ((xi_0le _).mp z) hz) (fun _ => (k H locs lsC hH hP hS hL))
        · split at hp
          · rename_i hz
            cases hp
            exact lv_if_gt hx hb hd (xtgt_ok ht) (fun _ => (k H locs lsC hH hP hS hL)) (fun z => absurd ((xi_0lt _).mpr hz) z)
          · rename_i hz
            cases hp
            exact lv_if_gt hx hb hd (xtgt_ok ht) (fun z => absurd ((xi_0lt _).mp z) hz) (fun _ => (k H locs lsC hH hP hS hL))
        · split at hp
          · rename_i hz
            cases hp
            exact lv_if_le hx hb hd (xtgt_ok ht) (fun _ => (k H locs lsC hH hP hS hL)) (fun z => absurd ((xi_le0 _).mpr hz) z)
          · rename_i hz
            cases hp
            exact lv_if_le hx hb hd (xtgt_ok ht) (fun z => absurd ((xi_le0 _).mp z) hz) (fun _ => (k H locs lsC hH hP hS hL))
      · cases hp
    · cases hp
  · have hl := hl.resolve_left (show ¬ (3 : Nat) = 0 by decide)
    have hl := hl.symm
    subst hl
    split at hp
    · split at hp
      · rename_i ht
        split at hp
        · rename_i hz
          subst hz
          cases hp
          exact lv_ifnullN hx hb hd (xtgt_ok ht) (k H locs lsC hH hP hS hL)
        · rename_i hz
          cases hp
          show W p l e R s m args below meth c H locs _ _ Q (F0 m pc lsC (cv B ra (vR _) :: _))
          rw [cv_r hz]
          exact lv_ifnull hx hb hd (k H locs lsC hH hP hS hL)
      · cases hp
    · cases hp
  · have hl := hl.resolve_left (show ¬ (3 : Nat) = 0 by decide)
    have hl := hl.symm
    subst hl
    split at hp
    · split at hp
      · rename_i ht
        split at hp
        · rename_i hz
          subst hz
          cases hp
          exact lv_ifnonnullN hx hb hd (k H locs lsC hH hP hS hL)
        · rename_i hz
          cases hp
          show W p l e R s m args below meth c H locs _ _ Q (F0 m pc lsC (cv B ra (vR _) :: _))
          rw [cv_r hz]
          exact lv_ifnonnull hx hb hd (xtgt_ok ht) (k H locs lsC hH hP hS hL)
      · cases hp
    · cases hp
  · split at hp
    · rename_i dd lo hj offs _ xx rr
      split at hp
      · rename_i ht
        obtain ⟨ht, hi⟩ := ht
        cases hp
        unfold xsw at ht k
        by_cases h1 : wr xx < lo
        · rw [if_pos h1] at ht k
          exact lv_tableOut hx hb hd (Or.inl h1) (xtgt_ok ht) (k H locs lsC hH hP hS hL)
        · rw [if_neg h1] at ht k
          by_cases h2 : hj < wr xx
          · rw [if_pos h2] at ht k
            exact lv_tableOut hx hb hd (Or.inr h2) (xtgt_ok ht) (k H locs lsC hH hP hS hL)
          · rw [if_neg h2] at ht k
            exact lv_tableIn hx hb hd h1 h2 (x_offs (hi.resolve_right (fun z => z.elim h1 h2))) (xtgt_ok ht) (k H locs lsC hH hP hS hL)
      · cases hp
    · cases hp
  · split at hp
    · split at hp
      · rename_i ht
        cases hp
        exact lv_lookup hx hb hd ht.2 rfl (xtgt_ok ht.1) (k H locs lsC hH hP hS hL)
      · cases hp
    · cases hp
  · cases hp
set_option maxHeartbeats 4000000 in
theorem x_load {pc len k t : Nat} {ins : ClassFile.Instr} {ls : xLs} {st : List xV} {h : xH} {v : xV} (hC : XC rom B ra dA D d y p R s m args meth c) (hd : decode (xinfo y).2.1 pc = .ok (ins, len)) (hl : xlen ins = len)
    (hp : xld ins = some (k, t)) (hv : ls.getD k none = some v) (ht : xsort v = t) (kk : xSt p l e R s m args below meth c Q B ra dA D y n0 w0 (pc + len, ls, v :: st, h)) : xSt p l e R s m args below meth c Q B ra dA D y n0 w0 (pc, ls, st, h) := by
  obtain ⟨hx, hb, hml, hown, hts, hin, hK, hRO, hB, hfr, hlo, hNW⟩ := hC
  intro H locs lsC hH hP hS hL
  have hg := xhas_get hL hv
  have kk := kk H locs lsC hH hP hS hL
  unfold xld at hp
  split at hp
  · have hl := hl.symm
    subst hl
    cases hp
    match v, ht, hg, kk with
    | .inl z, _, hg, kk => exact lv_iload hx hb hd hg kk
  · have hl := hl.symm
    subst hl
    cases hp
    match v, ht, hg, kk with
    | .inl z, _, hg, kk => exact lv_iload_n hx hb hd rfl hg kk
  · have hl := hl.symm
    subst hl
    cases hp
    match v, ht, hg, kk with
    | .inr (.inl z), _, hg, kk => exact lv_lload hx hb hd hg kk
  · have hl := hl.symm
    subst hl
    cases hp
    match v, ht, hg, kk with
    | .inr (.inl z), _, hg, kk => exact lv_lload_n hx hb hd rfl hg kk
  · have hl := hl.symm
    subst hl
    cases hp
    match v, ht, hg, kk with
    | .inr (.inr (.inl r)), _, hg, kk =>
      by_cases hr : r = 0
      · subst hr
        exact lv_aloadN hx hb hd hg kk
      · rw [cv_r hr] at hg
        refine lv_aload hx hb hd hg ?_
        rw [← cv_r (ra := ra) hr]
        exact kk
    | .inr (.inr (.inr (.inl r))), _, hg, kk => exact lv_aload hx hb hd hg kk
  · have hl := hl.symm
    subst hl
    cases hp
    match v, ht, hg, kk with
    | .inr (.inr (.inl r)), _, hg, kk =>
      by_cases hr : r = 0
      · subst hr
        exact lv_aload_nN hx hb hd rfl hg kk
      · rw [cv_r hr] at hg
        refine lv_aload_n hx hb hd rfl hg ?_
        rw [← cv_r (ra := ra) hr]
        exact kk
    | .inr (.inr (.inr (.inl r))), _, hg, kk => exact lv_aload_n hx hb hd rfl hg kk
  · have hl := hl.symm
    subst hl
    cases hp
    match v, ht, hg, kk with
    | .inr (.inr (.inr (.inr z))), _, hg, kk => exact lv_dload hx hb hd hg kk
  · have hl := hl.symm
    subst hl
    cases hp
    match v, ht, hg, kk with
    | .inr (.inr (.inr (.inr z))), _, hg, kk => exact lv_dload_n hx hb hd rfl hg kk
  · cases hp
set_option maxHeartbeats 4000000 in
theorem x_store {pc len k t : Nat} {ins : ClassFile.Instr} {ls : xLs} {st : List xV} {h : xH} {v : xV} (hC : XC rom B ra dA D d y p R s m args meth c) (hd : decode (xinfo y).2.1 pc = .ok (ins, len)) (hl : xlen ins = len)
    (hp : xso ins = some (k, t)) (ht : xsort v = t) (hk : k + xcat v ≤ ls.length) (kk : xSt p l e R s m args below meth c Q B ra dA D y n0 w0 (pc + len, xsto ls k v, st, h)) : xSt p l e R s m args below meth c Q B ra dA D y n0 w0 (pc, ls, v :: st, h) := by
  obtain ⟨hx, hb, hml, hown, hts, hin, hK, hRO, hB, hfr, hlo, hNW⟩ := hC
  intro H locs lsC hH hP hS hL
  obtain ⟨hn, l9, hl9, h9⟩ := hL
  have hn : ls.length = (xinfo y).2.2.1 := hn
  unfold xso at hp
  split at hp
  · have hl := hl.symm
    subst hl
    cases hp
    match v, ht, hk, kk with
    | .inl z, _, hk, kk =>
      have hk : _ + 1 ≤ _ := hk
      exact lv_istore hx hb hd hl9 (by omega) rfl (fun ls2 h2 => kk H locs ls2 hH hP hS (xhas_sto1 (v := vI z) rfl (by omega) hn h9 h2))
  · have hl := hl.symm
    subst hl
    cases hp
    match v, ht, hk, kk with
    | .inl z, _, hk, kk =>
      have hk : _ + 1 ≤ _ := hk
      exact lv_istore_n hx hb hd rfl hl9 (by omega) rfl (fun ls2 h2 => kk H locs ls2 hH hP hS (xhas_sto1 (v := vI z) rfl (by omega) hn h9 h2))
  · have hl := hl.symm
    subst hl
    cases hp
    match v, ht, hk, kk with
    | .inr (.inl z), _, hk, kk =>
      have hk : _ + 2 ≤ _ := hk
      exact lv_lstore hx hb hd hl9 (by omega) rfl (fun ls2 h2 => kk H locs ls2 hH hP hS (xhas_sto2 (v := vL z) rfl (by omega) hn h9 h2))
  · have hl := hl.symm
    subst hl
    cases hp
    match v, ht, hk, kk with
    | .inr (.inl z), _, hk, kk =>
      have hk : _ + 2 ≤ _ := hk
      exact lv_lstore_n hx hb hd rfl hl9 (by omega) rfl (fun ls2 h2 => kk H locs ls2 hH hP hS (xhas_sto2 (v := vL z) rfl (by omega) hn h9 h2))
  · have hl := hl.symm
    subst hl
    cases hp
    match v, ht, hk, kk with
    | .inr (.inr (.inl r)), _, hk, kk =>
      have hk : _ + 1 ≤ _ := hk
      by_cases hr : r = 0
      · subst hr
        exact lv_astoreN hx hb hd hl9 (by omega) rfl (fun ls2 h2 => kk H locs ls2 hH hP hS (xhas_sto1 (v := vR 0) rfl (by omega) hn h9 h2))
      · show W p l e R s m args below meth c H locs _ _ Q (F0 m pc lsC (cv B ra (vR r) :: _))
        rw [cv_r hr]
        exact lv_astore hx hb hd hl9 (by omega) rfl (fun ls2 h2 => kk H locs ls2 hH hP hS (xhas_sto1 (v := vR r) rfl (by omega) hn h9 (by rw [cv_r hr]; exact h2)))
    | .inr (.inr (.inr (.inl r))), _, hk, kk =>
      have hk : _ + 1 ≤ _ := hk
      exact lv_astore hx hb hd hl9 (by omega) rfl (fun ls2 h2 => kk H locs ls2 hH hP hS (xhas_sto1 (v := vS r) rfl (by omega) hn h9 h2))
  · have hl := hl.symm
    subst hl
    cases hp
    match v, ht, hk, kk with
    | .inr (.inr (.inl r)), _, hk, kk =>
      have hk : _ + 1 ≤ _ := hk
      by_cases hr : r = 0
      · subst hr
        exact lv_astore_nN hx hb hd rfl hl9 (by omega) rfl (fun ls2 h2 => kk H locs ls2 hH hP hS (xhas_sto1 (v := vR 0) rfl (by omega) hn h9 h2))
      · show W p l e R s m args below meth c H locs _ _ Q (F0 m pc lsC (cv B ra (vR r) :: _))
        rw [cv_r hr]
        exact lv_astore_n hx hb hd rfl hl9 (by omega) rfl (fun ls2 h2 => kk H locs ls2 hH hP hS (xhas_sto1 (v := vR r) rfl (by omega) hn h9 (by rw [cv_r hr]; exact h2)))
    | .inr (.inr (.inr (.inl r))), _, hk, kk =>
      have hk : _ + 1 ≤ _ := hk
      exact lv_astore_n hx hb hd rfl hl9 (by omega) rfl (fun ls2 h2 => kk H locs ls2 hH hP hS (xhas_sto1 (v := vS r) rfl (by omega) hn h9 h2))
  · have hl := hl.symm
    subst hl
    cases hp
    match v, ht, hk, kk with
    | .inr (.inr (.inr (.inr z))), _, hk, kk =>
      have hk : _ + 2 ≤ _ := hk
      exact lv_dstore hx hb hd hl9 (by omega) rfl (fun ls2 h2 => kk H locs ls2 hH hP hS (xhas_sto2 (v := vD z) rfl (by omega) hn h9 h2))
  · have hl := hl.symm
    subst hl
    cases hp
    match v, ht, hk, kk with
    | .inr (.inr (.inr (.inr z))), _, hk, kk =>
      have hk : _ + 2 ≤ _ := hk
      exact lv_dstore_n hx hb hd rfl hl9 (by omega) rfl (fun ls2 h2 => kk H locs ls2 hH hP hS (xhas_sto2 (v := vD z) rfl (by omega) hn h9 h2))
  · cases hp
theorem x_iinc {pc len k : Nat} {n z : Int} {ls : xLs} {st : List xV} {h : xH} (hC : XC rom B ra dA D d y p R s m args meth c) (hd : decode (xinfo y).2.1 pc = .ok (.iinc k n, len)) (hl : xlen (.iinc k n) = len)
    (hv : ls.getD k none = some (vI z)) (kk : xSt p l e R s m args below meth c Q B ra dA D y n0 w0 (pc + 3, ls.set k (some (vI (z + n))), st, h)) : xSt p l e R s m args below meth c Q B ra dA D y n0 w0 (pc, ls, st, h) := by
  obtain ⟨hx, hb, hml, hown, hts, hin, hK, hRO, hB, hfr, hlo, hNW⟩ := hC
  intro H locs lsC hH hP hS hL
  obtain ⟨hn, l9, hl9, h9⟩ := hL
  have hn : ls.length = (xinfo y).2.2.1 := hn
  have hl := hl.symm
  subst hl
  obtain ⟨j, hj⟩ := List.getElem?_of_mem (h9 k _ hv)
  have hkl : k < ls.length := by
    rcases Nat.lt_or_ge k ls.length with q | q
    · exact q
    · rw [List.getD_eq_getElem?_getD, List.getElem?_eq_none q] at hv; cases hv
  exact lv_iinc hx hb hd hl9 hj (Int32.ofInt_add z n).symm (by omega) rfl (fun ls2 h2 => kk H locs ls2 hH hP hS (xhas_inc (by omega) hn hl9 h9 hv h2))
end X2
