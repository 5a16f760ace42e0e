/-! THE INTERPRETER IS SOUND, 6: the JDK's methods -/
def xjdA : Prop := Cond.static Lib.Math.max.name ∈ xtbl ∧ Cond.code Lib.Math.max.name Lib.Math.max.code 2 (some .int) ∈ xtbl ∧ Cond.static Lib.Math.min.name ∈ xtbl ∧ Cond.code Lib.Math.min.name Lib.Math.min.code 2 (some .int) ∈ xtbl ∧ Cond.static Lib.Math.abs.name ∈ xtbl ∧ Cond.code Lib.Math.abs.name Lib.Math.abs.code 1 (some .int) ∈ xtbl ∧ Cond.initialized "java/lang/Math" ∈ xtbl ∧
  Cond.native arraycopyName ∈ xtbl ∧ Cond.static arraycopyName ∈ xtbl ∧ Cond.initialized "java/lang/System" ∈ xtbl ∧ Cond.instanceMethod objectInit ∈ xtbl ∧ Cond.code objectInit ⟨#[0xb1]⟩ 1 none ∈ xtbl
section X6
variable {p : Program} {l : Launch} {e : Env} {R : Room} {s : State} {m : MethodId} {args : Array Value} {below : List Frame} {meth : Method} {c : Code} {Q : State → Prop} {B : Nat} {ra : Nat → Nat} {dA : Nat → ClassId} {D : va_G} {rom : xRom} {d y n0 w0 : Nat}
theorem xhas_size {lsC : Array Slot} {nL : Nat} {ls : xLs} (h : xhas B ra lsC nL ls) : lsC.size = nL := by
  obtain ⟨-, l, h1, -⟩ := h; exact h1.1
theorem xmax_v (x y : Int) : Int32.ofInt (if wr x < wr y then y else x) = if Int32.ofInt x < Int32.ofInt y then Int32.ofInt y else Int32.ofInt x := by
  by_cases h : wr x < wr y
  · rw [if_pos h, if_pos ((xi_lt x y).mpr h)]
  · rw [if_neg h, if_neg (fun q => h ((xi_lt x y).mp q))]
theorem xcpy_v {f g : Nat → Int} {sp dp n : Nat} : (fun k => Int32.ofInt (xcpy f g sp dp n k)) = va_cpy (fun k => Int32.ofInt (f k)) (fun k => Int32.ofInt (g k)) sp dp n := by
  funext k; unfold xcpy va_cpy; split <;> rfl
set_option maxHeartbeats 4000000 in
theorem x_native {pc len a b wi kd : Nat} {ins : ClassFile.Instr} {ls : xLs} {st : List xV} {h : xH} {σ : xF} (hC : XC rom B ra dA D d y p R s m args meth c) (hs : s.heap.size = B + n0 + 1) (hn0 : n0 ≤ gN h.1) (hc1 : gN h.1 - n0 ≤ R.cells) (hc2 : gW h.1 - w0 ≤ R.slots) (hjd : xjdA) (hcl6 : xcls ins = 6) (hsq : xsq (xinfo y).1.cls (ins, len, kd, a, b, wi) = true) (hd : decode (xinfo y).2.1 pc = .ok (ins, 3)) (hkd : ¬ kd ≤ 1) (h11 : ¬ kd = 11)
    (hp : xcall d pc (ins, len, kd, a, b, wi) ls st h = some (.inl σ))
    (kk : xSt p l e R s m args below meth c Q B ra dA D y n0 w0 σ) : xSt p l e R s m args below meth c Q B ra dA D y n0 w0 (pc, ls, st, h) := by
  obtain ⟨hx, hb, hml, hown, hts, hin, hK, hRO, hB, hfr, hlo, hNW⟩ := hC
  obtain ⟨j1, j2, j3, j4, j5, j6, j7, j8, j9, j10, j11, j12⟩ := hjd
  intro H locs lsC hH hP hS hL
  have hsz := xhas_size hL
  unfold xcall at hp
  dsimp only at hp
  rw [if_neg hkd] at hp
  split at hp
  · cases hp
  rename_i hd0
  have hfr1 : 1 ≤ R.frames := by omega
  have hlo1 : 36 ≤ R.locals := by omega
  have hls : c.maxLocals = lsC.size := by rw [hml, hsz]
  have hcats : ∀ r : List xV, ((r.map (cv B ra)).map fun v => v.category).sum = (r.map xcat).sum := cv_cats B ra
  have hk6 : ∀ i, ins = .invokespecial i → kd = 6 ∧ lw_tbl[wi]? = some (Cond.methodLink (xinfo y).1.cls i objectInit) := by
    intro i hi
    subst hi
    unfold xsq at hsq
    dsimp only at hsq
    rw [if_neg hkd] at hsq
    simpa using hsq
  have hk7 : ∀ i, ins = .invokestatic i → (kd = 7 → lw_tbl[wi]? = some (Cond.methodLink (xinfo y).1.cls i Lib.Math.max.name)) ∧ (kd = 8 → lw_tbl[wi]? = some (Cond.methodLink (xinfo y).1.cls i Lib.Math.min.name)) ∧ (kd = 9 → lw_tbl[wi]? = some (Cond.methodLink (xinfo y).1.cls i Lib.Math.abs.name)) ∧ (kd = 10 → lw_tbl[wi]? = some (Cond.methodLink (xinfo y).1.cls i arraycopyName)) ∧ kd ≠ 6 := by
    intro i hi
    subst hi
    unfold xsq at hsq
    dsimp only at hsq
    rw [if_neg hkd] at hsq
    refine ⟨fun q => ?_, fun q => ?_, fun q => ?_, fun q => ?_, fun q => ?_⟩ <;> subst q <;> simpa using hsq
  have hkv : ∀ i, ins = .invokevirtual i → False := by
    intro i hi
    subst hi
    unfold xsq at hsq
    dsimp only at hsq
    rw [if_neg h11] at hsq
    simp [hkd] at hsq
  have hcase : (∃ i, ins = .invokespecial i) ∨ (∃ i, ins = .invokestatic i) := by
    unfold xcls at hcl6
    split at hcl6 <;> first | (cases hcl6; done) | exact Or.inl ⟨_, rfl⟩ | exact Or.inr ⟨_, rfl⟩ | exact (hkv _ rfl).elim
  split at hp
  · rename_i r s'
    split at hp
    · rename_i hr
      cases hp
      rcases hcase with ⟨i, rfl⟩ | ⟨i, rfl⟩
      · show W p l e R s m args below meth c H locs _ _ Q (F0 m pc lsC (cv B ra (vR _) :: _))
        rw [cv_r hr.1]
        refine W.objInit hx hb hown (xtbl_of hts (List.mem_of_getElem? (hk6 i rfl).2) rfl) (hts _ j11) (hts _ j12) rfl hls.symm rfl hd hfr1 (by show 2 * 0 + ((s'.map (cv B ra)).map fun v => v.category).sum + 12 ≤ _; rw [hcats]; omega) ?_
        exact W.eq (g2 := F0 m (pc + 3) lsC (s'.map (cv B ra))) rfl (kk H locs lsC hH hP hS hL)
      · exact absurd rfl (hk7 i rfl).2.2.2.2
    · cases hp
  · rename_i yy xx s'
    split at hp
    · rename_i hr
      cases hp
      rcases hcase with ⟨i, rfl⟩ | ⟨i, rfl⟩
      · have := (hk6 i rfl).1; omega
      · exact va_mmax hx hb hls hown (xtbl_of hts (List.mem_of_getElem? ((hk7 i rfl).1 rfl)) rfl) (hts _ j1) (hts _ j7) (hts _ j2) hfr1 (by rw [hcats]; omega) hc1 hc2 hd (W_top (congrArg Value.int (xmax_v xx yy)) (kk H locs lsC hH hP hS hL))
    · cases hp
  · rename_i yy xx s'
    split at hp
    · rename_i hr
      cases hp
      rcases hcase with ⟨i, rfl⟩ | ⟨i, rfl⟩
      · have := (hk6 i rfl).1; omega
      · exact va_mmin hx hb hls hown (xtbl_of hts (List.mem_of_getElem? ((hk7 i rfl).2.1 rfl)) rfl) (hts _ j3) (hts _ j7) (hts _ j4) hfr1 (by rw [hcats]; omega) hc1 hc2 hd (W_top (congrArg Value.int (by
          by_cases h9 : wr yy < wr xx
          · rw [if_pos h9, if_pos ((xi_lt yy xx).mpr h9)]
          · rw [if_neg h9, if_neg (fun q => h9 ((xi_lt yy xx).mp q))])) (kk H locs lsC hH hP hS hL))
    · cases hp
  · rename_i xx s'
    split at hp
    · rename_i hr
      cases hp
      rcases hcase with ⟨i, rfl⟩ | ⟨i, rfl⟩
      · have := (hk6 i rfl).1; omega
      · exact va_mabs hx hb hls hown (xtbl_of hts (List.mem_of_getElem? ((hk7 i rfl).2.2.1 rfl)) rfl) (hts _ j5) (hts _ j7) (hts _ j6) hfr1 (by rw [hcats]; omega) hc1 hc2 hd (W_top (congrArg Value.int (by
          by_cases h9 : wr xx < 0
          · rw [if_pos h9, if_neg (fun q => by have := (xi_0le xx).mp q; omega), Int32.ofInt_neg, Int32.zero_sub]
          · rw [if_neg h9, if_pos ((xi_0le xx).mpr (by omega))])) (kk H locs lsC hH hP hS hL))
    · cases hp
  · rename_i nn dp aa sp a0 s'
    split at hp
    · rename_i hr
      obtain ⟨⟨u1, u2, u3⟩, ⟨v1, v2, v3⟩, r1, r2, r3, r4, r5, r6⟩ := hr
      cases hp
      rcases hcase with ⟨i, rfl⟩ | ⟨i, rfl⟩
      · have := (hk6 i rfl).1; omega
      · have hea := wsx_at (dA := dA) (B := B) (h := h) u1 u2
        have hea0 := wsx_at (dA := dA) (B := B) (h := h) v1 v2
        rw [xcont_arr u3 (by omega), xarr_i (Or.inl u3)] at hea
        rw [xcont_arr v3 (by omega), xarr_i (Or.inl v3)] at hea0
        show W p l e R s m args below meth c H locs _ _ Q (F0 m pc lsC (.int (Int32.ofInt nn) :: .int (Int32.ofInt dp) :: cv B ra (vR aa) :: .int (Int32.ofInt sp) :: cv B ra (vR a0) :: _))
        rw [cv_r (r := aa) (by omega), cv_r (r := a0) (by omega)]
        have hnf : nativeFrameWords "java/lang/System" "arraycopy" 5 + 11 ≤ 28 := by decide
        have hroom : ((s'.map (cv B ra)).map fun v => v.category).sum + (nativeFrameWords "java/lang/System" "arraycopy" 5 + 11) ≤ R.locals := by rw [hcats]; omega
        refine va_copyi hx hb hls hown (xtbl_of hts (List.mem_of_getElem? ((hk7 i rfl).2.2.2.1 rfl)) rfl) (hts _ j8) (hts _ j9) (hts _ j10) hK hP (wsx_D dA B h) hS (a0 - 1) (aa - 1) 0 0 hea0 hea rfl rfl rfl (fun q => by have := (xi_lt0 sp).mp q; omega) (fun q => by have := (xi_lt0 dp).mp q; omega) (fun q => by have := (xi_lt0 nn).mp q; omega) (by rw [xi_cl, xi_cl]; show (wr sp).toNat + (wr nn).toNat ≤ gZ h.1 a0; omega) (by rw [xi_cl, xi_cl]; show (wr dp).toNat + (wr nn).toNat ≤ gZ h.1 aa; omega) (fun _ _ => rfl) hfr1 hroom hd (fun H1 locs1 hP1 hD1 hS1 => ?_)
        rw [wsx_set (h' := (h.1, xrow h.2 aa (xcpy (h.2 a0) (h.2 aa) (wr sp).toNat (wr dp).toNat (wr nn).toNat))) u1 u2 rfl (fun j hj => xcont_cong rfl rfl rfl (xrow_ne hj)) (by
          rw [xcont_arr (h := (h.1, xrow h.2 aa (xcpy (h.2 a0) (h.2 aa) (wr sp).toNat (wr dp).toNat (wr nn).toNat))) u3 (by omega), xarr_i (h := (h.1, xrow h.2 aa (xcpy (h.2 a0) (h.2 aa) (wr sp).toNat (wr dp).toNat (wr nn).toNat))) (Or.inl u3)]
          show Sum.inl (_, _, Sum.inl (fun k => Int32.ofInt (xrow h.2 aa (xcpy (h.2 a0) (h.2 aa) (wr sp).toNat (wr dp).toNat (wr nn).toNat) aa k))) = _
          rw [xrow_at, xcpy_v]; rfl)] at hP1
        exact W_size (h := (h.1, xrow h.2 aa (xcpy (h.2 a0) (h.2 aa) (wr sp).toNat (wr dp).toNat (wr nn).toNat))) hs hn0 hP1 hS1 (fun hz1 => kk H1 locs1 lsC hz1 hP1 hS1 hL)
    · cases hp
  · cases hp
end X6
