/-! MEANING, 5: the reference's state -/
def enc (A : xM) (k : Nat) : Int := if k < 32 then A 0 k else pack9 (fun j => A ((k - 32) / 192 + 1) (9 * ((k - 32) % 192) + j))
theorem pr2 {α β : Type} {a a' : α} {b b' : β} (h1 : a = a') (h2 : b = b') : (a, b) = (a', b') := by rw [h1, h2]
theorem xset_d {α : Type} {M : Nat → Nat → α} {r j a b : Nat} {v : α} : xset M r j v a b = if a = r ∧ b = j then v else M a b := rfl
theorem WFf_sc {A : xM} {k : Nat} {v : Int} (h : WFf A) : WFf (xset A 0 k v) := fun l x hl hx => by rw [xset_r (by omega)]; exact h l x hl hx
theorem WFf_set {A : xM} {r k : Nat} {v : Int} (h : WFf A) (hv : 0 ≤ v ∧ v ≤ 99) : WFf (xset A r k v) := fun l x hl hx => by
  unfold xset
  split
  · exact hv
  · exact h l x hl hx
theorem WFf_row {A : xM} {r n : Nat} {f : Nat → Int} (h : WFf A) (hv : ∀ j, j < n → 0 ≤ f j ∧ f j ≤ 99) : WFf (rowU A r n f) := fun l x hl hx => by
  unfold rowU
  split
  · rename_i q; exact hv x q.2
  · exact h l x hl hx
theorem m_idx {l c k : Nat} (hl : l < 7) (hc : c < 48) (hk : k < 36) : wr (((32 + (192 * (l : Int))) + (4 * (c : Int))) + ((wr (k : Int)).tdiv 9)) = ((32 + 192 * l + 4 * c + k / 9 : Nat) : Int) ∧ 7 * (wr (k : Int)).tmod 9 = ((7 * (k % 9) : Nat) : Int) := by
  rw [wri (k : Int) (by omega) (by omega), Int.tdiv_eq_ediv_of_nonneg (by omega), Int.tmod_eq_emod_of_nonneg (by omega)]
  constructor
  · rw [wri _ (by omega) (by omega)]; omega
  · omega
theorem wr_1 : wr 1 = 1 := by decide +kernel