/-! MEANING, 39: where the tune begins -/
section MT
variable {M A : xM} {T : Int} {P : Nat → xM} {n o : Nat} {S : xM} {sv : Int} {pd : Nat → Int} {len : Nat} {st : Nat → Int} {stp : Int}
def mt (hk : Nat → Int) (L : Nat) : List Int → Nat → Int
  | [], _ => 1
  | x :: l, c => if hk c = x then mt hk L l ((c + 1) % L) else 0
theorem mt_b {hk : Nat → Int} {L : Nat} : ∀ (l : List Int) (c : Nat), mt hk L l c = 0 ∨ mt hk L l c = 1 := by
  intro l
  induction l with
  | nil => intro c; exact Or.inr rfl
  | cons x l ih =>
    intro c
    show (if hk c = x then mt hk L l ((c + 1) % L) else 0) = 0 ∨ (if hk c = x then mt hk L l ((c + 1) % L) else 0) = 1
    by_cases q : hk c = x
    · rw [if_pos q]; exact ih _
    · rw [if_neg q]; exact Or.inl rfl
def hkey (A : xM) (c : Nat) : Int := fnd 2 (aRing A (A 0 7).toNat c) 36
theorem hkey_b {c : Nat} : -4 ≤ hkey A c ∧ hkey A c ≤ 36 := by
  have := fnd_b (R := aRing A (A 0 7).toNat c) (w := 2) 36
  unfold hkey; omega
abbrev uB (M : xM) : Int × Int × Int → Option ((Int × Int × Int) ⊕ Int) := fun s => f_206_L7b M s.1 s.2.1 s.2.2
theorem ub_end (h : PM M pd len) {v c : Int} (hv : v = 0 ∨ v = 1) {p : Nat} (hp : len ≤ p ∧ p ≤ 61) : f_206_L7b M v c (p : Int) = some (Sum.inr v) := by
  have h3 := h.2.2.1
  unfold f_206_L7b
  rw [h.1, wri (len : Int) (by omega) (by omega), wri (p : Int) (by omega) (by omega), if_pos (by omega), wri v (by omega) (by omega), gd_pos hv]
theorem u_40 (h : PM M pd len) (hI : inS M A 183 0) (hX : WX T A) {L : Nat} (hL : aLen A (A 0 7).toNat = (L : Int)) (h1 : 1 ≤ L ∧ L ≤ 48) {c p e : Nat} {s0 : Int} (hc : c < L) (hp : p < 100) (he : nE pd len p 0 35 = e) : f_206_L40 M (c : Int) (p : Int) s0 = some (Sum.inl (s0, (((c + 1) % L : Nat) : Int), (e : Int) + 1)) := by
  unfold f_206_L40
  rw [m_147' hI hX.1, Option.bind_some, hL, wri (L : Int) (by omega) (by omega), gd_pos (by omega), m_183 h (show p < 900 by omega) (Or.inl rfl) (by decide), Option.bind_some, he, wri ((c : Int) + 1) (by omega) (by omega), Int.tmod_eq_emod_of_nonneg (by omega), Int.natCast_emod]
  rfl
theorem ub_num (h : PM M pd len) (hI : inS M A 183 0) (hX : WX T A) {L : Nat} (hL : aLen A (A 0 7).toNat = (L : Int)) (h1 : 1 ≤ L ∧ L ≤ 48) {c p e : Nat} {v : Int} (hv : v = 0 ∨ v = 1) (hc : c < L) (hp : p < len) (he : nE pd len p 0 35 = e) (hx : 0 ≤ NV pd len 0 p ∧ NV pd len 0 p ≤ 35) : f_206_L7b M v (c : Int) (p : Int) = some (Sum.inl ((if v = 0 then 0 else if hkey A c = NV pd len 0 p then 1 else 0), (((c + 1) % L : Nat) : Int), (e : Int) + 1)) := by
  have h3 := h.2.2.1
  have hk := hkey_b (A := A) (c := c)
  have e201 := m_201 (M := M) hX (cell := c) (by omega) (w := 2) (by decide)
  rw [inS_mS hI, if_neg (by decide)] at e201
  have e201' : f_201 M (c : Int) 2 = some (hkey A c) := e201
  have e184 := m_184 h (show p < 800 by omega)
  have a0 := u_40 h hI hX hL h1 (s0 := 0) hc (show p < 100 by omega) he
  have a1 := u_40 h hI hX hL h1 (s0 := 1) hc (show p < 100 by omega) he
  unfold f_206_L7b f_206_L39
  rw [h.1, wri (len : Int) (by omega) (by omega), wri (p : Int) (by omega) (by omega), if_neg (by omega), wri v (by omega) (by omega)]
  rcases hv with q | q
  · rw [if_pos q, if_pos q, a0]
  · rw [if_neg (show ¬ v = 0 by omega), if_neg (show ¬ v = 0 by omega), e201', Option.bind_some, e184, Option.bind_some, wri (hkey A c) (by omega) (by omega), wri (NV pd len 0 p) (by omega) (by omega)]
    by_cases q2 : hkey A c = NV pd len 0 p
    · rw [if_pos q2, if_pos q2, a1]
    · rw [if_neg q2, if_neg q2, a0]
theorem m_206L (h : PM M pd len) (hI : inS M A 183 0) (hX : WX T A) {L : Nat} (hL : aLen A (A 0 7).toNat = (L : Int)) (h1 : 1 ≤ L ∧ L ≤ 48) : ∀ (l : List Int) (p : Nat), TL pd len l p → ∀ (v : Int) (c : Nat), (v = 0 ∨ v = 1) → c < L → ∀ f, l.length < f → loop f (uB M) (v, (c : Int), (p : Int)) = some (if v = 0 then 0 else mt (hkey A) L l c) := by
  have h3 := h.2.2.1
  intro l
  induction l with
  | nil => intro p ht; exact ht.elim
  | cons x l ih =>
    intro p ht v c hv hc f hf
    rw [List.length_cons] at hf
    obtain ⟨f, rfl⟩ : ∃ f', f = f' + 1 := ⟨f - 1, by omega⟩
    obtain ⟨hx, hxb, e, hn, g1, g2, hd, h7⟩ := ht
    have b := ub_num h hI hX hL h1 hv hc (show p < len by omega) hn (by rw [← hx]; exact hxb)
    rw [← hx] at b
    have hmod : (c + 1) % L < L := Nat.mod_lt _ (by omega)
    have emt : mt (hkey A) L (x :: l) c = if hkey A c = x then mt (hkey A) L l ((c + 1) % L) else 0 := rfl
    obtain ⟨v', hv'⟩ : ∃ v' : Int, v' = (if v = 0 then 0 else if hkey A c = x then 1 else 0) := ⟨_, rfl⟩
    have hv1 : v' = 0 ∨ v' = 1 := by rw [hv']; split; exact Or.inl rfl; split; exact Or.inr rfl; exact Or.inl rfl
    rw [← hv'] at b
    have goal' : (if v' = 0 then 0 else mt (hkey A) L l ((c + 1) % L)) = (if v = 0 then 0 else mt (hkey A) L (x :: l) c) := by
      rw [emt, hv']
      by_cases q : v = 0
      · rw [if_pos q, if_pos q, if_pos rfl]
      · rw [if_neg q, if_neg q]
        by_cases q2 : hkey A c = x
        · rw [if_pos q2, if_pos q2, if_neg (by decide)]
        · rw [if_neg q2, if_neg q2, if_pos rfl]
    rw [← goal']
    have stp1 := lpI (b := uB M) (s := (v, (c : Int), (p : Int))) (s' := (v', (((c + 1) % L : Nat) : Int), (e : Int) + 1)) (F := f) b
    rcases h7 with ⟨he, hl⟩ | ⟨he, hcm, ht⟩
    · obtain ⟨g, rfl⟩ : ∃ g, f = g + 1 := ⟨f - 1, by omega⟩
      have en := ub_end h (v := v') (c := (((c + 1) % L : Nat) : Int)) hv1 (p := e + 1) (by omega)
      rw [show ((e + 1 : Nat) : Int) = (e : Int) + 1 by omega] at en
      have L2 := stp1.trans (lpO (b := uB M) (s := (v', (((c + 1) % L : Nat) : Int), (e : Int) + 1)) (F := g) en)
      rw [L2]
      subst hl
      rcases hv1 with w | w
      · rw [if_pos w, w]
      · rw [if_neg (by omega), w]; rfl
    · have r := ih (e + 1) ht v' ((c + 1) % L) hv1 hmod f (by omega)
      rw [show ((e + 1 : Nat) : Int) = (e : Int) + 1 by omega] at r
      exact stp1.trans r
theorem m_206 (h : PM M pd len) (hI : inS M A 183 0) (hX : WX T A) {L : Nat} (hL : aLen A (A 0 7).toNat = (L : Int)) (h1 : 1 ≤ L ∧ L ≤ 48) {l : List Int} (ht : TL pd len l 0) {c : Nat} (hc : c < L) : f_206 M (c : Int) = some (mt (hkey A) L l c) := by
  have hl := TL_len l 0 ht
  have h3 := h.2.2.1
  have := m_206L h hI hX hL h1 l 0 ht 1 c (Or.inr rfl) hc NF (by show l.length < 1000000; omega)
  rw [if_neg (by decide)] at this
  unfold f_206 f_206_L7
  exact this
theorem c_14L {hk : Nat → Int} {L : Nat} (h1 : 1 ≤ L ∧ L ≤ 48) {c cnt : Nat} (hc : c < L) (hcnt : cnt ≤ 60) (hkb : ∀ c, -4 ≤ hk c ∧ hk c ≤ 36) (h180 : ∀ c, c < L → M 180 c = hk c) : ∀ (l : List Int) (i : Nat), i + l.length = cnt → (∀ j, j < l.length → M 181 (i + j) = l.getD j 0 ∧ 0 ≤ l.getD j 0 ∧ l.getD j 0 ≤ 35) → ∀ f, l.length < f → loop f (fun s => f_14_L3b M (c : Int) (cnt : Int) (L : Int) s) (i : Int) = some (mt hk L l ((c + i) % L)) := by
  intro l
  induction l with
  | nil =>
    intro i hi _ f hf
    obtain ⟨f, rfl⟩ : ∃ f', f = f' + 1 := ⟨f - 1, by omega⟩
    rw [List.length_nil] at hi
    have b : f_14_L3b M (c : Int) (cnt : Int) (L : Int) (i : Int) = some (Sum.inr 1) := by
      unfold f_14_L3b
      rw [wri (cnt : Int) (by omega) (by omega), wri (i : Int) (by omega) (by omega), if_pos (by omega)]
    exact lpO (b := fun s => f_14_L3b M (c : Int) (cnt : Int) (L : Int) s) (s := (i : Int)) (F := f) b
  | cons x l ih =>
    intro i hi hrow f hf
    obtain ⟨f, rfl⟩ : ∃ f', f = f' + 1 := ⟨f - 1, by omega⟩
    rw [List.length_cons] at hi hf
    have hr0 := hrow 0 (by rw [List.length_cons]; omega)
    rw [Nat.add_zero] at hr0
    have hx : M 181 i = x ∧ 0 ≤ x ∧ x ≤ 35 := hr0
    have hm : (c + i) % L < L := Nat.mod_lt _ (by omega)
    have e134 : f_134 ((c : Int) + (i : Int)) (L : Int) = (((c + i) % L : Nat) : Int) := by
      rw [c_134 (by omega) (by omega), Int.natCast_emod]; rfl
    have hkc := hkb ((c + i) % L)
    have b : f_14_L3b M (c : Int) (cnt : Int) (L : Int) (i : Int) = if hk ((c + i) % L) = x then some (Sum.inl ((i : Int) + 1)) else some (Sum.inr 0) := by
      unfold f_14_L3b
      rw [e134, wri (cnt : Int) (by omega) (by omega), wri (i : Int) (by omega) (by omega), if_neg (by omega), if_neg (by omega), wri (((c + i) % L : Nat) : Int) (by omega) (by omega), if_neg (by omega), if_neg (by omega), gd_pos (by omega), Int.toNat_natCast, Int.toNat_natCast, h180 _ hm, hx.1, wri (hk ((c + i) % L)) (by omega) (by omega), wri x (by omega) (by omega)]
    show _ = some (if hk ((c + i) % L) = x then mt hk L l (((c + i) % L + 1) % L) else 0)
    by_cases q : hk ((c + i) % L) = x
    · rw [if_pos q] at b
      rw [if_pos q]
      have r := ih (i + 1) (by omega) (fun j hj => by
        have := hrow (j + 1) (by rw [List.length_cons]; omega)
        rw [show i + 1 + j = i + (j + 1) by omega]
        exact this) f (by omega)
      rw [show ((i + 1 : Nat) : Int) = (i : Int) + 1 by omega, show (c + (i + 1)) % L = ((c + i) % L + 1) % L by rw [← Nat.add_assoc, Nat.add_mod (c + i) 1 L, Nat.add_mod ((c + i) % L) 1 L, Nat.mod_mod]] at r
      exact (lpI (b := fun s => f_14_L3b M (c : Int) (cnt : Int) (L : Int) s) (s := (i : Int)) (s' := (i : Int) + 1) (F := f) b).trans r
    · rw [if_neg q] at b
      rw [if_neg q]
      exact lpO (b := fun s => f_14_L3b M (c : Int) (cnt : Int) (L : Int) s) (s := (i : Int)) (F := f) b
end MT
