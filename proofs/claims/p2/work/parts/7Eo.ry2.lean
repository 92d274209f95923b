/-! the reference: small lemmas for the rules of uE to uH -/
theorem rTy_p60 {K : Nat → Nat} {n : Nat} {σ : Nat → jcell} {a b : Nat} {o : Int} {y : rY} {c : jcell} (h : rTy K n σ a o y) (hb : K b = 60) : rTy K n (jup σ b c) a o y := by
  obtain ⟨⟨g1, r1, e1⟩, ⟨g2, r2, e2⟩, ⟨g3, r3, e3⟩, ⟨g4, r4, e4⟩, g5, g6, r5, r6, e5⟩ := h
  exact ⟨⟨g1, rRo_o r1 (by omega) (by omega), e1⟩, ⟨g2, rRo_o r2 (by omega) (by omega), e2⟩, ⟨g3, rRo_o r3 (by omega) (by omega), e3⟩, ⟨g4, rRo_o r4 (by omega) (by omega), e4⟩, g5, g6, rRo_o r5 (by omega) (by omega), rRo_o r6 (by omega) (by omega), e5⟩
theorem rTY_p60 {K : Nat → Nat} {n : Nat} {σ : Nat → jcell} {a b : Nat} {o C : Int} {y : rY} {c : jcell} (h : rTY K n σ a o C y) (hb : K b = 60) : rTY K n (jup σ b c) a o C y := by
  obtain ⟨h1, ⟨g, r, e⟩, h2⟩ := h
  exact ⟨rTy_p60 h1 hb, ⟨g, rRo_o r (by omega) (by omega), e⟩, h2⟩
theorem rRb9 {K : Nat → Nat} {n : Nat} {σ : Nat → jcell} (hH : aH fa_T K n σ) {a : Nat} (ha : a < n) (hk : K a = 88) : ∃ R : Int32, rOb K n σ a 88 4 (rI R) := by
  have h1 := hH a ha _ (by rw [hk]; exact (rfl : fa_T[88]? = _))
  match e : σ a, h1 with
  | .inr (c', fs), h1 =>
    obtain ⟨-, hl, h2⟩ := h1
    have hf : 4 < fs.length := by rw [hl]; decide
    obtain ⟨x, e2, -, -⟩ := aG_int (h2 4 _ _ rfl (List.getElem?_eq_getElem hf))
    exact ⟨x, ha, hk, c', fs, e, by rw [List.getElem?_eq_getElem hf, e2]⟩
  | .inl x, h1 => exact h1.elim
theorem rSd9 {K : Nat → Nat} {n : Nat} {σ : Nat → jcell} (hH : aH fa_T K n σ) {a : Nat} {v : Int32} (ha : a < n) (hk : K a = 88) (o : rOb K n σ a 88 3 (rI v)) : 0 ≤ v.toInt ∧ v.toInt ≤ 1 := by
  obtain ⟨-, -, c, fs, e1, e2⟩ := o
  have h1 := hH a ha _ (by rw [hk]; exact (rfl : fa_T[88]? = _))
  rw [e1] at h1
  obtain ⟨-, hl, h2⟩ := h1
  obtain ⟨x, e3, h3, h4⟩ := aG_int (h2 3 _ _ rfl e2)
  cases e3
  exact ⟨h3, h4⟩
theorem rPG_z {K : Nat → Nat} {n : Nat} {σ : Nat → jcell} (hH : aH fa_T K n σ) {a : Nat} (ha : a < n) (hk : K a = 88) : rPG0 K n σ a 0 := by
  obtain ⟨g1, r1⟩ := rRo_ex (ko := 88) (f := 9) (kr := 91) (len := 19520) hH rfl rfl rfl (by decide) ha hk
  obtain ⟨g2, r2⟩ := rRo_ex (ko := 88) (f := 10) (kr := 92) (len := 305) hH rfl rfl rfl (by decide) ha hk
  obtain ⟨g3, r3⟩ := rRo_ex (ko := 88) (f := 12) (kr := 94) (len := 305) hH rfl rfl rfl (by decide) ha hk
  exact ⟨g1, g2, g3, r1, r2, r3, fun t t0 t1 => by omega⟩
