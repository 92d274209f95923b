/-! the reference's Texts: pictures -/
abbrev rTe := rMg 62 24 82
theorem rTe_ex {K : Nat → Nat} {n : Nat} {σ : Nat → jcell} (hH : aH fa_T K n σ) {a : Nat} (ha : a < n) (hk : K a = 62) : ∃ M, rTe K n σ a M := rMg_ex hH rfl rfl rfl (by decide) ha hk
def rA2 (M : Int → Int) (s b f r : Int) : Prop := ¬ ((f * f + r * r = 5 ∧ 0 ≤ rSp s f r ∧ M (rSp s f r) = 8 * b + 2) ∨ (1 ≤ f * f + r * r ∧ f * f + r * r ≤ 2 ∧ 0 ≤ rSp s f r ∧ M (rSp s f r) = 8 * b + 6))
def rZ (M : Int → Int) : Prop := ∀ j, ¬ (0 ≤ j ∧ j ≤ 63) → M j = 0
theorem rZ_of {ko f kr : Nat} {K : Nat → Nat} {n : Nat} {σ : Nat → jcell} {a : Nat} {M : Int → Int} (h : rMg ko f kr K n σ a M) : rZ M := by
  obtain ⟨g, -, rfl⟩ := h
  intro j hj
  unfold rMn
  rw [if_neg hj]
theorem rZ_e {ko f kr : Nat} {K : Nat → Nat} {n : Nat} {σ : Nat → jcell} {a : Nat} {M : Int → Int} {g : Nat → Int32} (h : rRo K n σ a ko f kr 64 g) (hz : rZ M) (hg : ∀ j, 0 ≤ j → j ≤ 63 → (g j.toNat).toInt = M j) : rMg ko f kr K n σ a M := by
  refine ⟨g, h, ?_⟩
  funext j
  unfold rMn
  by_cases c : 0 ≤ j ∧ j ≤ 63
  · rw [if_pos c]; exact (hg j c.1 c.2).symm
  · rw [if_neg c]; exact hz j c
def rTX (K : Nat → Nat) (n : Nat) (σ : Nat → jcell) (a : Nat) (q : rQ) : Prop := rTe K n σ a q.1 ∧ (∃ v : Int32, rOb K n σ a 62 25 (rI v) ∧ v.toInt = q.2.1) ∧ (∃ v : Int32, rOb K n σ a 62 26 (rI v) ∧ v.toInt = q.2.2.1) ∧ (∃ v : Int32, rOb K n σ a 62 27 (rI v) ∧ v.toInt = q.2.2.2)
theorem rTX_f {K : Nat → Nat} {n : Nat} {σ : Nat → jcell} {a f c : Nat} {z : Int} {x : Int32} {fs : List jv} (h : ∃ v : Int32, rOb K n σ a 62 f (rI v) ∧ v.toInt = z) (e1 : σ a = .inr (c, fs)) (e2 : fs[f]? = some (rI x)) : z = x.toInt := by
  obtain ⟨v, ⟨-, -, c', fs', e3, e4⟩, rfl⟩ := h
  rw [e1] at e3
  cases e3
  rw [e2] at e4
  cases e4
  rfl
def rKI (K : Nat → Nat) (n : Nat) (σ : Nat → jcell) (a f kr : Nat) (i : Int) (M : Int → Int) : Prop := ∃ g, rRo K n σ a 62 f kr 64 g ∧ ∀ j, 0 ≤ j → j < i → j ≤ 63 → (g j.toNat).toInt = M j
def rTKP (K : Nat → Nat) (n : Nat) (σ : Nat → jcell) (a : Nat) (q : rQ) : Prop := rZ q.1 ∧ (∃ g, rRo K n σ a 62 30 83 64 g ∧ ∀ j, 0 ≤ j → j ≤ 63 → (g j.toNat).toInt = q.1 j) ∧ ∃ g, rRo K n σ a 62 31 84 5 g ∧ (g 0).toInt = q.2.1 ∧ (g 1).toInt = q.2.2.1 ∧ (g 2).toInt = q.2.2.2
