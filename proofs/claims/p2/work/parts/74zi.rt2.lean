/-! the usual start is good; values -/
theorem rUs_b (k : Nat) : 0 ≤ (rUs k).1 ∧ (rUs k).1 ≤ 63 := by
  by_cases c : k < 32
  · exact (by decide : ∀ k : Fin 32, 0 ≤ (rUs k.val).1 ∧ (rUs k.val).1 ≤ 63) ⟨k, c⟩
  · have e : rUs k = (0, 0) := by
      unfold rUs
      rw [List.getD_eq_getElem?_getD, List.getElem?_eq_none (by simp only [List.length_cons, List.length_nil]; omega)]
      rfl
    rw [e]
    exact ⟨by decide, by decide⟩
theorem rIp_o : ∀ {k : Nat} {s : Int}, ¬ (0 ≤ s ∧ s ≤ 63) → rIp k s = 0
  | 0, _, _ => rfl
  | k + 1, s, h => by
    have hb := rUs_b k
    show (if s = (rUs k).1 then _ else rIp k s) = 0
    rw [if_neg (by omega)]
    exact rIp_o h
theorem rIp_v : ∀ s : Fin 64, rIp 32 (s.val : Int) = 0 ∨ ((1 ≤ rIp 32 (s.val : Int) ∧ rIp 32 (s.val : Int) ≤ 6) ∨ (9 ≤ rIp 32 (s.val : Int) ∧ rIp 32 (s.val : Int) ≤ 14)) := by decide +kernel
theorem rIp_k : ∀ s : Fin 64, (rIp 32 (s.val : Int) = 6 → s.val = 4) ∧ (rIp 32 (s.val : Int) = 14 → s.val = 60) := by decide +kernel
theorem rGf_uq {M : Int → Int} {f r t m m' : Int} (h : rGf M f r t m) (h' : rGf M f r t m') : m = m' := by
  obtain ⟨k, e⟩ := h
  obtain ⟨k', e'⟩ := h'
  exact rGn_u e e'
theorem rIp_a {f r : Int} (hf : f = -2 ∨ f = -1 ∨ f = 0 ∨ f = 1 ∨ f = 2) (hr : r = -2 ∨ r = -1 ∨ r = 0 ∨ r = 1 ∨ r = 2) : ¬ rA1 (rIp 32) 60 0 f r := by
  have h2 : ∀ f r : Fin 5, ¬ (0 ≤ rSp 60 ((f.val : Int) - 2) ((r.val : Int) - 2) ∧ (rIp 32 (rSp 60 ((f.val : Int) - 2) ((r.val : Int) - 2)) = 2 ∨ rIp 32 (rSp 60 ((f.val : Int) - 2) ((r.val : Int) - 2)) = 6)) := by decide +kernel
  have h3 : ∀ f r : Fin 5, (((f.val : Int) - 2) * ((f.val : Int) - 2) + ((r.val : Int) - 2) * ((r.val : Int) - 2) ≤ 2) → 1 ≤ (((f.val : Int) - 2) * ((f.val : Int) - 2) + ((r.val : Int) - 2) * ((r.val : Int) - 2)) → rSp 60 ((f.val : Int) - 2) ((r.val : Int) - 2) < 0 ∨ (0 ≤ rSp 60 ((f.val : Int) - 2) ((r.val : Int) - 2) ∧ 9 ≤ rIp 32 (rSp 60 ((f.val : Int) - 2) ((r.val : Int) - 2))) := by decide +kernel
  have e2 := h2 ⟨(f + 2).toNat, by omega⟩ ⟨(r + 2).toNat, by omega⟩
  have e3 := h3 ⟨(f + 2).toNat, by omega⟩ ⟨(r + 2).toNat, by omega⟩
  dsimp only at e2 e3
  rw [show (((f + 2).toNat : Nat) : Int) - 2 = f by omega, show (((r + 2).toNat : Nat) : Int) - 2 = r by omega] at e2 e3
  rintro (⟨-, k1, k2⟩ | ⟨k1, k2, ⟨k3, k4⟩ | ⟨m, k3, k4⟩⟩)
  · exact e2 ⟨k1, Or.inl k2⟩
  · exact e2 ⟨k3, Or.inr k4⟩
  · have hm : m = 0 ∨ 9 ≤ m := by
      rcases e3 k2 k1 with h | ⟨h, h9⟩
      · exact Or.inl (rGf_uq k3 (rGf_o h))
      · exact Or.inr (by rw [rGf_uq k3 (rGf_s h rfl (by omega))]; exact h9)
    omega
theorem rIp_gd : rGd (rIp 32, 0, 15, -1) := by
  have hz : ∀ {s : Int}, ¬ rIp 32 s = 0 → 0 ≤ s ∧ s ≤ 63 := fun {s} h => by
    by_cases c : 0 ≤ s ∧ s ≤ 63
    · exact c
    · exact absurd (rIp_o c) h
  refine ⟨by decide, by decide, fun s => ?_, fun b b0 b1 => ?_, Or.inl rfl, fun s hs => ?_⟩
  · dsimp only
    by_cases c : 0 ≤ s ∧ s ≤ 63
    · have h := rIp_v ⟨s.toNat, by omega⟩
      dsimp only at h
      rw [show ((s.toNat : Nat) : Int) = s by omega] at h
      rcases h with h | h
      · exact Or.inl h
      · exact Or.inr ⟨c.1, c.2, h⟩
    · exact Or.inl (rIp_o c)
  · dsimp only
    have hb : b = 0 ∨ b = 1 := by omega
    rcases hb with rfl | rfl
    · refine ⟨4, by decide, by decide, by decide +kernel, fun t ht => ?_⟩
      have hr := hz (s := t) (by omega)
      have h := (rIp_k ⟨t.toNat, by omega⟩).1
      dsimp only at h
      rw [show ((t.toNat : Nat) : Int) = t by omega] at h
      have := h (by omega)
      omega
    · refine ⟨60, by decide, by decide, by decide +kernel, fun t ht => ?_⟩
      have hr := hz (s := t) (by omega)
      have h := (rIp_k ⟨t.toNat, by omega⟩).2
      dsimp only at h
      rw [show ((t.toNat : Nat) : Int) = t by omega] at h
      have := h (by omega)
      omega
  · dsimp only at hs ⊢
    have hr := hz (s := s) (by omega)
    have h := (rIp_k ⟨s.toNat, by omega⟩).2
    dsimp only at h
    rw [show ((s.toNat : Nat) : Int) = s by omega] at h
    have hs60 : s = 60 := by
      have := h (by omega)
      omega
    rw [hs60]
    rintro (⟨-, k2⟩ | ⟨-, k2⟩ | ⟨f, r, f0, f1, r0, r1, k⟩)
    · exact absurd k2 (by decide +kernel)
    · exact absurd k2 (by decide +kernel)
    · exact rIp_a (by omega) (by omega) k
theorem rVl_ex {K : Nat → Nat} {n : Nat} {σ : Nat → jcell} (hH : aH fa_T K n σ) {a : Nat} (ha : a < n) (hk : K a = 62) : ∃ g, rVl K n σ a g := by
  have h1 := hH a ha _ (by rw [hk]; exact (rfl : fa_T[62]? = _))
  match e : σ a, h1 with
  | .inr (c', fs), h1 =>
    obtain ⟨-, hl, h2⟩ := h1
    have hf : 22 < fs.length := by rw [hl]; decide
    obtain ⟨r, e2, h3, h4⟩ := rG_ref (k := 80) (by decide) (h2 22 _ _ rfl (List.getElem?_eq_getElem hf))
    have h5 := hH r h3 _ (by rw [h4]; exact (rfl : fa_T[80]? = _))
    obtain ⟨g, e3, -⟩ := aCe_arr h5 (show ¬ FieldType.char = FieldType.long by decide)
    exact ⟨g, r, ⟨ha, hk, c', fs, e, by rw [List.getElem?_eq_getElem hf, e2]⟩, h3, h4, e3⟩
  | .inl x, h1 => exact h1.elim
theorem rVl_u {K : Nat → Nat} {n : Nat} {σ : Nat → jcell} {a : Nat} {g g' : Nat → Int32} (h : rVl K n σ a g) (h' : rVl K n σ a g') : g = g' := by
  obtain ⟨r, o, -, -, e⟩ := h
  obtain ⟨r', o', -, -, e'⟩ := h'
  cases rOb_u o o'
  rw [e] at e'
  cases e'
  rfl
theorem rVl_c {K : Nat → Nat} {n : Nat} {σ : Nat → jcell} {a b c m i : Nat} {fs : List jv} {ty : FieldType} {g g' : Nat → Int32} (h : rVl K n σ a g') (e1 : σ a = .inr (c, fs)) (e2 : fs[22]? = some (rR b)) (e3 : σ b = .inl (ty, m, .inl g)) {v : Int32} (hv : v = g i) : (g' i).toInt = v.toInt := by
  obtain ⟨r, ⟨-, -, c', fs', e4, e5⟩, -, -, e6⟩ := h
  rw [e1] at e4
  cases e4
  rw [e2] at e5
  cases e5
  rw [e3] at e6
  cases e6
  rw [hv]
theorem rRgx9 {K : Nat → Nat} {n : Nat} {σ : Nat → jcell} (hH : aH fa_T K n σ) {a : Nat} (ha : a < n) (hk : K a = 62) : ∃ R : Int32, rOb K n σ a 62 26 (rI R) := by
  have h1 := hH a ha _ (by rw [hk]; exact (rfl : fa_T[62]? = _))
  match e : σ a, h1 with
  | .inr (c', fs), h1 =>
    obtain ⟨-, hl, h2⟩ := h1
    have hf : 26 < fs.length := by rw [hl]; decide
    obtain ⟨x, e2, -, -⟩ := aG_int (h2 26 _ _ rfl (List.getElem?_eq_getElem hf))
    exact ⟨x, ha, hk, c', fs, e, by rw [List.getElem?_eq_getElem hf, e2]⟩
  | .inl x, h1 => exact h1.elim
