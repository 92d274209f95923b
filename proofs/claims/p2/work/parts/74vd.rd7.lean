/-! lines, help, signs, counts -/
def rRw (K : Nat → Nat) (n : Nat) (σ : Nat → jcell) (a kr len : Nat) (g : Nat → Int32) : Prop := a < n ∧ K a = kr ∧ σ a = .inl (.int, len, .inl g)
theorem rRw_of {K : Nat → Nat} {n : Nat} {σ : Nat → jcell} (hH : aH fa_T K n σ) {a kr len : Nat} {iv : Int × Int} {el : List (Nat × Nat × Int × Int × Int)} (ha : a < n) (hk : K a = kr) (t3 : fa_T[kr]? = some (.inl (.int, len, iv, el))) : ∃ g, rRw K n σ a kr len g := by
  have h5 := hH a ha _ (by rw [hk]; exact t3)
  obtain ⟨g, e3, -⟩ := aCe_arr h5 (show ¬ FieldType.int = FieldType.long by decide)
  exact ⟨g, ha, hk, e3⟩
theorem rRw_c {K : Nat → Nat} {n : Nat} {σ : Nat → jcell} {a kr len m i : Nat} {ty : FieldType} {g g' : Nat → Int32} (h : rRw K n σ a kr len g') (e3 : σ a = .inl (ty, m, .inl g)) {v : Int32} (hv : v = g i) : g' i = v := by
  obtain ⟨-, -, e⟩ := h
  rw [e3] at e
  cases e
  rw [hv]
theorem rRw_u {K : Nat → Nat} {n : Nat} {σ : Nat → jcell} {a kr kr' len len' : Nat} {g g' : Nat → Int32} (h : rRw K n σ a kr len g) (h' : rRw K n σ a kr' len' g') : g = g' := by
  obtain ⟨-, -, e⟩ := h
  obtain ⟨-, -, e'⟩ := h'
  rw [e] at e'
  cases e'
  rfl
def rLn (a : Nat) : rP → (Nat → Int32) → Nat → Nat → Prop
  | _, _, _, 0 => True
  | p, g, i, k + 1 => rLm p.1 (g i).toInt ∧ rGd (rSh rS1 p [rR a, rI (g i)]).1 ∧ rLn a (rSh rS1 p [rR a, rI (g i)]) g (i + 1) k
def rHP (K : Nat → Nat) (n : Nat) (σ : Nat → jcell) (a : Nat) (k : Int) : Prop := ∃ g g', rRo K n σ a 88 33 107 4 g ∧ rRo K n σ a 88 34 108 4 g' ∧ ∀ j, 0 ≤ j → j < k → g j.toNat = g' j.toNat
/-- another row is stored into -/
theorem rOb_o {K : Nat → Nat} {n : Nat} {σ : Nat → jcell} {a k f b : Nat} {v : jv} {c : jcell} (h : rOb K n σ a k f v) (hb : ¬ K b = k) : rOb K n (jup σ b c) a k f v := by
  obtain ⟨h1, h2, c', fs, e1, e2⟩ := h
  refine ⟨h1, h2, c', fs, ?_, e2⟩
  rw [jup_n (fun e => hb (by rw [← e]; exact h2))]
  exact e1
theorem rRo_o {K : Nat → Nat} {n : Nat} {σ : Nat → jcell} {a k f kr len b : Nat} {g : Nat → Int32} {c : jcell} (h : rRo K n σ a k f kr len g) (hb : ¬ K b = k) (hb2 : ¬ K b = kr) : rRo K n (jup σ b c) a k f kr len g := by
  obtain ⟨r, o, h1, h2, e⟩ := h
  refine ⟨r, rOb_o o hb, h1, h2, ?_⟩
  rw [jup_n (fun e2 => hb2 (by rw [← e2]; exact h2))]
  exact e
theorem rOb_ex {K : Nat → Nat} {n : Nat} {σ : Nat → jcell} (hH : aH fa_T K n σ) {a k f c : Nat} {ts : List aT} (ha : a < n) (hk : K a = k) (t1 : fa_T[k]? = some (.inr (c, ts))) (hf : f < ts.length) : ∃ w, rOb K n σ a k f w := by
  have h1 := hH a ha _ (by rw [hk]; exact t1)
  match e : σ a, h1 with
  | .inr (c', fs), h1 =>
    obtain ⟨-, hl, -⟩ := h1
    exact ⟨_, ha, hk, c', fs, e, List.getElem?_eq_getElem (by rw [hl]; exact hf)⟩
  | .inl x, h1 => exact h1.elim
/-- the sign at a place of the Board's text -/
def rTx (K : Nat → Nat) (n : Nat) (σ : Nat → jcell) (a : Nat) (g : Nat → Int32) : Prop := ∃ r, rOb K n σ a 88 1 (rR r) ∧ r < n ∧ K r = 89 ∧ σ r = .inl (.char, 65536, .inl g)
def rSGN (K : Nat → Nat) (n : Nat) (σ : Nat → jcell) (a : Nat) (i v : Int) : Prop := ∃ g t, rTx K n σ a g ∧ rOb K n σ a 88 0 (rI t) ∧ v = (if i < t.toInt then (g i.toNat).toInt else 0)
theorem rTx_u {K : Nat → Nat} {n : Nat} {σ : Nat → jcell} {a : Nat} {g g' : Nat → Int32} (h : rTx K n σ a g) (h' : rTx K n σ a g') : g = g' := by
  obtain ⟨r, o, -, -, e⟩ := h
  obtain ⟨r', o', -, -, e'⟩ := h'
  cases rOb_u o o'
  rw [e] at e'
  cases e'
  rfl
theorem rTx_ex {K : Nat → Nat} {n : Nat} {σ : Nat → jcell} (hH : aH fa_T K n σ) {a : Nat} (ha : a < n) (hk : K a = 88) : ∃ g, rTx K n σ a g := by
  have h1 := hH a ha _ (by rw [hk]; exact (rfl : fa_T[88]? = _))
  match e : σ a, h1 with
  | .inr (c', fs), h1 =>
    obtain ⟨-, hl, h2⟩ := h1
    have hf : 1 < fs.length := by rw [hl]; decide
    obtain ⟨r, e2, h3, h4⟩ := rG_ref (k := 89) (by decide) (h2 1 _ _ rfl (List.getElem?_eq_getElem hf))
    have h5 := hH r h3 _ (by rw [h4]; exact (rfl : fa_T[89]? = _))
    obtain ⟨g, e3, -⟩ := aCe_arr h5 (show ¬ FieldType.char = FieldType.long by decide)
    exact ⟨g, r, ⟨ha, hk, c', fs, e, by rw [List.getElem?_eq_getElem hf, e2]⟩, h3, h4, e3⟩
  | .inl x, h1 => exact h1.elim
/-- how many of a man -/
def rCnt (M : Int → Int) (m : Int) : Nat → Int
  | 0 => 0
  | i + 1 => rCnt M m i + (if M i = m then 1 else 0)
theorem rCnt_0 {M : Int → Int} {m : Int} : ∀ {i : Nat}, 0 ≤ rCnt M m i
  | 0 => Int.le_refl _
  | i + 1 => by
    have h := rCnt_0 (M := M) (m := m) (i := i)
    unfold rCnt
    split <;> omega
theorem rCnt_z {M : Int → Int} {m : Int} : ∀ {i : Nat}, rCnt M m i = 0 → ∀ j : Nat, j < i → ¬ M j = m
  | 0, _, j, h => by omega
  | i + 1, h, j, hj => by
    have h0 := rCnt_0 (M := M) (m := m) (i := i)
    unfold rCnt at h
    split at h
    next => omega
    next c =>
      by_cases e : j = i
      · rw [e]; exact c
      · exact rCnt_z (M := M) (m := m) (i := i) (by omega) j (by omega)
theorem rCnt_1 {M : Int → Int} {m : Int} : ∀ {i : Nat}, rCnt M m i = 1 → ∃ s : Nat, s < i ∧ M s = m ∧ ∀ j : Nat, j < i → M j = m → j = s
  | 0, h => by cases h
  | i + 1, h => by
    unfold rCnt at h
    split at h
    next c =>
      refine ⟨i, by omega, c, fun j hj hm => ?_⟩
      by_cases e : j = i
      · exact e
      · exact absurd hm (rCnt_z (M := M) (m := m) (i := i) (by omega) j (by omega))
    next c =>
      obtain ⟨s, h1, h2, h3⟩ := rCnt_1 (M := M) (m := m) (i := i) (by omega)
      refine ⟨s, by omega, h2, fun j hj hm => ?_⟩
      by_cases e : j = i
      · rw [e] at hm; exact absurd hm c
      · exact h3 j (by omega) hm
theorem rMn_z {ko f kr : Nat} {K : Nat → Nat} {n : Nat} {σ : Nat → jcell} {a : Nat} {M : Int → Int} (h : rMg ko f kr K n σ a M) {t : Int} (ht : ¬ M t = 0) : 0 ≤ t ∧ t ≤ 63 := by
  obtain ⟨g, -, rfl⟩ := h
  unfold rMn at ht
  split at ht
  next c => exact c
  next => exact absurd rfl ht
theorem rKs_of {ko f kr : Nat} {K : Nat → Nat} {n : Nat} {σ : Nat → jcell} {a : Nat} {M : Int → Int} (h : rMg ko f kr K n σ a M) (h6 : rCnt M 6 64 = 1) (h14 : rCnt M 14 64 = 1) : rKs M := by
  intro b hb0 hb1
  have hc : rCnt M (8 * b + 6) 64 = 1 := by
    have e : b = 0 ∨ b = 1 := by omega
    rcases e with rfl | rfl
    · exact h6
    · exact h14
  obtain ⟨s, s1, s2, s3⟩ := rCnt_1 hc
  refine ⟨s, by omega, by omega, s2, fun t ht => ?_⟩
  have h1 := rMn_z h (t := t) (by omega)
  have h2 := s3 t.toNat (by omega) (by rw [show ((t.toNat : Nat) : Int) = t by omega]; exact ht)
  omega
def rPSW (K : Nat → Nat) (n : Nat) (σ : Nat → jcell) (a : Nat) : Prop := ∃ M v P, rMe K n σ a M ∧ rOb K n σ a 88 3 (rI v) ∧ rOb K n σ a 88 5 (rI P) ∧ rPs (M, v.toInt, 0, P.toInt)
def rFO (K : Nat → Nat) (n : Nat) (σ : Nat → jcell) (a : Nat) : Prop := ∃ M v P, rMe K n σ a M ∧ rOb K n σ a 88 3 (rI v) ∧ rOb K n σ a 88 5 (rI P) ∧ rKs M ∧ rPs (M, v.toInt, 0, P.toInt) ∧ ∀ s, M s = 8 * (1 - v.toInt) + 6 → ¬ rAk M s v.toInt
