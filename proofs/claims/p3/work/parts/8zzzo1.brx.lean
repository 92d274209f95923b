section
theorem fMk {m : Int32} {f t b : Int} (h : m.toInt = 512 * f + 8 * t + b) (hf : 0 ≤ f ∧ f < 64) (ht : 0 ≤ t ∧ t < 64) (hb : 0 ≤ b ∧ b < 8) : (fMf m : Int) = f ∧ (fMt m : Int) = t ∧ (fMb m : Int) = b := by
  obtain ⟨c, e1, e2⟩ := aShr_l m 9
  obtain rfl := e2 9 (by decide) (by decide)
  obtain ⟨c, e3, e4⟩ := aShr_l m 3
  obtain rfl := e4 3 (by decide) (by decide)
  rw [show (2 : Int) ^ 9 = 512 by decide] at e1
  rw [show (2 : Int) ^ 3 = 8 by decide] at e3
  have k63 : (63 : Int32).toInt = 63 := by decide
  have k7 : (7 : Int32).toInt = 7 := by decide
  have e5 : (m >>> (3 &&& 31) &&& 63).toInt = (m >>> (3 &&& 31)).toInt % (63 + 1) := by
    have := aAnd_m (x := m >>> (3 &&& 31)) (y := 63) (by omega) (by decide) (by decide)
    rw [k63] at this
    exact this
  have e6 : (m &&& 7).toInt = m.toInt % (7 + 1) := by
    have := aAnd_m (x := m) (y := 7) (by omega) (by decide) (by decide)
    rw [k7] at this
    exact this
  have c1 : fMf m = (m >>> (9 &&& 31)).toInt.toNat := rfl
  have c2 : fMt m = (m >>> (3 &&& 31) &&& 63).toInt.toNat := rfl
  have c3 : fMb m = (m &&& 7).toInt.toNat := rfl
  omega
/-! class and reference: squares, lines, attack -/
noncomputable def brF (i : Int) : Int := if i = 0 then 0 else if i = 1 then 0 else if i = 2 then 1 else if i = 3 then -1 else if i = 4 then 1 else if i = 5 then -1 else if i = 6 then 1 else -1
noncomputable def brR (i : Int) : Int := if i = 0 then 1 else if i = 1 then -1 else if i = 2 then 0 else if i = 3 then 0 else if i = 4 then 1 else if i = 5 then 1 else if i = 6 then -1 else -1
theorem br_Sp0 : ∀ (s : Fin 64) (i : Fin 8), rSp (s.val : Int) (brF i.val) (brR i.val) = (if 1 ≤ fRc s.val i.val then (s.val : Int) + fSt i.val else -1) := by decide +kernel
theorem br_Rc0 : ∀ (s : Fin 64) (i : Fin 8), (0 ≤ fRc s.val i.val ∧ fRc s.val i.val ≤ 7) ∧ (1 ≤ fRc s.val i.val → 0 ≤ (s.val : Int) + fSt i.val ∧ (s.val : Int) + fSt i.val ≤ 63 ∧ fRc ((s.val : Int) + fSt i.val) i.val = fRc s.val i.val - 1) := by decide +kernel
theorem br_Fr0 : ∀ (i : Fin 8), (-1 ≤ brF i.val ∧ brF i.val ≤ 1) ∧ (-1 ≤ brR i.val ∧ brR i.val ≤ 1) ∧ brF i.val * brF i.val + brR i.val * brR i.val = (if (i.val : Int) < 4 then 1 else 2) ∧ (4 ≤ (i.val : Int) → (brR i.val = -1 ↔ fSt i.val < 0) ∧ (brR i.val = 1 ↔ 0 < fSt i.val) ∧ (brF i.val = -1 ∨ brF i.val = 1)) := by decide +kernel
theorem br_Di0 : ∀ (f r : Fin 5), 1 ≤ ((f.val : Int) - 2) * ((f.val : Int) - 2) + ((r.val : Int) - 2) * ((r.val : Int) - 2) → ((f.val : Int) - 2) * ((f.val : Int) - 2) + ((r.val : Int) - 2) * ((r.val : Int) - 2) ≤ 2 → ∃ i : Fin 8, brF i.val = (f.val : Int) - 2 ∧ brR i.val = (r.val : Int) - 2 := by decide +kernel
theorem br_Sp {s i : Int} (a0 : 0 ≤ s) (a1 : s ≤ 63) (b0 : 0 ≤ i) (b1 : i < 8) : rSp s (brF i) (brR i) = (if 1 ≤ fRc s i then s + fSt i else -1) := by
  have h := br_Sp0 ⟨s.toNat, by omega⟩ ⟨i.toNat, by omega⟩
  dsimp only at h
  rw [show ((s.toNat : Nat) : Int) = s by omega, show ((i.toNat : Nat) : Int) = i by omega] at h
  exact h
theorem br_Rc {s i : Int} (a0 : 0 ≤ s) (a1 : s ≤ 63) (b0 : 0 ≤ i) (b1 : i < 8) : (0 ≤ fRc s i ∧ fRc s i ≤ 7) ∧ (1 ≤ fRc s i → 0 ≤ s + fSt i ∧ s + fSt i ≤ 63 ∧ fRc (s + fSt i) i = fRc s i - 1) := by
  have h := br_Rc0 ⟨s.toNat, by omega⟩ ⟨i.toNat, by omega⟩
  dsimp only at h
  rw [show ((s.toNat : Nat) : Int) = s by omega, show ((i.toNat : Nat) : Int) = i by omega] at h
  exact h
theorem br_Fr {i : Int} (b0 : 0 ≤ i) (b1 : i < 8) : (-1 ≤ brF i ∧ brF i ≤ 1) ∧ (-1 ≤ brR i ∧ brR i ≤ 1) ∧ brF i * brF i + brR i * brR i = (if i < 4 then 1 else 2) ∧ (4 ≤ i → (brR i = -1 ↔ fSt i < 0) ∧ (brR i = 1 ↔ 0 < fSt i) ∧ (brF i = -1 ∨ brF i = 1)) := by
  have h := br_Fr0 ⟨i.toNat, by omega⟩
  dsimp only at h
  rw [show ((i.toNat : Nat) : Int) = i by omega] at h
  exact h
theorem br_Di {f r : Int} (f0 : -2 ≤ f) (f1 : f ≤ 2) (r0 : -2 ≤ r) (r1 : r ≤ 2) (h1 : 1 ≤ f * f + r * r) (h2 : f * f + r * r ≤ 2) : ∃ i : Int, 0 ≤ i ∧ i < 8 ∧ brF i = f ∧ brR i = r := by
  have h := br_Di0 ⟨(f + 2).toNat, by omega⟩ ⟨(r + 2).toNat, by omega⟩
  dsimp only at h
  rw [show (((f + 2).toNat : Nat) : Int) - 2 = f by omega, show (((r + 2).toNat : Nat) : Int) - 2 = r by omega] at h
  obtain ⟨i, e1, e2⟩ := h h1 h2
  exact ⟨(i.val : Int), by omega, by omega, e1, e2⟩
theorem br_Pos {s i : Int} (a0 : 0 ≤ s) (a1 : s ≤ 63) (b0 : 0 ≤ i) (b1 : i < 8) : ∀ k : Nat, (k : Int) ≤ fRc s i → 0 ≤ s + (k : Int) * fSt i ∧ s + (k : Int) * fSt i ≤ 63 ∧ fRc (s + (k : Int) * fSt i) i = fRc s i - k
  | 0, _ => by
    rw [show s + ((0 : Nat) : Int) * fSt i = s by omega]
    exact ⟨a0, a1, by omega⟩
  | k + 1, h => by
    obtain ⟨h1, h2, h3⟩ := br_Pos a0 a1 b0 b1 k (by omega)
    have h4 := (br_Rc h1 h2 b0 b1).2 (by omega)
    rw [show s + ((k + 1 : Nat) : Int) * fSt i = s + (k : Int) * fSt i + fSt i by rw [Int.natCast_succ, Int.add_mul, Int.one_mul]; omega]
    exact ⟨h4.1, h4.2.1, by omega⟩
theorem br_Po {s i k : Int} (a0 : 0 ≤ s) (a1 : s ≤ 63) (b0 : 0 ≤ i) (b1 : i < 8) (c0 : 0 ≤ k) (c1 : k ≤ fRc s i) : 0 ≤ s + k * fSt i ∧ s + k * fSt i ≤ 63 ∧ fRc (s + k * fSt i) i = fRc s i - k := by
  have h := br_Pos a0 a1 b0 b1 k.toNat (by omega)
  rw [show ((k.toNat : Nat) : Int) = k by omega] at h
  exact h
theorem br_Nx {s i k : Int} (a0 : 0 ≤ s) (a1 : s ≤ 63) (b0 : 0 ≤ i) (b1 : i < 8) (c0 : 0 ≤ k) (c1 : k ≤ fRc s i) : rSp (s + k * fSt i) (brF i) (brR i) = (if k + 1 ≤ fRc s i then s + (k + 1) * fSt i else -1) := by
  obtain ⟨h1, h2, h3⟩ := br_Po a0 a1 b0 b1 c0 c1
  rw [br_Sp h1 h2 b0 b1, h3, Int.add_mul, Int.one_mul]
  by_cases c : k + 1 ≤ fRc s i
  · rw [if_pos c, if_pos (by omega)]
    omega
  · rw [if_neg c, if_neg (by omega)]
theorem br_Mn {M : Nat → Int32} {t : Int} (h0 : 0 ≤ t) (h1 : t ≤ 63) : rMn M t = (M t.toNat).toInt := if_pos ⟨h0, h1⟩
theorem br_Gf1 {M : Nat → Int32} {s i m : Int} (a0 : 0 ≤ s) (a1 : s ≤ 63) (b0 : 0 ≤ i) (b1 : i < 8) : ∀ (n : Nat) (k : Int), 1 ≤ k → k ≤ fRc s i + 1 → fEm M s i k → rGn (rMn M) (brF i) (brR i) n (if k ≤ fRc s i then s + k * fSt i else -1) = some m → (∃ k, 1 ≤ k ∧ k ≤ fRc s i ∧ fEm M s i k ∧ (M (s + k * fSt i).toNat).toInt = m ∧ ¬ m = 0) ∨ (fEm M s i (fRc s i + 1) ∧ m = 0)
  | 0, _, _, _, _, h => by cases h
  | n + 1, k, c0, c1, he, h => by
    unfold rGn at h
    by_cases c : k ≤ fRc s i
    · obtain ⟨h1, h2, h3⟩ := br_Po a0 a1 b0 b1 (by omega) c
      rw [if_pos c, if_neg (by omega)] at h
      by_cases z : rMn M (s + k * fSt i) = 0
      · rw [if_pos z, br_Nx a0 a1 b0 b1 (by omega) c] at h
        rw [br_Mn h1 h2] at z
        refine br_Gf1 a0 a1 b0 b1 n (k + 1) (by omega) (by omega) (fun q q0 q1 => ?_) h
        by_cases e : q = k
        · rw [e]; exact z
        · exact he q q0 (by omega)
      · rw [if_neg z] at h
        rw [br_Mn h1 h2] at z h
        have h := Option.some.inj h
        exact Or.inl ⟨k, c0, c, he, h, by rw [← h]; exact z⟩
    · rw [if_neg c, if_pos (by omega)] at h
      have e : k = fRc s i + 1 := by omega
      rw [e] at he
      exact Or.inr ⟨he, (Option.some.inj h).symm⟩
theorem br_Gf2 {M : Nat → Int32} {s i m k : Int} (a0 : 0 ≤ s) (a1 : s ≤ 63) (b0 : 0 ≤ i) (b1 : i < 8) (c1 : k ≤ fRc s i) (he : fEm M s i k) (hm : (M (s + k * fSt i).toNat).toInt = m) (hz : ¬ m = 0) : ∀ (d : Nat) (j : Int), 1 ≤ j → j + d = k → rGf (rMn M) (brF i) (brR i) (s + j * fSt i) m
  | 0, j, j0, e => by
    obtain rfl : j = k := by omega
    obtain ⟨h1, h2, h3⟩ := br_Po a0 a1 b0 b1 (show 0 ≤ j by omega) c1
    exact rGf_s h1 (by rw [br_Mn h1 h2]; exact hm) hz
  | d + 1, j, j0, e => by
    obtain ⟨h1, h2, h3⟩ := br_Po a0 a1 b0 b1 (show 0 ≤ j by omega) (show j ≤ fRc s i by omega)
    refine rGf_n h1 (by rw [br_Mn h1 h2]; exact he j j0 (by omega)) ?_
    rw [br_Nx a0 a1 b0 b1 (by omega) (by omega), if_pos (by omega)]
    exact br_Gf2 a0 a1 b0 b1 c1 he hm hz d (j + 1) (by omega) (by omega)
theorem br_Gf3 {M : Nat → Int32} {s i : Int} (a0 : 0 ≤ s) (a1 : s ≤ 63) (b0 : 0 ≤ i) (b1 : i < 8) (he : fEm M s i (fRc s i + 1)) : ∀ (d : Nat) (j : Int), 1 ≤ j → j + d = fRc s i + 1 → rGf (rMn M) (brF i) (brR i) (if j ≤ fRc s i then s + j * fSt i else -1) 0
  | 0, j, j0, e => by
    rw [if_neg (by omega)]
    exact rGf_o (by omega)
  | d + 1, j, j0, e => by
    rw [if_pos (by omega)]
    obtain ⟨h1, h2, h3⟩ := br_Po a0 a1 b0 b1 (show 0 ≤ j by omega) (show j ≤ fRc s i by omega)
    refine rGf_n h1 (by rw [br_Mn h1 h2]; exact he j j0 (by omega)) ?_
    rw [br_Nx a0 a1 b0 b1 (by omega) (by omega)]
    exact br_Gf3 a0 a1 b0 b1 he d (j + 1) (by omega) (by omega)
/-- the first man on a line -/
theorem br_Gf {M : Nat → Int32} {s i m : Int} (a0 : 0 ≤ s) (a1 : s ≤ 63) (b0 : 0 ≤ i) (b1 : i < 8) : rGf (rMn M) (brF i) (brR i) (rSp s (brF i) (brR i)) m ↔ (∃ k, 1 ≤ k ∧ k ≤ fRc s i ∧ fEm M s i k ∧ (M (s + k * fSt i).toNat).toInt = m ∧ ¬ m = 0) ∨ (fEm M s i (fRc s i + 1) ∧ m = 0) := by
  have hr := (br_Rc a0 a1 b0 b1).1
  have e : rSp s (brF i) (brR i) = (if 1 ≤ fRc s i then s + 1 * fSt i else -1) := by rw [br_Sp a0 a1 b0 b1, Int.one_mul]
  rw [e]
  constructor
  · rintro ⟨n, h⟩
    exact br_Gf1 a0 a1 b0 b1 n 1 (by omega) (by omega) (fun q q0 q1 => by omega) h
  · rintro (⟨k, k0, k1, he, hm, hz⟩ | ⟨he, rfl⟩)
    · rw [if_pos (by omega)]
      exact br_Gf2 a0 a1 b0 b1 k1 he hm hz (k - 1).toNat 1 (by omega) (by omega)
    · exact br_Gf3 a0 a1 b0 b1 he (fRc s i).toNat 1 (by omega) (by omega)
theorem br_R1 {s i : Int} {M : Nat → Int32} {v : Int} (a0 : 0 ≤ s) (a1 : s ≤ 63) (b0 : 0 ≤ i) (b1 : i < 8) : (0 ≤ rSp s (brF i) (brR i) ∧ rMn M (rSp s (brF i) (brR i)) = v) ↔ (1 ≤ fRc s i ∧ (M (s + 1 * fSt i).toNat).toInt = v) := by
  rw [br_Sp a0 a1 b0 b1]
  by_cases c : 1 ≤ fRc s i
  · have h := (br_Rc a0 a1 b0 b1).2 c
    rw [if_pos c, br_Mn h.1 h.2.1, Int.one_mul]
    exact ⟨fun h2 => ⟨c, h2.2⟩, fun h2 => ⟨h.1, h2.2⟩⟩
  · rw [if_neg c]
    exact ⟨fun h2 => by omega, fun h2 => by omega⟩
/-- men as they may be -/
def brV (M : Nat → Int32) : Prop := ∀ i, i < 64 → 0 ≤ (M i).toInt ∧ (M i).toInt ≤ 14 ∧ ¬ (M i).toInt = 7 ∧ ¬ (M i).toInt = 8
theorem br_Ry {M : Nat → Int32} {s b i : Int} (hv : brV M) (a0 : 0 ≤ s) (a1 : s ≤ 63) (b0 : 0 ≤ i) (b1 : i < 8) (c0 : 0 ≤ b) (c1 : b ≤ 1) : fRy M s b i ↔ rA1 (rMn M) s b (brF i) (brR i) ∨ (4 ≤ i ∧ brR i = 2 * b - 1 ∧ 0 ≤ rSp s (brF i) (brR i) ∧ rMn M (rSp s (brF i) (brR i)) = 8 * b + 1) := by
  obtain ⟨g0, g1, g2, g3⟩ := br_Fr b0 b1
  have g4 : brF i * brF i + brR i * brR i = 1 ∨ brF i * brF i + brR i * brR i = 2 := by
    rw [g2]; split <;> omega
  constructor
  · rintro ⟨k, k0, k1, he, hz, hb, hk⟩
    obtain ⟨p0, p1, -⟩ := br_Po a0 a1 b0 b1 (show 0 ≤ k by omega) k1
    have hm := hv (s + k * fSt i).toNat (by omega)
    rcases hk with hk | ⟨hi, hk⟩ | ⟨hi, hk⟩ | ⟨hk1, hk⟩
    · refine Or.inl (Or.inr ⟨by omega, by omega, Or.inr ⟨_, (br_Gf a0 a1 b0 b1).mpr (Or.inl ⟨k, k0, k1, he, rfl, hz⟩), Or.inl (by omega)⟩⟩)
    · refine Or.inl (Or.inr ⟨by omega, by omega, Or.inr ⟨_, (br_Gf a0 a1 b0 b1).mpr (Or.inl ⟨k, k0, k1, he, rfl, hz⟩), Or.inr (Or.inl ⟨by rw [g2, if_pos hi], by omega⟩)⟩⟩)
    · refine Or.inl (Or.inr ⟨by omega, by omega, Or.inr ⟨_, (br_Gf a0 a1 b0 b1).mpr (Or.inl ⟨k, k0, k1, he, rfl, hz⟩), Or.inr (Or.inr ⟨by rw [g2, if_neg (by omega)], by omega⟩)⟩⟩)
    · subst hk1
      rcases hk with hk | ⟨hk, hi, hd⟩
      · exact Or.inl (Or.inr ⟨by omega, by omega, Or.inl ((br_R1 a0 a1 b0 b1).mpr ⟨k1, by omega⟩)⟩)
      · obtain ⟨g5, g6, -⟩ := g3 hi
        refine Or.inr ⟨hi, ?_, (br_R1 a0 a1 b0 b1).mpr ⟨k1, by omega⟩⟩
        rcases hd with ⟨hd, hd2⟩ | ⟨hd, hd2⟩
        · rw [g5.mpr hd2]; omega
        · rw [g6.mpr hd2]; omega
  · rintro (h | ⟨hi, hr, h⟩)
    · rcases h with ⟨h, -⟩ | ⟨-, -, h | ⟨m, hg, h⟩⟩
      · omega
      · obtain ⟨h1, h2⟩ := (br_R1 a0 a1 b0 b1).mp h
        exact ⟨1, by omega, h1, fun q q0 q1 => by omega, by omega, by omega, Or.inr (Or.inr (Or.inr ⟨rfl, Or.inl (by omega)⟩))⟩
      · rcases (br_Gf a0 a1 b0 b1).mp hg with ⟨k, k0, k1, he, hm, hz⟩ | ⟨-, hz⟩
        · refine ⟨k, k0, k1, he, by rw [hm]; exact hz, by rw [hm]; omega, ?_⟩
          rw [hm]
          rcases h with h | ⟨h, h2⟩ | ⟨h, h2⟩
          · exact Or.inl (by omega)
          · rw [g2] at h
            by_cases hi : i < 4
            · exact Or.inr (Or.inl ⟨hi, by omega⟩)
            · rw [if_neg hi] at h; omega
          · rw [g2] at h
            by_cases hi : i < 4
            · rw [if_pos hi] at h; omega
            · exact Or.inr (Or.inr (Or.inl ⟨by omega, by omega⟩))
        · omega
    · obtain ⟨h1, h2⟩ := (br_R1 a0 a1 b0 b1).mp h
      obtain ⟨g5, g6, -⟩ := g3 hi
      refine ⟨1, by omega, h1, fun q q0 q1 => by omega, by omega, by omega, Or.inr (Or.inr (Or.inr ⟨rfl, Or.inr ⟨by omega, hi, ?_⟩⟩))⟩
      by_cases cb : b = 0
      · exact Or.inl ⟨cb, g5.mp (by omega)⟩
      · exact Or.inr ⟨by omega, g6.mp (by omega)⟩
theorem br_H0 : ∀ (s : Fin 64) (j : Fin 8), 0 ≤ fHp s.val j.val → fHp s.val j.val ≤ 63 ∧ (fHp s.val j.val % 8 - (s.val : Int) % 8) * (fHp s.val j.val % 8 - (s.val : Int) % 8) + (fHp s.val j.val / 8 - (s.val : Int) / 8) * (fHp s.val j.val / 8 - (s.val : Int) / 8) = 5 := by decide +kernel
theorem br_H1 : ∀ (s t : Fin 64), ((t.val : Int) % 8 - (s.val : Int) % 8) * ((t.val : Int) % 8 - (s.val : Int) % 8) + ((t.val : Int) / 8 - (s.val : Int) / 8) * ((t.val : Int) / 8 - (s.val : Int) / 8) = 5 → ∃ j : Fin 8, fHp s.val j.val = t.val := by decide +kernel
theorem br_Ho {M : Nat → Int32} {s b : Int} (a0 : 0 ≤ s) (a1 : s ≤ 63) : fHo M s b ↔ ∃ f r, -2 ≤ f ∧ f ≤ 2 ∧ -2 ≤ r ∧ r ≤ 2 ∧ f * f + r * r = 5 ∧ 0 ≤ rSp s f r ∧ rMn M (rSp s f r) = 8 * b + 2 := by
  constructor
  · rintro ⟨j, j0, h0, hm⟩
    have h := br_H0 ⟨s.toNat, by omega⟩ ⟨j, j0⟩
    dsimp only at h
    obtain ⟨h1, h2⟩ := h h0
    rw [show ((s.toNat : Nat) : Int) = s by omega] at h2
    obtain ⟨q0, q1, q2, q3⟩ := rSqb (show _ + _ ≤ 8 by rw [h2]; omega)
    have e := rSp_of a0 a1 h0 h1 rfl rfl
    exact ⟨_, _, q0, q1, q2, q3, h2, by rw [← e]; exact h0, by rw [← e, br_Mn h0 h1]; exact hm⟩
  · rintro ⟨f, r, f0, f1, r0, r1, h5, h0, hm⟩
    have hb := rSp_r (f := f) (r := r) a0 a1
    have e1 : rSp s f r % 8 - s % 8 = f ∧ rSp s f r / 8 - s / 8 = r := by
      unfold rSp at h0 ⊢
      split at h0 <;> split <;> omega
    have h := br_H1 ⟨s.toNat, by omega⟩ ⟨(rSp s f r).toNat, by omega⟩
    dsimp only at h
    rw [show ((s.toNat : Nat) : Int) = s by omega, show (((rSp s f r).toNat : Nat) : Int) = rSp s f r by omega, e1.1, e1.2] at h
    obtain ⟨j, hj⟩ := h h5
    refine ⟨j.val, j.isLt, by rw [hj]; exact h0, ?_⟩
    rw [hj, ← br_Mn h0 hb.2]
    exact hm
/-- attack in the class and attack in the reference are the same -/
theorem br_Ak {M : Nat → Int32} {s b : Int} (hv : brV M) (a0 : 0 ≤ s) (a1 : s ≤ 63) (c0 : 0 ≤ b) (c1 : b ≤ 1) : fAk M s b ↔ rAk (rMn M) s b := by
  constructor
  · rintro (h | ⟨i, i0, i1, h⟩)
    · obtain ⟨f, r, f0, f1, r0, r1, h5, h0, hm⟩ := (br_Ho a0 a1).mp h
      exact Or.inr (Or.inr ⟨f, r, f0, f1, r0, r1, Or.inl ⟨h5, h0, hm⟩⟩)
    · obtain ⟨g0, g1, g2, g3⟩ := br_Fr i0 i1
      rcases (br_Ry hv a0 a1 i0 i1 c0 c1).mp h with h | ⟨hi, hr, h0, hm⟩
      · exact Or.inr (Or.inr ⟨brF i, brR i, by omega, by omega, by omega, by omega, h⟩)
      · obtain ⟨-, -, g5⟩ := g3 hi
        rw [hr] at h0 hm
        rcases g5 with g5 | g5
        · rw [g5] at h0 hm
          exact Or.inl ⟨h0, hm⟩
        · rw [g5] at h0 hm
          exact Or.inr (Or.inl ⟨h0, hm⟩)
  · have hp : ∀ f, f = -1 ∨ f = 1 → rP1 (rMn M) s b f → fAk M s b := by
      intro f hf h
      have h1 : f * f + (2 * b - 1) * (2 * b - 1) = 2 := by
        rcases hf with rfl | rfl
        · by_cases cb : b = 0
          · rw [cb]; decide
          · obtain rfl : b = 1 := by omega
            decide
        · by_cases cb : b = 0
          · rw [cb]; decide
          · obtain rfl : b = 1 := by omega
            decide
      obtain ⟨i, i0, i1, e1, e2⟩ := br_Di (f := f) (r := 2 * b - 1) (by omega) (by omega) (by omega) (by omega) (by omega) (by omega)
      have h2 := (br_Fr i0 i1).2.2.1
      rw [e1, e2, h1] at h2
      have hi : 4 ≤ i := by
        by_cases c : i < 4
        · rw [if_pos c] at h2; omega
        · omega
      refine Or.inr ⟨i, i0, i1, (br_Ry hv a0 a1 i0 i1 c0 c1).mpr (Or.inr ⟨hi, e2, ?_⟩)⟩
      rw [e1, e2]
      exact h
    rintro (h | h | ⟨f, r, f0, f1, r0, r1, h⟩)
    · exact hp (-1) (Or.inl rfl) h
    · exact hp 1 (Or.inr rfl) h
    · rcases h with ⟨h5, h0, hm⟩ | h
      · exact Or.inl ((br_Ho a0 a1).mpr ⟨f, r, f0, f1, r0, r1, h5, h0, hm⟩)
      · obtain ⟨i, i0, i1, e1, e2⟩ := br_Di f0 f1 r0 r1 h.1 h.2.1
        refine Or.inr ⟨i, i0, i1, (br_Ry hv a0 a1 i0 i1 c0 c1).mpr (Or.inl ?_)⟩
        rw [e1, e2]
        exact Or.inr h
/-! class and reference: where men go -/
noncomputable abbrev brQ (M F : Nat → Int32) : rQ := (rMn M, (F 2).toInt, (F 3).toInt, (F 4).toInt)
theorem br_up {M : Nat → Int32} {k : Nat} {v : Int32} (hk : k < 64) : rMn (upd M k v) = rUp (rMn M) (k : Int) v.toInt := by
  funext j
  unfold rMn rUp upd
  by_cases c : 0 ≤ j ∧ j ≤ 63
  · rw [if_pos c]
    by_cases e : j = (k : Int)
    · rw [if_pos e, if_pos (by omega)]
    · rw [if_neg e, if_neg (by omega)]
      exact (if_pos c).symm
  · rw [if_neg c, if_neg (by omega)]
    exact (if_neg c).symm
theorem br_Wf1 {M : Nat → Int32} {s i u : Int} (a0 : 0 ≤ s) (a1 : s ≤ 63) (b0 : 0 ≤ i) (b1 : i < 8) : ∀ (n : Nat) (k : Int), 1 ≤ k → k ≤ fRc s i + 1 → fEm M s i k → rWn (rMn M) (brF i) (brR i) n (if k ≤ fRc s i then s + k * fSt i else -1) u → ∃ k, 1 ≤ k ∧ k ≤ fRc s i ∧ fEm M s i k ∧ u = s + k * fSt i
  | 0, _, _, _, _, h => h.elim
  | n + 1, k, c0, c1, he, h => by
    obtain ⟨h0, h⟩ := h
    by_cases c : k ≤ fRc s i
    · obtain ⟨h1, h2, h3⟩ := br_Po a0 a1 b0 b1 (by omega) c
      rw [if_pos c] at h
      rcases h with h | ⟨z, h⟩
      · exact ⟨k, c0, c, he, h⟩
      · rw [br_Nx a0 a1 b0 b1 (by omega) c] at h
        rw [br_Mn h1 h2] at z
        refine br_Wf1 a0 a1 b0 b1 n (k + 1) (by omega) (by omega) (fun q q0 q1 => ?_) h
        by_cases e : q = k
        · rw [e]; exact z
        · exact he q q0 (by omega)
    · rw [if_neg c] at h0
      omega
theorem br_Wf2 {M : Nat → Int32} {s i k : Int} (a0 : 0 ≤ s) (a1 : s ≤ 63) (b0 : 0 ≤ i) (b1 : i < 8) (c1 : k ≤ fRc s i) (he : fEm M s i k) : ∀ (d : Nat) (j : Int), 1 ≤ j → j + d = k → rWf (rMn M) (brF i) (brR i) (s + j * fSt i) (s + k * fSt i)
  | 0, j, j0, e => by
    obtain rfl : j = k := by omega
    obtain ⟨h1, h2, h3⟩ := br_Po a0 a1 b0 b1 (show 0 ≤ j by omega) c1
    exact rWf_i.mpr ⟨h1, Or.inl rfl⟩
  | d + 1, j, j0, e => by
    obtain ⟨h1, h2, h3⟩ := br_Po a0 a1 b0 b1 (show 0 ≤ j by omega) (show j ≤ fRc s i by omega)
    refine rWf_i.mpr ⟨h1, Or.inr ⟨by rw [br_Mn h1 h2]; exact he j j0 (by omega), ?_⟩⟩
    rw [br_Nx a0 a1 b0 b1 (by omega) (by omega), if_pos (by omega)]
    exact br_Wf2 a0 a1 b0 b1 c1 he d (j + 1) (by omega) (by omega)
theorem br_Wf {M : Nat → Int32} {s i u : Int} (a0 : 0 ≤ s) (a1 : s ≤ 63) (b0 : 0 ≤ i) (b1 : i < 8) : rWf (rMn M) (brF i) (brR i) (rSp s (brF i) (brR i)) u ↔ ∃ k, 1 ≤ k ∧ k ≤ fRc s i ∧ fEm M s i k ∧ u = s + k * fSt i := by
  have hr := (br_Rc a0 a1 b0 b1).1
  have e : rSp s (brF i) (brR i) = (if 1 ≤ fRc s i then s + 1 * fSt i else -1) := by rw [br_Sp a0 a1 b0 b1, Int.one_mul]
  rw [e]
  constructor
  · rintro ⟨n, h⟩
    exact br_Wf1 a0 a1 b0 b1 n 1 (by omega) (by omega) (fun q q0 q1 => by omega) h
  · rintro ⟨k, k0, k1, he, rfl⟩
    rw [if_pos (by omega)]
    exact br_Wf2 a0 a1 b0 b1 k1 he (k - 1).toNat 1 (by omega) (by omega)
theorem br_Re {M : Nat → Int32} {k s u : Int} (a0 : 0 ≤ s) (a1 : s ≤ 63) (hk : k = 3 ∨ k = 4 ∨ k = 5) : rRe (rMn M) k s u ↔ ∃ i j, 0 ≤ i ∧ i < 8 ∧ (k = 3 → 4 ≤ i) ∧ (k = 4 → i < 4) ∧ 1 ≤ j ∧ j ≤ fRc s i ∧ fEm M s i j ∧ u = s + j * fSt i := by
  constructor
  · rintro ⟨f, r, f0, f1, r0, r1, h | ⟨h, hw⟩⟩
    · omega
    · obtain ⟨i, i0, i1, e1, e2⟩ := br_Di f0 f1 r0 r1 (by omega) (by omega)
      have g := (br_Fr i0 i1).2.2.1
      rw [e1, e2] at g
      rw [← e1, ← e2] at hw
      obtain ⟨j, j0, j1, he, hu⟩ := (br_Wf a0 a1 i0 i1).mp hw
      refine ⟨i, j, i0, i1, fun h3 => ?_, fun h4 => ?_, j0, j1, he, hu⟩
      · by_cases c : i < 4
        · rw [if_pos c] at g; omega
        · omega
      · by_cases c : i < 4
        · exact c
        · rw [if_neg c] at g; omega
  · rintro ⟨i, j, i0, i1, h3, h4, j0, j1, he, hu⟩
    obtain ⟨g0, g1, g2, -⟩ := br_Fr i0 i1
    refine ⟨brF i, brR i, by omega, by omega, by omega, by omega, Or.inr ⟨?_, (br_Wf a0 a1 i0 i1).mpr ⟨j, j0, j1, he, hu⟩⟩⟩
    by_cases c : i < 4
    · rw [if_pos c] at g2
      rcases hk with hk | hk | hk
      · have := h3 hk; omega
      · exact Or.inl ⟨hk, g2⟩
      · exact Or.inr (Or.inr ⟨hk, by omega, by omega⟩)
    · rw [if_neg c] at g2
      rcases hk with hk | hk | hk
      · exact Or.inr (Or.inl ⟨hk, g2⟩)
      · have := h4 hk; omega
      · exact Or.inr (Or.inr ⟨hk, by omega, by omega⟩)
theorem br_Re2 {M : Int → Int} {s u : Int} (a0 : 0 ≤ s) (a1 : s ≤ 63) : rRe M 2 s u ↔ ∃ j : Nat, j < 8 ∧ 0 ≤ fHp s.toNat j ∧ u = fHp s.toNat j := by
  constructor
  · rintro ⟨f, r, f0, f1, r0, r1, ⟨h, hu, e⟩ | ⟨h, -⟩⟩
    · have h5 : f * f + r * r = 5 := by omega
      have hb := rSp_r (f := f) (r := r) a0 a1
      have e1 : rSp s f r % 8 - s % 8 = f ∧ rSp s f r / 8 - s / 8 = r := by
        rw [e] at hu
        unfold rSp at hu ⊢
        split at hu <;> split <;> omega
      have h := br_H1 ⟨s.toNat, by omega⟩ ⟨(rSp s f r).toNat, by omega⟩
      dsimp only at h
      rw [show ((s.toNat : Nat) : Int) = s by omega, show (((rSp s f r).toNat : Nat) : Int) = rSp s f r by omega, e1.1, e1.2] at h
      obtain ⟨j, hj⟩ := h h5
      exact ⟨j.val, j.isLt, by rw [hj, ← e]; exact hu, by rw [hj]; exact e⟩
    · omega
  · rintro ⟨j, j0, h0, rfl⟩
    have h := br_H0 ⟨s.toNat, by omega⟩ ⟨j, j0⟩
    dsimp only at h
    obtain ⟨h1, h2⟩ := h h0
    rw [show ((s.toNat : Nat) : Int) = s by omega] at h2
    obtain ⟨q0, q1, q2, q3⟩ := rSqb (show _ + _ ≤ 8 by rw [h2]; omega)
    exact ⟨_, _, q0, q1, q2, q3, Or.inl ⟨Or.inl ⟨rfl, h2⟩, h0, rSp_of a0 a1 h0 h1 rfl rfl⟩⟩
theorem br_Re6 {M : Int → Int} {s u : Int} (a0 : 0 ≤ s) (a1 : s ≤ 63) : rRe M 6 s u ↔ ∃ i, 0 ≤ i ∧ i < 8 ∧ 0 < fRc s i ∧ u = s + fSt i := by
  constructor
  · rintro ⟨f, r, f0, f1, r0, r1, ⟨h, hu, e⟩ | ⟨h, -⟩⟩
    · obtain ⟨i, i0, i1, e1, e2⟩ := br_Di f0 f1 r0 r1 (by omega) (by omega)
      rw [← e1, ← e2, br_Sp a0 a1 i0 i1] at e
      by_cases c : 1 ≤ fRc s i
      · rw [if_pos c] at e
        exact ⟨i, i0, i1, by omega, e⟩
      · rw [if_neg c] at e
        omega
    · omega
  · rintro ⟨i, i0, i1, hr, rfl⟩
    obtain ⟨g0, g1, g2, -⟩ := br_Fr i0 i1
    have h := (br_Rc a0 a1 i0 i1).2 (by omega)
    refine ⟨brF i, brR i, by omega, by omega, by omega, by omega, Or.inl ⟨Or.inr ⟨rfl, ?_⟩, h.1, ?_⟩⟩
    · rw [g2]; split <;> omega
    · rw [br_Sp a0 a1 i0 i1, if_pos (by omega)]
theorem br_On {M F : Nat → Int32} {t : Int} (h0 : 0 ≤ t) (h1 : t ≤ 63) : fOn M F t ↔ rOwn (brQ M F) t := by
  unfold fOn rOwn
  dsimp only
  rw [br_Mn h0 h1]
theorem br_En {M F : Nat → Int32} {t : Int} (h0 : 0 ≤ t) (h1 : t ≤ 63) : fEn M F t ↔ ¬ rOwn (brQ M F) t := by
  unfold fEn rOwn
  dsimp only
  rw [br_Mn h0 h1]
  constructor
  · rintro (h | h) ⟨h2, h3⟩
    · exact h2 h
    · exact h h3
  · intro h
    by_cases c : (M t.toNat).toInt = 0
    · exact Or.inl c
    · exact Or.inr (fun c2 => h ⟨c, c2⟩)
/-- what a man may do, castling and its king aside -/
def brPs (q : rQ) (f t b : Int) : Prop := ¬ rOwn q t ∧ rGO q f t ∧ ((q.1 f % 8 = 1 ∧ (t < 8 ∨ 55 < t) ∧ 2 ≤ b ∧ b ≤ 5) ∨ (¬ (q.1 f % 8 = 1 ∧ (t < 8 ∨ 55 < t)) ∧ b = 0))
theorem br_Sd {f i k : Int} (a0 : 0 ≤ f) (a1 : f ≤ 63) (b0 : 0 ≤ i) (b1 : i < 8) (c0 : 1 ≤ k) (c1 : k ≤ fRc f i) : 0 ≤ f + k * fSt i ∧ f + k * fSt i ≤ 63 := by
  have h := br_Po a0 a1 b0 b1 (show 0 ≤ k by omega) c1
  exact ⟨h.1, h.2.1⟩
theorem br_Gs {M F : Nat → Int32} {ck f t b : Int} {x : Int32} (a0 : 0 ≤ f) (a1 : f ≤ 63) (t0 : 0 ≤ t) (t1 : t ≤ 63) (p0 : 0 ≤ b) (p1 : b ≤ 7) (hx : x.toInt = 512 * f + 8 * t + b) (hk : 3 ≤ (M f.toNat).toInt % 8 ∧ (M f.toNat).toInt % 8 ≤ 5) : fGn M F ck f x ↔ brPs (brQ M F) f t b := by
  have hm : rMn M f = (M f.toNat).toInt := br_Mn a0 a1
  have e : fGn M F ck f x ↔ fSx M F f ((M f.toNat).toInt % 8) (fun _ _ => True) x := by
    constructor
    · rintro (⟨h, -⟩ | ⟨h, -⟩ | ⟨h, -⟩ | ⟨-, -, h⟩)
      · omega
      · omega
      · omega
      · exact h
    · exact fun h => Or.inr (Or.inr (Or.inr ⟨hk.1, hk.2, h⟩))
  rw [e]
  constructor
  · rintro ⟨i, k, ⟨i0, i1, h3, h4, k0, k1, he, hn⟩, -, hx2⟩
    obtain ⟨s0, s1⟩ := br_Sd a0 a1 i0 i1 k0 k1
    obtain rfl : t = f + k * fSt i := by omega
    refine ⟨(br_En s0 s1).mp hn, Or.inr ⟨by dsimp only; rw [hm]; omega, Or.inl ?_⟩, Or.inr ⟨by dsimp only; rw [hm]; omega, by omega⟩⟩
    dsimp only
    rw [hm]
    exact (br_Re a0 a1 (by omega)).mpr ⟨i, k, i0, i1, h3, h4, k0, k1, he, rfl⟩
  · rintro ⟨ho, hg, hb⟩
    dsimp only at hb
    rw [hm] at hb
    rcases hg with ⟨h, -⟩ | ⟨-, h | ⟨h, -⟩⟩
    · dsimp only at h; rw [hm] at h; omega
    · dsimp only at h
      rw [hm] at h
      obtain ⟨i, k, i0, i1, h3, h4, k0, k1, he, hu⟩ := (br_Re a0 a1 (by omega)).mp h
      exact ⟨i, k, ⟨i0, i1, h3, h4, k0, k1, he, by rw [← hu]; exact (br_En t0 t1).mpr ho⟩, trivial, by rw [← hu]; omega⟩
    · dsimp only at h; rw [hm] at h; omega
theorem br_Gh {M F : Nat → Int32} {ck f t b : Int} {x : Int32} (a0 : 0 ≤ f) (a1 : f ≤ 63) (t0 : 0 ≤ t) (t1 : t ≤ 63) (p0 : 0 ≤ b) (p1 : b ≤ 7) (hx : x.toInt = 512 * f + 8 * t + b) (hk : (M f.toNat).toInt % 8 = 2) : fGn M F ck f x ↔ brPs (brQ M F) f t b := by
  have hm : rMn M f = (M f.toNat).toInt := br_Mn a0 a1
  have e : fGn M F ck f x ↔ fHx M F f (fun _ => True) x := by
    constructor
    · rintro (⟨h, -⟩ | ⟨-, h⟩ | ⟨h, -⟩ | ⟨h, -, -⟩)
      · omega
      · exact h
      · omega
      · omega
    · exact fun h => Or.inr (Or.inl ⟨hk, h⟩)
  rw [e]
  constructor
  · rintro ⟨j, j0, h0, hn, -, hx2⟩
    have h := br_H0 ⟨f.toNat, by omega⟩ ⟨j, j0⟩
    dsimp only at h
    have h1 := (h h0).1
    obtain rfl : t = fHp f.toNat j := by omega
    refine ⟨(br_En h0 h1).mp hn, Or.inr ⟨by dsimp only; rw [hm]; omega, Or.inl ?_⟩, Or.inr ⟨by dsimp only; rw [hm]; omega, by omega⟩⟩
    dsimp only
    rw [hm, hk]
    exact (br_Re2 a0 a1).mpr ⟨j, j0, h0, rfl⟩
  · rintro ⟨ho, hg, hb⟩
    dsimp only at hb
    rw [hm] at hb
    rcases hg with ⟨h, -⟩ | ⟨-, h | ⟨h, -⟩⟩
    · dsimp only at h; rw [hm] at h; omega
    · dsimp only at h
      rw [hm, hk] at h
      obtain ⟨j, j0, h0, hu⟩ := (br_Re2 a0 a1).mp h
      exact ⟨j, j0, h0, by rw [← hu]; exact (br_En t0 t1).mpr ho, trivial, by rw [← hu]; omega⟩
    · dsimp only at h; rw [hm] at h; omega
theorem br_Gp {M F : Nat → Int32} {ck f t b : Int} {x : Int32} (a0 : 0 ≤ f) (a1 : f ≤ 63) (t0 : 0 ≤ t) (t1 : t ≤ 63) (p0 : 0 ≤ b) (p1 : b ≤ 7) (hx : x.toInt = 512 * f + 8 * t + b) (hk : (M f.toNat).toInt % 8 = 1) (hs : 0 ≤ (F 2).toInt ∧ (F 2).toInt ≤ 1) (hf : 8 ≤ f ∧ f ≤ 55) (hv : brV M) (hp : rPs (brQ M F)) : fGn M F ck f x ↔ brPs (brQ M F) f t b := by
  have hm : rMn M f = (M f.toNat).toInt := br_Mn a0 a1
  have mt : rMn M t = (M t.toNat).toInt := br_Mn t0 t1
  have e : fGn M F ck f x ↔ fPx M F f (fun _ _ => True) True x := by
    constructor
    · rintro (⟨-, h⟩ | ⟨h, -⟩ | ⟨h, -⟩ | ⟨h, -, -⟩)
      · exact h
      · omega
      · omega
      · omega
    · exact fun h => Or.inl ⟨hk, h⟩
  rw [e]
  have eo : fOne F f = f + 8 - 16 * (F 2).toInt := rfl
  have o0 : 0 ≤ fOne F f ∧ fOne F f ≤ 63 := by omega
  have mo : rMn M (fOne F f) = (M (fOne F f).toNat).toInt := br_Mn o0.1 o0.2
  have eu : rUpw (brQ M F) = 1 - 2 * (F 2).toInt := rfl
  have e1 : rSp f 0 (rUpw (brQ M F)) = fOne F f := by
    rw [eu, eo]
    unfold rSp
    rw [if_pos (by omega)]
    omega
  have e2 : f / 8 = 1 + 5 * (F 2).toInt → rSp (fOne F f) 0 (rUpw (brQ M F)) = fOne F f + 8 - 16 * (F 2).toInt := by
    intro h
    rw [eu, eo]
    unfold rSp
    rw [if_pos (by omega)]
    omega
  have e3 : ∀ c, (c = -1 ∨ c = 1) → t = rSp f c (rUpw (brQ M F)) → t = fOne F f + c ∧ t / 8 = fOne F f / 8 := by
    intro c hc h
    rw [eu] at h
    unfold rSp at h
    by_cases z : 0 ≤ f % 8 + c ∧ f % 8 + c ≤ 7 ∧ 0 ≤ f / 8 + (1 - 2 * (F 2).toInt) ∧ f / 8 + (1 - 2 * (F 2).toInt) ≤ 7
    · rw [if_pos z] at h
      omega
    · rw [if_neg z] at h
      omega
  have e4 : ∀ c, (c = -1 ∨ c = 1) → t = fOne F f + c → t / 8 = fOne F f / 8 → t = rSp f c (rUpw (brQ M F)) := by
    intro c hc h h2
    rw [eu]
    unfold rSp
    rw [if_pos (by omega)]
    omega
  have vt := hv t.toNat (by omega)
  unfold fPx fPg fLa brPs rGO rPG rPF rPT rTk rOwn
  dsimp only
  rw [e1, mo, mt, hm]
  constructor
  · rintro ⟨-, ⟨t', b', h1, h2, ⟨h3, h4⟩, h5, h6, -, h7⟩ | ⟨-, h3, h4, h5, h6⟩⟩
    · by_cases c : t' = fOne F f
      · have z := h3 c
        by_cases l : fOne F f < 8 ∨ 55 < fOne F f
        · have := h5 l
          obtain rfl : t = t' := by omega
          exact ⟨fun h => by omega, Or.inl ⟨hk, Or.inl ⟨o0.1, by rw [← c]; exact z, Or.inl c⟩⟩, Or.inl ⟨hk, by omega, by omega, by omega⟩⟩
        · have := h6 l
          obtain rfl : t = t' := by omega
          exact ⟨fun h => by omega, Or.inl ⟨hk, Or.inl ⟨o0.1, by rw [← c]; exact z, Or.inl c⟩⟩, Or.inr ⟨by omega, by omega⟩⟩
      · obtain ⟨z1, z2, z3, z4, z5⟩ := h4 c
        have hb' : (2 ≤ b' ∧ b' ≤ 5) ∨ b' = 0 := by
          by_cases l : fOne F f < 8 ∨ 55 < fOne F f
          · exact Or.inl (h5 l)
          · exact Or.inr (h6 l)
        obtain rfl : t = t' := by omega
        have hc : t = fOne F f + -1 ∨ t = fOne F f + 1 := by omega
        have hT : (¬ (M t.toNat).toInt = 0 ∧ (M t.toNat).toInt / 8 = 1 - (F 2).toInt) ∨ t = (F 4).toInt := by
          by_cases y : (M t.toNat).toInt = 0
          · exact Or.inr (z4 y)
          · have := z5 y
            exact Or.inl ⟨y, by omega⟩
        refine ⟨fun h => ?_, Or.inl ⟨hk, Or.inr ?_⟩, ?_⟩
        · exact z5 h.1 h.2
        · rcases hc with hc | hc
          · exact ⟨-1, Or.inl rfl, t0, e4 (-1) (Or.inl rfl) hc z3, hT⟩
          · exact ⟨1, Or.inr rfl, t0, e4 1 (Or.inr rfl) hc z3, hT⟩
        · by_cases l : fOne F f < 8 ∨ 55 < fOne F f
          · have := h5 l
            exact Or.inl ⟨hk, by omega, by omega, by omega⟩
          · have := h6 l
            exact Or.inr ⟨by omega, by omega⟩
    · obtain rfl : t = fOne F f + 8 - 16 * (F 2).toInt := by omega
      refine ⟨fun h => h.1 h5, Or.inl ⟨hk, Or.inl ⟨o0.1, h4, Or.inr ⟨h3, (e2 h3).symm, h5⟩⟩⟩, Or.inr ⟨by omega, by omega⟩⟩
  · rintro ⟨ho, ⟨-, h⟩ | ⟨h, -⟩, hb⟩
    · refine ⟨o0, ?_⟩
      rcases h with ⟨-, h1, h2 | ⟨h2, h3, h4⟩⟩ | ⟨c, hc, -, h1, h2⟩
      · refine Or.inl ⟨t, b, by omega, by omega, ⟨fun _ => by rw [h2]; exact h1, fun h => absurd h2 h⟩, fun l => ?_, fun l => ?_, trivial, hx⟩
        · rcases hb with hb | hb
          · exact ⟨hb.2.2.1, hb.2.2.2⟩
          · omega
        · rcases hb with hb | hb
          · omega
          · exact hb.2
      · rw [e2 h2] at h3
        refine Or.inr ⟨trivial, h2, h1, by rw [← h3]; exact h4, ?_⟩
        rw [← h3]
        omega
      · obtain ⟨h3, h4⟩ := e3 c hc h1
        refine Or.inl ⟨t, b, by omega, by omega, ⟨fun h => by omega, fun _ => ⟨t0, by omega, h4, fun z => ?_, fun z => ?_⟩⟩, fun l => ?_, fun l => ?_, trivial, hx⟩
        · rcases h2 with h2 | h2
          · exact absurd z h2.1
          · exact h2
        · rcases h2 with h2 | h2
          · omega
          · exact fun h => ho ⟨z, h⟩
        · rcases hb with hb | hb
          · exact ⟨hb.2.2.1, hb.2.2.2⟩
          · omega
        · rcases hb with hb | hb
          · omega
          · exact hb.2
    · exact absurd hk h
/-! class and reference: what a move leaves, and whether its king is safe -/
theorem br_Nc (x : Int32) : x.toNatClampNeg = x.toInt.toNat := rfl
theorem br_Ov {M : Nat → Int32} {f w t m : Int32} (f0 : 0 ≤ f.toInt) (f1 : f.toInt ≤ 63) (w0 : 0 ≤ w.toInt) (w1 : w.toInt ≤ 63) (t0 : 0 ≤ t.toInt) (t1 : t.toInt ≤ 63) : rMn (fOv M f w t m) = rUp (rUp (rUp (rMn M) f.toInt 0) w.toInt 0) t.toInt m.toInt := by
  unfold fOv
  rw [br_Nc, br_Nc, br_Nc, br_up (by omega), br_up (by omega), br_up (by omega), show ((f.toInt.toNat : Nat) : Int) = f.toInt by omega, show ((w.toInt.toNat : Nat) : Int) = w.toInt by omega, show ((t.toInt.toNat : Nat) : Int) = t.toInt by omega]
  rfl
theorem br_Uc {M : Int → Int} {a b : Int} : rUp (rUp M a 0) b 0 = rUp (rUp M b 0) a 0 := by
  funext i
  unfold rUp
  split <;> split <;> rfl
theorem br_And7 : ∀ v : Fin 16, (Int32.ofNat v.val &&& 7 = 1) ↔ v.val % 8 = 1 := by decide +kernel
theorem br_k1 {x : Int32} (h0 : 0 ≤ x.toInt) (h1 : x.toInt ≤ 15) : (x &&& 7 = 1) ↔ x.toInt % 8 = 1 := by
  have h := br_And7 ⟨x.toInt.toNat, by omega⟩
  dsimp only at h
  rw [← rOf h0] at h
  rw [h]
  omega
theorem br_nI {t : Int} (h0 : 0 ≤ t) (h1 : t ≤ 63) : (nI t.toNat).toInt = t := by
  rw [nI_toInt (by omega)]
  omega
theorem br_nE {t : Int} {x : Int32} (h0 : 0 ≤ t) (h1 : t ≤ 63) : nI t.toNat = x ↔ t = x.toInt := by
  constructor
  · intro e
    rw [← e, br_nI h0 h1]
  · intro e
    apply Int32.toInt_inj.mp
    rw [br_nI h0 h1, e]
/-- where what is taken stands -/
theorem br_Wh {M F : Nat → Int32} {f t m : Int} (hG : fGood M F) (a0 : 0 ≤ f) (a1 : f ≤ 63) (t0 : 0 ≤ t) (t1 : t ≤ 63) (ef : rFr m = f) (et : rTo m = t) (hr : (M f.toNat).toInt % 8 = 1 → t = (F 4).toInt → t / 8 = f / 8 + (1 - 2 * (F 2).toInt)) : (bWh M F f.toNat t.toNat).toInt = rWh (brQ M F) m ∧ 0 ≤ rWh (brQ M F) m ∧ rWh (brQ M F) m ≤ 63 := by
  obtain ⟨g1, g2, g3, g4, g5⟩ := hG
  have h5 := g5 f.toNat (by omega)
  refine ⟨?_, rWh_r⟩
  unfold bWh rWh
  dsimp only
  rw [ef, et]
  have mf := br_Mn (M := M) a0 a1
  by_cases c : rMn M f % 8 = 1 ∧ t = (F 4).toInt
  · have c1 := c.1
    rw [mf] at c1
    rw [if_pos c, if_pos ⟨(br_k1 (by omega) (by omega)).mpr c1, (br_nE t0 t1).mpr c.2⟩, fPp8 (by omega) g3]
    have h8 := hr c1 c.2
    unfold fPp
    by_cases z : (F 2).toInt = 0
    · rw [if_pos z]; omega
    · rw [if_neg z]; omega
  · rw [if_neg c, if_neg (fun h => c ⟨by rw [mf]; exact (br_k1 (by omega) (by omega)).mp h.1, (br_nE t0 t1).mp h.2⟩), br_nI t0 t1]
/-- a pawn's rank when it takes in passing -/
theorem br_pr {q : rQ} {f t b : Int} (hp : rPs q) (hs : 0 ≤ q.2.1 ∧ q.2.1 ≤ 1) (a0 : 0 ≤ f) (a1 : f ≤ 63) (t0 : 0 ≤ t) (h : brPs q f t b) (h1 : q.1 f % 8 = 1) (h2 : t = q.2.2.2) : t / 8 = f / 8 + (1 - 2 * q.2.1) := by
  have hup : rUpw q = 1 - 2 * q.2.1 := rfl
  obtain ⟨-, ⟨-, h | ⟨c, hc, -, h, -⟩⟩ | ⟨h, -⟩, -⟩ := h
  · obtain ⟨h3, -, h4 | ⟨h4, h5, -⟩⟩ := h
    · rw [hup] at h4 h3
      unfold rSp at h4 h3
      split at h4 <;> omega
    · rw [hup] at h5 h3
      rcases hp with hp | ⟨-, -, -, hp⟩
      · omega
      · unfold rSp at h5 h3
        split at h3
        · rename_i z
          split at h5 <;> omega
        · omega
  · rw [hup] at h
    unfold rSp at h
    split at h <;> omega
  · exact absurd h1 h
theorem br_fr1 {A B : Int → Int} {f h b fd rd m0 : Int} (f0 : -1 ≤ fd) (f1 : fd ≤ 1) (r0 : -1 ≤ rd) (r1 : rd ≤ 1) (hz : ¬ (fd = 0 ∧ rd = 0)) (n1 : ¬ f % 8 = h % 8) (n2 : ¬ f / 8 = h / 8) (n3 : ¬ f % 8 - h % 8 = f / 8 - h / 8) (n4 : ¬ f % 8 - h % 8 = - (f / 8 - h / 8)) (hN : ∀ u, ¬ u = f → B u = A u ∨ (¬ B u = 0 ∧ ¬ B u / 8 = b)) (hm : m0 / 8 = b) (hm0 : ¬ m0 = 0) : ∀ (n : Nat) (u : Int), (u < 0 ∨ (0 ≤ u ∧ u ≤ 63 ∧ ∃ j, u % 8 = h % 8 + j * fd ∧ u / 8 = h / 8 + j * rd)) → rGn B fd rd n u = some m0 → rGn A fd rd n u = some m0
  | 0, _, _, e => by cases e
  | n + 1, u, hu, e => by
    unfold rGn at e ⊢
    rcases hu with hu | ⟨u0, u1, j, e1, e2⟩
    · rw [if_pos hu] at e
      exact absurd (Option.some.inj e).symm hm0
    · rw [if_neg (by omega)] at e ⊢
      have uf : ¬ u = f := by
        intro c
        subst c
        have hf : fd = -1 ∨ fd = 0 ∨ fd = 1 := by omega
        have hr : rd = -1 ∨ rd = 0 ∨ rd = 1 := by omega
        rcases hf with rfl | rfl | rfl <;> rcases hr with rfl | rfl | rfl <;> omega
      by_cases c : B u = 0
      · rw [if_pos c] at e
        have ca : A u = 0 := by
          rcases hN u uf with h1 | h1
          · rw [← h1]; exact c
          · exact absurd c h1.1
        rw [if_pos ca]
        refine br_fr1 f0 f1 r0 r1 hz n1 n2 n3 n4 hN hm hm0 n _ ?_ e
        unfold rSp
        split
        · rename_i z
          refine Or.inr ⟨by omega, by omega, j + 1, ?_, ?_⟩
          · rw [Int.add_mul, Int.one_mul]; omega
          · rw [Int.add_mul, Int.one_mul]; omega
        · exact Or.inl (by omega)
      · rw [if_neg c] at e
        have e3 := Option.some.inj e
        have ca : A u = B u := by
          rcases hN u uf with h1 | h1
          · exact h1.symm
          · exact absurd (by rw [e3]; exact hm) h1.2
        rw [ca, if_neg c]
        exact e
/-- a man on no line with its king does not lay it open -/
theorem br_fr {A B : Int → Int} {f h b : Int} (h0 : 0 ≤ h) (h1 : h ≤ 63) (hb : 0 ≤ b) (n1 : ¬ f % 8 = h % 8) (n2 : ¬ f / 8 = h / 8) (n3 : ¬ f % 8 - h % 8 = f / 8 - h / 8) (n4 : ¬ f % 8 - h % 8 = - (f / 8 - h / 8)) (hf : B f = 0) (hN : ∀ u, ¬ u = f → B u = A u ∨ (¬ B u = 0 ∧ ¬ B u / 8 = b)) (ha : rAk B h b) : rAk A h b := by
  have hone : ∀ u v, B u = v → ¬ v = 0 → v / 8 = b → A u = v := by
    intro u v e hv hv8
    by_cases c : u = f
    · rw [c, hf] at e
      exact absurd e.symm hv
    · rcases hN u c with h1 | h1
      · rw [← h1]; exact e
      · rw [e] at h1
        exact absurd hv8 h1.2
  rcases ha with ha | ha | ⟨fd, rd, f0, f1, r0, r1, ha⟩
  · exact Or.inl ⟨ha.1, hone _ _ ha.2 (by omega) (by omega)⟩
  · exact Or.inr (Or.inl ⟨ha.1, hone _ _ ha.2 (by omega) (by omega)⟩)
  · refine Or.inr (Or.inr ⟨fd, rd, f0, f1, r0, r1, ?_⟩)
    rcases ha with ⟨h5, hs, e⟩ | ⟨h5, h6, ⟨hs, e⟩ | ⟨m, ⟨n, hg⟩, hm⟩⟩
    · exact Or.inl ⟨h5, hs, hone _ _ e (by omega) (by omega)⟩
    · exact Or.inr ⟨h5, h6, Or.inl ⟨hs, hone _ _ e (by omega) (by omega)⟩⟩
    · refine Or.inr ⟨h5, h6, Or.inr ⟨m, ⟨n, ?_⟩, hm⟩⟩
      obtain ⟨s0, s1, s2, s3⟩ := rSq2 f0 f1 r0 r1 h6
      have hz : ¬ (fd = 0 ∧ rd = 0) := by
        rintro ⟨rfl, rfl⟩
        omega
      refine br_fr1 s0 s1 s2 s3 hz n1 n2 n3 n4 hN (by omega) (by omega) n _ ?_ hg
      unfold rSp
      split
      · rename_i z
        exact Or.inr ⟨by omega, by omega, 1, by omega, by omega⟩
      · exact Or.inl (by omega)
theorem br_val {M F : Nat → Int32} (hG : fGood M F) : brV M := fun i hi => by
  have h := hG.2.2.2.2 i hi
  exact ⟨h.1, h.2.1, h.2.2.1, h.2.2.2.1⟩
/-- moves but castling: the king is safe in the class's eyes as in the reference's -/
theorem br_Sf {M F : Nat → Int32} {h ck f t b m : Int} {x : Int32} (hG : fGood M F) (hd : rGd (brQ M F)) (h0 : 0 ≤ h) (h1 : h ≤ 63) (hK : (M h.toNat).toInt = 8 * (F 2).toInt + 6) (hck : fCk M F h ck) (a0 : 0 ≤ f) (a1 : f ≤ 63) (t0 : 0 ≤ t) (t1 : t ≤ 63) (ef : rFr m = f) (et : rTo m = t) (eb : rBc m = b) (ext : (fMt x : Int) = t) (hl : rLm (brQ M F) m) (hps : brPs (brQ M F) f t b) (hc : ¬ rIsC (brQ M F) m) : fSf M F h ck f x ↔ rGd (rMk (brQ M F) m) := by
  have hs : 0 ≤ (F 2).toInt ∧ (F 2).toInt ≤ 1 := hG.2.2.1
  have hv := br_val hG
  have mf : rMn M f = (M f.toNat).toInt := br_Mn a0 a1
  have mh : rMn M h = 8 * (F 2).toInt + 6 := by rw [br_Mn h0 h1]; exact hK
  have vf := hv f.toNat (by omega)
  have hof : ¬ rMn M f = 0 ∧ rMn M f / 8 = (F 2).toInt := by have := hl.2.2.1; rw [ef] at this; exact this
  have hnt : ¬ rOwn (brQ M F) t := hps.1
  obtain ⟨ew, w0, w1⟩ := br_Wh (m := m) hG a0 a1 t0 t1 ef et (fun e1 e2 => br_pr hd.2.2.2.2.1 hs a0 a1 t0 hps (by dsimp only; rw [mf]; exact e1) e2)
  have hfx : fMt x = t.toNat := by omega
  have e4 : rM4 (brQ M F) m = rM3 (brQ M F) m := rM4_n hc
  have hks := rKs_4 hd hl
  rw [e4] at hks
  have hfree : bWh M F f.toNat (fMt x) = nI (fMt x) ↔ rWh (brQ M F) m = t := by
    rw [hfx, ← ew]
    constructor
    · intro e; rw [e, br_nI t0 t1]
    · intro e; apply Int32.toInt_inj.mp; rw [e, br_nI t0 t1]
  have hN : rMn (fOv M (nI f.toNat) (bWh M F f.toNat (fMt x)) (nI (fMt x)) (M f.toNat)) = rUp (rUp (rUp (rMn M) f 0) (rWh (brQ M F) m) 0) t (M f.toNat).toInt := by
    rw [hfx, br_Ov (by rw [br_nI a0 a1]; exact a0) (by rw [br_nI a0 a1]; exact a1) (by rw [ew]; exact w0) (by rw [ew]; exact w1) (by rw [br_nI t0 t1]; exact t0) (by rw [br_nI t0 t1]; exact t1), br_nI a0 a1, br_nI t0 t1, ew]
  have h3 : rM3 (brQ M F) m = rUp (rUp (rUp (rMn M) f 0) (rWh (brQ M F) m) 0) t (if 0 < b then b + 8 * (F 2).toInt else rMn M f) := by
    unfold rM3 rM2 rM1
    dsimp only
    rw [ef, et, eb, br_Uc]
  have hb5 : b = 0 ∨ (2 ≤ b ∧ b ≤ 5) := by
    rcases hps.2.2 with hb | hb
    · exact Or.inr hb.2.2
    · exact Or.inl hb.2
  have hv3 : ¬ (if 0 < b then b + 8 * (F 2).toInt else rMn M f) = 0 ∧ (if 0 < b then b + 8 * (F 2).toInt else rMn M f) / 8 = (F 2).toInt := by
    split
    · omega
    · exact hof
  have k1 : rLk (rMn (fOv M (nI f.toNat) (bWh M F f.toNat (fMt x)) (nI (fMt x)) (M f.toNat))) (rM3 (brQ M F) m) (1 - (F 2).toInt) := by
    intro i
    rw [hN, h3]
    by_cases c : i = t
    · rw [c, rUp_s, rUp_s]
      rw [mf] at hof
      exact Or.inr ⟨hof.1, hv3.1, by omega, by omega⟩
    · rw [rUp_n c, rUp_n c]
      exact Or.inl rfl
  have k2 : rLk (rM3 (brQ M F) m) (rMn (fOv M (nI f.toNat) (bWh M F f.toNat (fMt x)) (nI (fMt x)) (M f.toNat))) (1 - (F 2).toInt) := by
    intro i
    rcases k1 i with h | ⟨q1, q2, q3, q4⟩
    · exact Or.inl h.symm
    · exact Or.inr ⟨q2, q1, q4, q3⟩
  have hvN : brV (fOv M (nI f.toNat) (bWh M F f.toNat (fMt x)) (nI (fMt x)) (M f.toNat)) := by
    intro i hi
    have e : ((fOv M (nI f.toNat) (bWh M F f.toNat (fMt x)) (nI (fMt x)) (M f.toNat)) i).toInt = rMn (fOv M (nI f.toNat) (bWh M F f.toNat (fMt x)) (nI (fMt x)) (M f.toNat)) (i : Int) := by
      rw [br_Mn (by omega) (by omega), show ((i : Int)).toNat = i by omega]
    rw [e, hN]
    have vi := hv i hi
    have mi : rMn M (i : Int) = (M i).toInt := by rw [br_Mn (by omega) (by omega), show ((i : Int)).toNat = i by omega]
    unfold rUp
    split
    · exact vf
    · split
      · omega
      · split
        · omega
        · rw [mi]; exact vi
  -- the king's square behind the move
  have hsq : ∀ k, rM3 (brQ M F) m k = 8 * (F 2).toInt + 6 → 0 ≤ k → k ≤ 63 → (rGd (rMk (brQ M F) m) ↔ ¬ fAk (fOv M (nI f.toNat) (bWh M F f.toNat (fMt x)) (nI (fMt x)) (M f.toNat)) k (1 - (F 2).toInt)) := by
    intro k hk k0 k1'
    rw [rMk_gd hd hl, e4, br_Ak hvN k0 k1' (by omega) (by omega)]
    obtain ⟨s, -, -, es, us⟩ := hks (F 2).toInt hs.1 hs.2
    constructor
    · intro hall hak
      exact hall k hk (rLk_a k1 hak)
    · intro hn s' hs' hak
      have e1 := us s' hs'
      have e2 := us k hk
      rw [e1, ← e2] at hak
      exact hn (rLk_a k2 hak)
  have hwh : ¬ rWh (brQ M F) m = t → rMn M f = 8 * (F 2).toInt + 1 ∧ rMn M (rWh (brQ M F) m) = 8 * (1 - (F 2).toInt) + 1 ∧ ¬ rWh (brQ M F) m = f := by
    intro c
    have h := rLm_ep hd hl (by rw [et]; exact c)
    rw [ef] at h
    exact ⟨h.1, h.2.2.1, h.2.2.2.2⟩
  by_cases c6 : (M f.toNat).toInt % 8 = 6
  · -- the king moves
    have hfh : f = h := by
      obtain ⟨s, -, -, es, us⟩ := hd.2.2.2.1 (F 2).toInt hs.1 hs.2
      have e1 := us h mh
      have e2 := us f (show rMn M f = _ by rw [mf] at hof ⊢; omega)
      omega
    have hb0 : b = 0 := by
      rcases hps.2.2 with hb | hb
      · have := hb.1; dsimp only at this; rw [mf] at this; omega
      · exact hb.2
    have hkt : rM3 (brQ M F) m t = 8 * (F 2).toInt + 6 := by
      rw [h3, rUp_s, if_neg (by omega), hfh]; exact mh
    rw [hsq t hkt t0 t1]
    unfold fSf
    rw [if_pos c6, ext]
    have hnc : ¬ ((t - f = 2) ∨ (f - t = 2)) := by
      intro hh
      apply hc
      refine ⟨?_, ?_⟩
      · dsimp only; rw [ef, mf]; exact c6
      · rw [ef, et]; exact hh
    constructor
    · rintro (⟨⟨-, hq, -⟩, -⟩ | ⟨hq, -⟩)
      · exact absurd (by rw [hfh]) hq
      · exact hq
    · exact fun hq => Or.inr ⟨hq, fun _ hh => absurd hh hnc⟩
  · have hfh : ¬ f = h := by
      intro e
      rw [e] at mf c6
      rw [mh] at mf
      omega
    have hth : ¬ t = h := by
      intro e
      apply hnt
      rw [e]
      refine ⟨?_, ?_⟩
      · dsimp only; rw [mh]; omega
      · dsimp only; rw [mh]; omega
    have hwhh : ¬ h = rWh (brQ M F) m := by
      intro e
      by_cases c : rWh (brQ M F) m = t
      · exact hth (by rw [e]; exact c.symm)
      · have := (hwh c).2.1
        rw [← e, mh] at this
        omega
    have hkh : rM3 (brQ M F) m h = 8 * (F 2).toInt + 6 := by
      rw [h3, rUp_n (by omega), rUp_n hwhh, rUp_n (by omega)]; exact mh
    rw [hsq h hkh h0 h1]
    unfold fSf
    rw [if_neg c6, ext]
    constructor
    · rintro (⟨⟨hc0, n1, n2, n3, n4⟩, hw⟩ | ⟨hq, -⟩)
      · rw [hfree] at hw
        rw [br_Ak hvN h0 h1 (by omega) (by omega)]
        intro hak
        have hak := rLk_a k1 hak
        have hA : rAk (rMn M) h (1 - (F 2).toInt) := by
          refine br_fr (B := rM3 (brQ M F) m) (f := f) h0 h1 (by omega) n1 n2 n3 n4 ?_ ?_ hak
          · have hft : ¬ f = t := by
              intro e
              exact hnt (by rw [← e]; exact hof)
            rw [h3, rUp_n hft]
            by_cases cw : f = rWh (brQ M F) m
            · rw [← cw, rUp_s]
            · rw [rUp_n cw, rUp_s]
          · intro u huf
            rw [h3]
            by_cases cu : u = t
            · rw [cu, rUp_s]
              exact Or.inr ⟨hv3.1, by omega⟩
            · rw [rUp_n cu, rUp_n (by rw [hw]; exact cu), rUp_n huf]
              exact Or.inl rfl
        rw [← br_Ak hv h0 h1 (by omega) (by omega)] at hA
        have := hck.2.mpr hA
        omega
      · exact hq
    · exact fun hq => Or.inr ⟨hq, fun hh => absurd hh c6⟩
/-! class and reference: castling -/
theorem br_Rk {A B : Int → Int} {s b : Int} (h0 : 0 ≤ s) (h1 : s ≤ 63) (he : ∀ j, ¬ j / 8 = s / 8 → A j = B j) (ha : rAk A s b) : rAk B s b ∨ rA1 A s b (-1) 0 ∨ rA1 A s b 1 0 := by
  have hsp : ∀ f r, -2 ≤ r → r ≤ 2 → ¬ r = 0 → 0 ≤ rSp s f r → A (rSp s f r) = B (rSp s f r) := by
    intro f r r0 r1 hr h
    apply he
    unfold rSp at h ⊢
    split at h
    · rename_i z
      rw [if_pos z]
      omega
    · omega
  have hgo : ∀ (f r : Int), -1 ≤ r → r ≤ 1 → ¬ r = 0 → ∀ (n : Nat) (u m : Int), (u < 0 ∨ (0 ≤ u ∧ u ≤ 63 ∧ (0 < r → s / 8 < u / 8) ∧ (r < 0 → u / 8 < s / 8))) → rGn A f r n u = some m → rGn B f r n u = some m := by
    intro f r r0 r1 hr n
    induction n with
    | zero => intro u m _ e; cases e
    | succ n ih =>
      intro u m hu e
      unfold rGn at e ⊢
      rcases hu with hu | ⟨u0, u1, u2, u3⟩
      · rw [if_pos hu] at e ⊢; exact e
      · rw [if_neg (by omega)] at e ⊢
        rw [← he u (by omega)]
        by_cases c : A u = 0
        · rw [if_pos c] at e ⊢
          refine ih _ _ ?_ e
          unfold rSp
          split
          · rename_i z
            exact Or.inr ⟨by omega, by omega, by omega, by omega⟩
          · exact Or.inl (by omega)
        · rw [if_neg c] at e ⊢; exact e
  rcases ha with ha | ha | ⟨f, r, f0, f1, r0, r1, ha⟩
  · by_cases cb : 2 * b - 1 = 0
    · omega
    · by_cases c2 : -2 ≤ 2 * b - 1 ∧ 2 * b - 1 ≤ 2
      · exact Or.inl (Or.inl ⟨ha.1, by rw [← hsp _ _ c2.1 c2.2 cb ha.1]; exact ha.2⟩)
      · exact Or.inl (Or.inl ⟨ha.1, by
          rw [← ha.2]
          refine (he _ ?_).symm
          have h3 := ha.1
          unfold rSp at h3 ⊢
          split at h3
          · rename_i z
            rw [if_pos z]
            omega
          · omega⟩)
  · by_cases cb : 2 * b - 1 = 0
    · omega
    · by_cases c2 : -2 ≤ 2 * b - 1 ∧ 2 * b - 1 ≤ 2
      · exact Or.inl (Or.inr (Or.inl ⟨ha.1, by rw [← hsp _ _ c2.1 c2.2 cb ha.1]; exact ha.2⟩))
      · exact Or.inl (Or.inr (Or.inl ⟨ha.1, by
          rw [← ha.2]
          refine (he _ ?_).symm
          have h3 := ha.1
          unfold rSp at h3 ⊢
          split at h3
          · rename_i z
            rw [if_pos z]
            omega
          · omega⟩))
  · by_cases cr : r = 0
    · subst cr
      rcases ha with ⟨h5, -⟩ | ha
      · exfalso
        have : f = -2 ∨ f = -1 ∨ f = 0 ∨ f = 1 ∨ f = 2 := by omega
        rcases this with rfl | rfl | rfl | rfl | rfl <;> omega
      · obtain ⟨s0, s1, -, -⟩ := rSq2 f0 f1 r0 r1 ha.2.1
        have hf : f = -1 ∨ f = 0 ∨ f = 1 := by omega
        rcases hf with rfl | rfl | rfl
        · exact Or.inr (Or.inl (Or.inr ha))
        · have := ha.1; omega
        · exact Or.inr (Or.inr (Or.inr ha))
    · refine Or.inl (Or.inr (Or.inr ⟨f, r, f0, f1, r0, r1, ?_⟩))
      rcases ha with ⟨h5, hs, e⟩ | ⟨h5, h6, ⟨hs, e⟩ | ⟨m, ⟨n, hg⟩, hm⟩⟩
      · exact Or.inl ⟨h5, hs, by rw [← hsp _ _ r0 r1 cr hs]; exact e⟩
      · exact Or.inr ⟨h5, h6, Or.inl ⟨hs, by rw [← hsp _ _ r0 r1 cr hs]; exact e⟩⟩
      · obtain ⟨s0, s1, s2, s3⟩ := rSq2 f0 f1 r0 r1 h6
        refine Or.inr ⟨h5, h6, Or.inr ⟨m, ⟨n, hgo f r s2 s3 cr n _ m ?_ hg⟩, hm⟩⟩
        unfold rSp
        split
        · rename_i z
          exact Or.inr ⟨by omega, by omega, by omega, by omega⟩
        · exact Or.inl (by omega)
/-- no attack along a line whose first man is known -/
theorem br_Nl {A : Int → Int} {s b f m : Int} (hf : f = -1 ∨ f = 1) (hg : rGf A f 0 (rSp s f 0) m) (hm : m = 0 ∨ ¬ m / 8 = b) (hk : ¬ A (rSp s f 0) = 8 * b + 6 ∨ rSp s f 0 < 0) : ¬ rA1 A s b f 0 := by
  rintro (⟨h5, -⟩ | ⟨-, -, ⟨h, e⟩ | ⟨m', hg', hm'⟩⟩)
  · rcases hf with rfl | rfl <;> omega
  · rcases hk with hk | hk
    · exact hk e
    · omega
  · rw [rGf_u hg hg'] at hm
    omega
theorem br_Sp1 {s : Int} (h0 : 0 ≤ s) (h1 : s ≤ 63) : (s % 8 < 7 → rSp s 1 0 = s + 1) ∧ (s % 8 = 7 → rSp s 1 0 = -1) ∧ (0 < s % 8 → rSp s (-1) 0 = s - 1) ∧ (s % 8 = 0 → rSp s (-1) 0 = -1) := by
  unfold rSp
  refine ⟨fun h => ?_, fun h => ?_, fun h => ?_, fun h => ?_⟩ <;> split <;> omega
/-- the squares of short castling: H is the king's, all between it and its rook are empty -/
theorem br_Cs {A : Int → Int} {H c : Int} (hc : 0 ≤ c ∧ c ≤ 1) (eH : H = 56 * c + 4) (k0 : A H = 8 * c + 6) (k1 : A (H + 1) = 0) (k2 : A (H + 2) = 0) (k3 : A (H + 3) = 8 * c + 4) (hn : ¬ rAk A H (1 - c)) : (¬ rAk (rUp (rUp A H 0) (H + 2) (8 * c + 6)) (H + 2) (1 - c) ∧ ¬ rAk (rUp (rUp A H 0) (H + 2) (8 * c + 6)) (H + 1) (1 - c)) ↔ (¬ rAk A (H + 1) (1 - c) ∧ ¬ rAk (rUp (rUp (rUp (rUp A H 0) (H + 2) (8 * c + 6)) (H + 1) (8 * c + 4)) (H + 3) 0) (H + 2) (1 - c)) := by
  have s0 := br_Sp1 (s := H) (by omega) (by omega)
  have s1 := br_Sp1 (s := H + 1) (by omega) (by omega)
  have s2 := br_Sp1 (s := H + 2) (by omega) (by omega)
  have s3 := br_Sp1 (s := H + 3) (by omega) (by omega)
  have e10 : rSp (H + 1) (-1) 0 = H := by rw [s1.2.2.1 (by omega)]; omega
  have e12 : rSp (H + 1) 1 0 = H + 2 := by rw [s1.1 (by omega)]; omega
  have e21 : rSp (H + 2) (-1) 0 = H + 1 := by rw [s2.2.2.1 (by omega)]; omega
  have e23 : rSp (H + 2) 1 0 = H + 3 := by rw [s2.1 (by omega)]; omega
  have e34 : rSp (H + 3) 1 0 = -1 := s3.2.1 (by omega)
  have e0m : rSp H (-1) 0 = H - 1 := s0.2.2.1 (by omega)
  -- the men with the king gone to its square
  have n0 : rUp (rUp A H 0) (H + 2) (8 * c + 6) H = 0 := by rw [rUp_n (by omega), rUp_s]
  have n1 : rUp (rUp A H 0) (H + 2) (8 * c + 6) (H + 1) = 0 := by rw [rUp_n (by omega), rUp_n (by omega)]; exact k1
  have n2 : rUp (rUp A H 0) (H + 2) (8 * c + 6) (H + 2) = 8 * c + 6 := rUp_s
  have n3 : rUp (rUp A H 0) (H + 2) (8 * c + 6) (H + 3) = 8 * c + 4 := by rw [rUp_n (by omega), rUp_n (by omega)]; exact k3
  have nl : ∀ u, u < H → rUp (rUp A H 0) (H + 2) (8 * c + 6) u = A u := fun u hu => by rw [rUp_n (by omega), rUp_n (by omega)]
  have hgl : ∀ (n : Nat) (u m : Int), u < H → rGn (rUp (rUp A H 0) (H + 2) (8 * c + 6)) (-1) 0 n u = some m → rGn A (-1) 0 n u = some m := by
    intro n
    induction n with
    | zero => intro u m _ e; cases e
    | succ n ih =>
      intro u m hu e
      unfold rGn at e ⊢
      by_cases cu : u < 0
      · rw [if_pos cu] at e ⊢; exact e
      · rw [if_neg cu] at e ⊢
        rw [nl u hu] at e
        by_cases cz : A u = 0
        · rw [if_pos cz] at e ⊢
          refine ih _ _ ?_ e
          unfold rSp
          split <;> omega
        · rw [if_neg cz] at e ⊢; exact e
  -- what stands beyond the king's square takes nothing
  have hbey : ∀ m, rGf (rUp (rUp A H 0) (H + 2) (8 * c + 6)) (-1) 0 (H - 1) m → ¬ (m = 8 * (1 - c) + 5 ∨ m = 8 * (1 - c) + 4) := by
    rintro m ⟨n, hg⟩ hm
    apply hn
    refine Or.inr (Or.inr ⟨-1, 0, by omega, by omega, by omega, by omega, Or.inr ⟨by omega, by omega, Or.inr ⟨m, ⟨n, ?_⟩, ?_⟩⟩⟩)
    · rw [e0m]
      exact hgl n _ m (by omega) hg
    · rcases hm with hm | hm
      · exact Or.inl hm
      · exact Or.inr (Or.inl ⟨by omega, hm⟩)
  have hline : ∀ s m, rGf (rUp (rUp A H 0) (H + 2) (8 * c + 6)) (-1) 0 (rSp s (-1) 0) m → (s = H + 1 ∨ s = H + 2) → rGf (rUp (rUp A H 0) (H + 2) (8 * c + 6)) (-1) 0 (H - 1) m := by
    have hstep : ∀ u m, 0 ≤ u → rUp (rUp A H 0) (H + 2) (8 * c + 6) u = 0 → rGf (rUp (rUp A H 0) (H + 2) (8 * c + 6)) (-1) 0 u m → rGf (rUp (rUp A H 0) (H + 2) (8 * c + 6)) (-1) 0 (rSp u (-1) 0) m := by
      rintro u m hu hz ⟨n, hg⟩
      cases n with
      | zero => cases hg
      | succ n =>
        unfold rGn at hg
        rw [if_neg (by omega), if_pos hz] at hg
        exact ⟨n, hg⟩
    rintro s m hg (rfl | rfl)
    · rw [e10] at hg
      have := hstep H m (by omega) n0 hg
      rw [e0m] at this
      exact this
    · rw [e21] at hg
      have h2 := hstep (H + 1) m (by omega) n1 hg
      rw [e10] at h2
      have := hstep H m (by omega) n0 h2
      rw [e0m] at this
      exact this
  have r1 : ¬ rA1 (rUp (rUp A H 0) (H + 2) (8 * c + 6)) (H + 2) (1 - c) (-1) 0 := by
    rintro (⟨h5, -⟩ | ⟨-, -, ⟨h, e⟩ | ⟨m, hg, hm⟩⟩)
    · omega
    · rw [e21, n1] at e; omega
    · exact hbey m (hline _ m hg (Or.inr rfl)) (by omega)
  have r2 : ¬ rA1 (rUp (rUp A H 0) (H + 2) (8 * c + 6)) (H + 2) (1 - c) 1 0 :=
    br_Nl (Or.inr rfl) (m := 8 * c + 4) (by rw [e23]; exact rGf_s (by omega) n3 (by omega)) (Or.inr (by omega)) (Or.inl (by rw [e23, n3]; omega))
  have r3 : ¬ rA1 (rUp (rUp A H 0) (H + 2) (8 * c + 6)) (H + 1) (1 - c) (-1) 0 := by
    rintro (⟨h5, -⟩ | ⟨-, -, ⟨h, e⟩ | ⟨m, hg, hm⟩⟩)
    · omega
    · rw [e10, n0] at e; omega
    · exact hbey m (hline _ m hg (Or.inl rfl)) (by omega)
  have r4 : ¬ rA1 (rUp (rUp A H 0) (H + 2) (8 * c + 6)) (H + 1) (1 - c) 1 0 :=
    br_Nl (Or.inr rfl) (m := 8 * c + 6) (by rw [e12]; exact rGf_s (by omega) n2 (by omega)) (Or.inr (by omega)) (Or.inl (by rw [e12, n2]; omega))
  have r5 : ¬ rA1 A (H + 1) (1 - c) (-1) 0 :=
    br_Nl (Or.inl rfl) (m := 8 * c + 6) (by rw [e10]; exact rGf_s (by omega) k0 (by omega)) (Or.inr (by omega)) (Or.inl (by rw [e10, k0]; omega))
  have r6 : ¬ rA1 A (H + 1) (1 - c) 1 0 :=
    br_Nl (Or.inr rfl) (m := 8 * c + 4) (by rw [e12]; exact rGf_n (by omega) k2 (by rw [e23]; exact rGf_s (by omega) k3 (by omega))) (Or.inr (by omega)) (Or.inl (by rw [e12, k2]; omega))
  have p1 : rUp (rUp (rUp (rUp A H 0) (H + 2) (8 * c + 6)) (H + 1) (8 * c + 4)) (H + 3) 0 (H + 1) = 8 * c + 4 := by rw [rUp_n (by omega), rUp_s]
  have p3 : rUp (rUp (rUp (rUp A H 0) (H + 2) (8 * c + 6)) (H + 1) (8 * c + 4)) (H + 3) 0 (H + 3) = 0 := rUp_s
  have r7 : ¬ rA1 (rUp (rUp (rUp (rUp A H 0) (H + 2) (8 * c + 6)) (H + 1) (8 * c + 4)) (H + 3) 0) (H + 2) (1 - c) (-1) 0 :=
    br_Nl (Or.inl rfl) (m := 8 * c + 4) (by rw [e21]; exact rGf_s (by omega) p1 (by omega)) (Or.inr (by omega)) (Or.inl (by rw [e21, p1]; omega))
  have r8 : ¬ rA1 (rUp (rUp (rUp (rUp A H 0) (H + 2) (8 * c + 6)) (H + 1) (8 * c + 4)) (H + 3) 0) (H + 2) (1 - c) 1 0 :=
    br_Nl (Or.inr rfl) (m := 0) (by rw [e23]; exact rGf_n (by omega) p3 (by rw [e34]; exact rGf_o (by omega))) (Or.inl rfl) (Or.inl (by rw [e23, p3]; omega))
  have off : ∀ j, ¬ j / 8 = (H + 2) / 8 → ¬ j = H ∧ ¬ j = H + 1 ∧ ¬ j = H + 2 ∧ ¬ j = H + 3 := fun j hj => by omega
  have o1 : ∀ j, ¬ j / 8 = (H + 2) / 8 → rUp (rUp A H 0) (H + 2) (8 * c + 6) j = rUp (rUp (rUp (rUp A H 0) (H + 2) (8 * c + 6)) (H + 1) (8 * c + 4)) (H + 3) 0 j := fun j hj => by
    obtain ⟨q0, q1, q2, q3⟩ := off j hj
    rw [rUp_n q2, rUp_n q0, rUp_n q3, rUp_n q1, rUp_n q2, rUp_n q0]
  have o2 : ∀ j, ¬ j / 8 = (H + 1) / 8 → rUp (rUp A H 0) (H + 2) (8 * c + 6) j = A j := fun j hj => by
    obtain ⟨q0, q1, q2, q3⟩ := off j (by omega)
    rw [rUp_n q2, rUp_n q0]
  have w1 : rAk (rUp (rUp A H 0) (H + 2) (8 * c + 6)) (H + 2) (1 - c) ↔ rAk (rUp (rUp (rUp (rUp A H 0) (H + 2) (8 * c + 6)) (H + 1) (8 * c + 4)) (H + 3) 0) (H + 2) (1 - c) := by
    constructor
    · intro h
      rcases br_Rk (by omega) (by omega) o1 h with h | h | h
      · exact h
      · exact absurd h r1
      · exact absurd h r2
    · intro h
      rcases br_Rk (by omega) (by omega) (fun j hj => (o1 j hj).symm) h with h | h | h
      · exact h
      · exact absurd h r7
      · exact absurd h r8
  have w2 : rAk (rUp (rUp A H 0) (H + 2) (8 * c + 6)) (H + 1) (1 - c) ↔ rAk A (H + 1) (1 - c) := by
    constructor
    · intro h
      rcases br_Rk (by omega) (by omega) o2 h with h | h | h
      · exact h
      · exact absurd h r3
      · exact absurd h r4
    · intro h
      rcases br_Rk (by omega) (by omega) (fun j hj => (o2 j hj).symm) h with h | h | h
      · exact h
      · exact absurd h r5
      · exact absurd h r6
  rw [w1, w2]
  exact And.comm
/-- the squares of long castling -/
theorem br_Cl {A : Int → Int} {H c : Int} (hc : 0 ≤ c ∧ c ≤ 1) (eH : H = 56 * c + 4) (k0 : A H = 8 * c + 6) (k1 : A (H - 1) = 0) (k2 : A (H - 2) = 0) (k3 : A (H - 3) = 0) (k4 : A (H - 4) = 8 * c + 4) (hn : ¬ rAk A H (1 - c)) : (¬ rAk (rUp (rUp A H 0) (H - 2) (8 * c + 6)) (H - 2) (1 - c) ∧ ¬ rAk (rUp (rUp A H 0) (H - 2) (8 * c + 6)) (H - 1) (1 - c)) ↔ (¬ rAk A (H - 1) (1 - c) ∧ ¬ rAk (rUp (rUp (rUp (rUp A H 0) (H - 2) (8 * c + 6)) (H - 1) (8 * c + 4)) (H - 4) 0) (H - 2) (1 - c)) := by
  have s0 := br_Sp1 (s := H) (by omega) (by omega)
  have s1 := br_Sp1 (s := H - 1) (by omega) (by omega)
  have s2 := br_Sp1 (s := H - 2) (by omega) (by omega)
  have s3 := br_Sp1 (s := H - 3) (by omega) (by omega)
  have s4 := br_Sp1 (s := H - 4) (by omega) (by omega)
  have e10 : rSp (H - 1) 1 0 = H := by rw [s1.1 (by omega)]; omega
  have e12 : rSp (H - 1) (-1) 0 = H - 2 := by rw [s1.2.2.1 (by omega)]; omega
  have e21 : rSp (H - 2) 1 0 = H - 1 := by rw [s2.1 (by omega)]; omega
  have e23 : rSp (H - 2) (-1) 0 = H - 3 := by rw [s2.2.2.1 (by omega)]; omega
  have e34 : rSp (H - 3) (-1) 0 = H - 4 := by rw [s3.2.2.1 (by omega)]; omega
  have e45 : rSp (H - 4) (-1) 0 = -1 := s4.2.2.2 (by omega)
  have e0m : rSp H 1 0 = H + 1 := s0.1 (by omega)
  -- the men with the king gone to its square
  have n0 : rUp (rUp A H 0) (H - 2) (8 * c + 6) H = 0 := by rw [rUp_n (by omega), rUp_s]
  have n1 : rUp (rUp A H 0) (H - 2) (8 * c + 6) (H - 1) = 0 := by rw [rUp_n (by omega), rUp_n (by omega)]; exact k1
  have n2 : rUp (rUp A H 0) (H - 2) (8 * c + 6) (H - 2) = 8 * c + 6 := rUp_s
  have n3 : rUp (rUp A H 0) (H - 2) (8 * c + 6) (H - 3) = 0 := by rw [rUp_n (by omega), rUp_n (by omega)]; exact k3
  have n4 : rUp (rUp A H 0) (H - 2) (8 * c + 6) (H - 4) = 8 * c + 4 := by rw [rUp_n (by omega), rUp_n (by omega)]; exact k4
  have nl : ∀ u, H < u → rUp (rUp A H 0) (H - 2) (8 * c + 6) u = A u := fun u hu => by rw [rUp_n (by omega), rUp_n (by omega)]
  have hgl : ∀ (n : Nat) (u m : Int), (H < u ∨ u < 0) → rGn (rUp (rUp A H 0) (H - 2) (8 * c + 6)) 1 0 n u = some m → rGn A 1 0 n u = some m := by
    intro n
    induction n with
    | zero => intro u m _ e; cases e
    | succ n ih =>
      intro u m hu e
      unfold rGn at e ⊢
      by_cases cu : u < 0
      · rw [if_pos cu] at e ⊢; exact e
      · rw [if_neg cu] at e ⊢
        rw [nl u (by omega)] at e
        by_cases cz : A u = 0
        · rw [if_pos cz] at e ⊢
          refine ih _ _ ?_ e
          unfold rSp
          split <;> omega
        · rw [if_neg cz] at e ⊢; exact e
  -- what stands beyond the king's square takes nothing
  have hbey : ∀ m, rGf (rUp (rUp A H 0) (H - 2) (8 * c + 6)) 1 0 (H + 1) m → ¬ (m = 8 * (1 - c) + 5 ∨ m = 8 * (1 - c) + 4) := by
    rintro m ⟨n, hg⟩ hm
    apply hn
    refine Or.inr (Or.inr ⟨1, 0, by omega, by omega, by omega, by omega, Or.inr ⟨by omega, by omega, Or.inr ⟨m, ⟨n, ?_⟩, ?_⟩⟩⟩)
    · rw [e0m]
      exact hgl n _ m (by omega) hg
    · rcases hm with hm | hm
      · exact Or.inl hm
      · exact Or.inr (Or.inl ⟨by omega, hm⟩)
  have hline : ∀ s m, rGf (rUp (rUp A H 0) (H - 2) (8 * c + 6)) 1 0 (rSp s 1 0) m → (s = H - 1 ∨ s = H - 2) → rGf (rUp (rUp A H 0) (H - 2) (8 * c + 6)) 1 0 (H + 1) m := by
    have hstep : ∀ u m, 0 ≤ u → rUp (rUp A H 0) (H - 2) (8 * c + 6) u = 0 → rGf (rUp (rUp A H 0) (H - 2) (8 * c + 6)) 1 0 u m → rGf (rUp (rUp A H 0) (H - 2) (8 * c + 6)) 1 0 (rSp u 1 0) m := by
      rintro u m hu hz ⟨n, hg⟩
      cases n with
      | zero => cases hg
      | succ n =>
        unfold rGn at hg
        rw [if_neg (by omega), if_pos hz] at hg
        exact ⟨n, hg⟩
    rintro s m hg (rfl | rfl)
    · rw [e10] at hg
      have := hstep H m (by omega) n0 hg
      rw [e0m] at this
      exact this
    · rw [e21] at hg
      have h2 := hstep (H - 1) m (by omega) n1 hg
      rw [e10] at h2
      have := hstep H m (by omega) n0 h2
      rw [e0m] at this
      exact this
  have r1 : ¬ rA1 (rUp (rUp A H 0) (H - 2) (8 * c + 6)) (H - 2) (1 - c) 1 0 := by
    rintro (⟨h5, -⟩ | ⟨-, -, ⟨h, e⟩ | ⟨m, hg, hm⟩⟩)
    · omega
    · rw [e21, n1] at e; omega
    · exact hbey m (hline _ m hg (Or.inr rfl)) (by omega)
  have r2 : ¬ rA1 (rUp (rUp A H 0) (H - 2) (8 * c + 6)) (H - 2) (1 - c) (-1) 0 :=
    br_Nl (Or.inl rfl) (m := 8 * c + 4) (by rw [e23]; exact rGf_n (by omega) n3 (by rw [e34]; exact rGf_s (by omega) n4 (by omega))) (Or.inr (by omega)) (Or.inl (by rw [e23, n3]; omega))
  have r3 : ¬ rA1 (rUp (rUp A H 0) (H - 2) (8 * c + 6)) (H - 1) (1 - c) 1 0 := by
    rintro (⟨h5, -⟩ | ⟨-, -, ⟨h, e⟩ | ⟨m, hg, hm⟩⟩)
    · omega
    · rw [e10, n0] at e; omega
    · exact hbey m (hline _ m hg (Or.inl rfl)) (by omega)
  have r4 : ¬ rA1 (rUp (rUp A H 0) (H - 2) (8 * c + 6)) (H - 1) (1 - c) (-1) 0 :=
    br_Nl (Or.inl rfl) (m := 8 * c + 6) (by rw [e12]; exact rGf_s (by omega) n2 (by omega)) (Or.inr (by omega)) (Or.inl (by rw [e12, n2]; omega))
  have r5 : ¬ rA1 A (H - 1) (1 - c) 1 0 :=
    br_Nl (Or.inr rfl) (m := 8 * c + 6) (by rw [e10]; exact rGf_s (by omega) k0 (by omega)) (Or.inr (by omega)) (Or.inl (by rw [e10, k0]; omega))
  have r6 : ¬ rA1 A (H - 1) (1 - c) (-1) 0 :=
    br_Nl (Or.inl rfl) (m := 8 * c + 4) (by rw [e12]; exact rGf_n (by omega) k2 (by rw [e23]; exact rGf_n (by omega) k3 (by rw [e34]; exact rGf_s (by omega) k4 (by omega)))) (Or.inr (by omega)) (Or.inl (by rw [e12, k2]; omega))
  have p1 : rUp (rUp (rUp (rUp A H 0) (H - 2) (8 * c + 6)) (H - 1) (8 * c + 4)) (H - 4) 0 (H - 1) = 8 * c + 4 := by rw [rUp_n (by omega), rUp_s]
  have p3 : rUp (rUp (rUp (rUp A H 0) (H - 2) (8 * c + 6)) (H - 1) (8 * c + 4)) (H - 4) 0 (H - 3) = 0 := by rw [rUp_n (by omega), rUp_n (by omega), rUp_n (by omega), rUp_n (by omega)]; exact k3
  have p4 : rUp (rUp (rUp (rUp A H 0) (H - 2) (8 * c + 6)) (H - 1) (8 * c + 4)) (H - 4) 0 (H - 4) = 0 := rUp_s
  have r7 : ¬ rA1 (rUp (rUp (rUp (rUp A H 0) (H - 2) (8 * c + 6)) (H - 1) (8 * c + 4)) (H - 4) 0) (H - 2) (1 - c) 1 0 :=
    br_Nl (Or.inr rfl) (m := 8 * c + 4) (by rw [e21]; exact rGf_s (by omega) p1 (by omega)) (Or.inr (by omega)) (Or.inl (by rw [e21, p1]; omega))
  have r8 : ¬ rA1 (rUp (rUp (rUp (rUp A H 0) (H - 2) (8 * c + 6)) (H - 1) (8 * c + 4)) (H - 4) 0) (H - 2) (1 - c) (-1) 0 :=
    br_Nl (Or.inl rfl) (m := 0) (by rw [e23]; exact rGf_n (by omega) p3 (by rw [e34]; exact rGf_n (by omega) p4 (by rw [e45]; exact rGf_o (by omega)))) (Or.inl rfl) (Or.inl (by rw [e23, p3]; omega))
  have off : ∀ j, ¬ j / 8 = (H - 2) / 8 → ¬ j = H ∧ ¬ j = H - 1 ∧ ¬ j = H - 2 ∧ ¬ j = H - 4 := fun j hj => by omega
  have o1 : ∀ j, ¬ j / 8 = (H - 2) / 8 → rUp (rUp A H 0) (H - 2) (8 * c + 6) j = rUp (rUp (rUp (rUp A H 0) (H - 2) (8 * c + 6)) (H - 1) (8 * c + 4)) (H - 4) 0 j := fun j hj => by
    obtain ⟨q0, q1, q2, q3⟩ := off j hj
    rw [rUp_n q2, rUp_n q0, rUp_n q3, rUp_n q1, rUp_n q2, rUp_n q0]
  have o2 : ∀ j, ¬ j / 8 = (H - 1) / 8 → rUp (rUp A H 0) (H - 2) (8 * c + 6) j = A j := fun j hj => by
    obtain ⟨q0, q1, q2, q3⟩ := off j (by omega)
    rw [rUp_n q2, rUp_n q0]
  have w1 : rAk (rUp (rUp A H 0) (H - 2) (8 * c + 6)) (H - 2) (1 - c) ↔ rAk (rUp (rUp (rUp (rUp A H 0) (H - 2) (8 * c + 6)) (H - 1) (8 * c + 4)) (H - 4) 0) (H - 2) (1 - c) := by
    constructor
    · intro h
      rcases br_Rk (by omega) (by omega) o1 h with h | h | h
      · exact h
      · exact absurd h r2
      · exact absurd h r1
    · intro h
      rcases br_Rk (by omega) (by omega) (fun j hj => (o1 j hj).symm) h with h | h | h
      · exact h
      · exact absurd h r8
      · exact absurd h r7
  have w2 : rAk (rUp (rUp A H 0) (H - 2) (8 * c + 6)) (H - 1) (1 - c) ↔ rAk A (H - 1) (1 - c) := by
    constructor
    · intro h
      rcases br_Rk (by omega) (by omega) o2 h with h | h | h
      · exact h
      · exact absurd h r4
      · exact absurd h r3
    · intro h
      rcases br_Rk (by omega) (by omega) (fun j hj => (o2 j hj).symm) h with h | h | h
      · exact h
      · exact absurd h r6
      · exact absurd h r5
  rw [w1, w2]
  exact And.comm
/-! class and reference: legal moves are the same -/
theorem br_Rg0 : ∀ (R : Fin 16) (s : Fin 2), ((¬ (Int32.ofInt (R.val : Int) &&& Int32.ofInt ((1 : Int) * (if (s.val : Int) = 0 then 1 else 4))) = 0) ↔ (R.val : Int) / ((4 ^ s.val : Nat) : Int) % 2 = 1) ∧ ((¬ (Int32.ofInt (R.val : Int) &&& Int32.ofInt ((2 : Int) * (if (s.val : Int) = 0 then 1 else 4))) = 0) ↔ (R.val : Int) / ((2 * 4 ^ s.val : Nat) : Int) % 2 = 1) := by decide +kernel
theorem br_Rg {R s : Int} (r0 : 0 ≤ R) (r1 : R ≤ 15) (s0 : 0 ≤ s) (s1 : s ≤ 1) : (rHas R ((1 : Int) * (if s = 0 then 1 else 4)) ↔ R / ((4 ^ s.toNat : Nat) : Int) % 2 = 1) ∧ (rHas R ((2 : Int) * (if s = 0 then 1 else 4)) ↔ R / ((2 * 4 ^ s.toNat : Nat) : Int) % 2 = 1) := by
  have h := br_Rg0 ⟨R.toNat, by omega⟩ ⟨s.toNat, by omega⟩
  dsimp only at h
  rw [show ((R.toNat : Nat) : Int) = R by omega, show ((s.toNat : Nat) : Int) = s by omega] at h
  exact h
theorem br_lm {q : rQ} {f t b : Int} (a0 : 0 ≤ f) (a1 : f ≤ 63) (t0 : 0 ≤ t) (t1 : t ≤ 63) (p0 : 0 ≤ b) (ho : rOwn q f) : rLm q (f + 64 * t + 4096 * b) ↔ brPs q f t b := by
  obtain ⟨ef, et, eb⟩ := rMv (m := f + 64 * t + 4096 * b) a0 a1 t0 t1 rfl
  unfold rLm brPs
  rw [ef, et, eb]
  constructor
  · rintro ⟨-, -, -, h1, h2, h3⟩
    exact ⟨h1, h2, h3⟩
  · rintro ⟨h1, h2, h3⟩
    have hb : b ≤ 5 := by
      rcases h3 with h3 | h3 <;> omega
    exact ⟨by omega, by omega, ho, h1, h2, h3⟩
theorem br_one {M F : Nat → Int32} {h ck f t b : Int} {x : Int32} (hG : fGood M F) (hd : rGd (brQ M F)) (h0 : 0 ≤ h) (h1 : h ≤ 63) (hK : (M h.toNat).toInt = 8 * (F 2).toInt + 6) (hck : fCk M F h ck) (a0 : 0 ≤ f) (a1 : f ≤ 63) (t0 : 0 ≤ t) (t1 : t ≤ 63) (p0 : 0 ≤ b) (ext : (fMt x : Int) = t) (ho : rOwn (brQ M F) f) (hgn : fGn M F ck f x ↔ brPs (brQ M F) f t b) (hc : ¬ rIsC (brQ M F) (f + 64 * t + 4096 * b)) : (fGn M F ck f x ∧ fSf M F h ck f x) ↔ (rLm (brQ M F) (f + 64 * t + 4096 * b) ∧ rGd (rMk (brQ M F) (f + 64 * t + 4096 * b))) := by
  obtain ⟨ef, et, eb⟩ := rMv (m := f + 64 * t + 4096 * b) a0 a1 t0 t1 rfl
  rw [hgn, br_lm a0 a1 t0 t1 p0 ho]
  constructor
  · rintro ⟨q1, q2⟩
    exact ⟨q1, (br_Sf hG hd h0 h1 hK hck a0 a1 t0 t1 ef et eb ext ((br_lm a0 a1 t0 t1 p0 ho).mpr q1) q1 hc).mp q2⟩
  · rintro ⟨q1, q2⟩
    exact ⟨q1, (br_Sf hG hd h0 h1 hK hck a0 a1 t0 t1 ef et eb ext ((br_lm a0 a1 t0 t1 p0 ho).mpr q1) q1 hc).mpr q2⟩
theorem br_kg {M F : Nat → Int32} {h s : Int} (hG : fGood M F) (hd : rGd (brQ M F)) (h0 : 0 ≤ h) (h1 : h ≤ 63) (hK : (M h.toNat).toInt = 8 * (F 2).toInt + 6) (hs : rMn M s = 8 * (F 2).toInt + 6) : s = h := by
  obtain ⟨u, -, -, -, us⟩ := hd.2.2.2.1 (F 2).toInt hG.2.2.1.1 hG.2.2.1.2
  have e1 := us s hs
  have e2 := us h (show rMn M h = _ by rw [br_Mn h0 h1]; exact hK)
  omega
/-- the men behind castling -/
theorem br_M4 {A : Int → Int} {q : rQ} {f t co mi m : Int} (eA : q.1 = A) (ef : rFr m = f) (et : rTo m = t) (eb : rBc m = 0) (hk : A f % 8 = 6) (ht : t - f = 2 ∨ f - t = 2) (hco : rCo f t = co) (hmi : rOv f t = mi) (hcf : ¬ co = f) (hct : ¬ co = t) : rM4 q m = rUp (rUp (rUp (rUp A f 0) t (A f)) mi (A co)) co 0 := by
  have hc : rIsC q m := ⟨by rw [eA, ef]; exact hk, by rw [ef, et]; exact ht⟩
  have h3 : rM3 q m = rUp (rUp A f 0) t (A f) := by
    unfold rM3 rM2 rM1
    have hw : rWh q m = t := by
      unfold rWh
      rw [eA, ef, et, if_neg (fun h => by omega)]
    rw [hw, ef, et, eb, eA, if_neg (by omega)]
    funext i
    unfold rUp
    split
    · rfl
    · rfl
  rw [rM4_c hc]
  unfold rM4c
  rw [h3, ef, et, hco, hmi]
  have : rUp (rUp A f 0) t (A f) co = A co := by rw [rUp_n hct, rUp_n hcf]
  rw [this]
theorem br_kc {M F : Nat → Int32} {h ck f t b mi co : Int} {x : Int32} (hG : fGood M F) (hd : rGd (brQ M F)) (h0 : 0 ≤ h) (h1 : h ≤ 63) (hK : (M h.toNat).toInt = 8 * (F 2).toInt + 6) (hck : fCk M F h ck) (a0 : 0 ≤ f) (a1 : f ≤ 63) (t0 : 0 ≤ t) (t1 : t ≤ 63) (ext : (fMt x : Int) = t) (hfh : f = h) (eb : b = 0) (eH : f = 56 * (F 2).toInt + 4) (hm : (t = f + 2 ∧ mi = f + 1 ∧ co = f + 3) ∨ (t = f - 2 ∧ mi = f - 1 ∧ co = f - 4)) (hr : rMn M co = 8 * (F 2).toInt + 4) (hcs : ck = 0 → ((¬ rAk (rUp (rUp (rMn M) f 0) t (8 * (F 2).toInt + 6)) t (1 - (F 2).toInt) ∧ ¬ rAk (rUp (rUp (rMn M) f 0) t (8 * (F 2).toInt + 6)) mi (1 - (F 2).toInt)) ↔ (¬ rAk (rMn M) mi (1 - (F 2).toInt) ∧ ¬ rAk (rUp (rUp (rUp (rUp (rMn M) f 0) t (8 * (F 2).toInt + 6)) mi (8 * (F 2).toInt + 4)) co 0) t (1 - (F 2).toInt)))) (hl : ck = 0 → ¬ rAk (rMn M) mi (1 - (F 2).toInt) → rLm (brQ M F) (f + 64 * t + 4096 * b)) (hz : ck = 0) : fSf M F h ck f x ↔ (¬ rAk (rMn M) mi (1 - (F 2).toInt) ∧ (¬ rAk (rMn M) mi (1 - (F 2).toInt) → rGd (rMk (brQ M F) (f + 64 * t + 4096 * b)))) := by
  have hs : 0 ≤ (F 2).toInt ∧ (F 2).toInt ≤ 1 := hG.2.2.1
  have hv := br_val hG
  obtain ⟨ef, et, ebc⟩ := rMv (m := f + 64 * t + 4096 * b) a0 a1 t0 t1 rfl
  have mf : rMn M f = 8 * (F 2).toInt + 6 := by rw [hfh, br_Mn h0 h1]; exact hK
  have mfn : (M f.toNat).toInt = 8 * (F 2).toInt + 6 := by rw [hfh]; exact hK
  have c6 : (M f.toNat).toInt % 8 = 6 := by omega
  have hfx : fMt x = t.toNat := by omega
  have hbw : bWh M F f.toNat (fMt x) = nI (fMt x) := by
    unfold bWh
    rw [if_neg (fun hh => ?_)]
    have := (br_k1 (x := M f.toNat) (by omega) (by omega)).mp hh.1
    omega
  have hN : rMn (fOv M (nI f.toNat) (bWh M F f.toNat (fMt x)) (nI (fMt x)) (M f.toNat)) = rUp (rUp (rMn M) f 0) t (8 * (F 2).toInt + 6) := by
    rw [hbw, hfx, br_Ov (by rw [br_nI a0 a1]; exact a0) (by rw [br_nI a0 a1]; exact a1) (by rw [br_nI t0 t1]; exact t0) (by rw [br_nI t0 t1]; exact t1) (by rw [br_nI t0 t1]; exact t0) (by rw [br_nI t0 t1]; exact t1), br_nI a0 a1, br_nI t0 t1, mfn]
    funext i
    unfold rUp
    split <;> rfl
  have hvN : brV (fOv M (nI f.toNat) (bWh M F f.toNat (fMt x)) (nI (fMt x)) (M f.toNat)) := by
    intro i hi
    have e : ((fOv M (nI f.toNat) (bWh M F f.toNat (fMt x)) (nI (fMt x)) (M f.toNat)) i).toInt = rMn (fOv M (nI f.toNat) (bWh M F f.toNat (fMt x)) (nI (fMt x)) (M f.toNat)) (i : Int) := by
      rw [br_Mn (by omega) (by omega), show ((i : Int)).toNat = i by omega]
    rw [e, hN]
    have vi := hv i hi
    have mi : rMn M (i : Int) = (M i).toInt := by rw [br_Mn (by omega) (by omega), show ((i : Int)).toNat = i by omega]
    unfold rUp
    split
    · omega
    · split
      · omega
      · rw [mi]; exact vi
  have hmid : 0 ≤ mi ∧ mi ≤ 63 ∧ (f + t) / 2 = mi := by omega
  have e1 : fSf M F h ck f x ↔ (¬ rAk (rUp (rUp (rMn M) f 0) t (8 * (F 2).toInt + 6)) t (1 - (F 2).toInt) ∧ ¬ rAk (rUp (rUp (rMn M) f 0) t (8 * (F 2).toInt + 6)) mi (1 - (F 2).toInt)) := by
    unfold fSf
    rw [if_pos c6, ext, hmid.2.2, br_Ak hvN t0 t1 (by omega) (by omega), br_Ak hvN hmid.1 hmid.2.1 (by omega) (by omega), hN]
    constructor
    · rintro (⟨⟨-, hq, -⟩, -⟩ | ⟨hq, hq2⟩)
      · exact absurd (by rw [hfh]) hq
      · exact ⟨hq, hq2 c6 (by omega)⟩
    · exact fun hq => Or.inr ⟨hq.1, fun _ _ => hq.2⟩
  have h4 : rM4 (brQ M F) (f + 64 * t + 4096 * b) = rUp (rUp (rUp (rUp (rMn M) f 0) t (8 * (F 2).toInt + 6)) mi (8 * (F 2).toInt + 4)) co 0 := by
    rw [br_M4 (A := rMn M) rfl ef et (by rw [ebc]; exact eb) (by rw [mf]; omega) (by omega) (co := co) (mi := mi) (by unfold rCo; split <;> omega) (by unfold rOv; omega) (by omega) (by omega), mf, hr]
  have hgd : ¬ rAk (rMn M) mi (1 - (F 2).toInt) → (rGd (rMk (brQ M F) (f + 64 * t + 4096 * b)) ↔ ¬ rAk (rUp (rUp (rUp (rUp (rMn M) f 0) t (8 * (F 2).toInt + 6)) mi (8 * (F 2).toInt + 4)) co 0) t (1 - (F 2).toInt)) := by
    intro hna
    have hlm := hl hz hna
    have hks := rKs_4 hd hlm
    rw [h4] at hks
    have hkt : rUp (rUp (rUp (rUp (rMn M) f 0) t (8 * (F 2).toInt + 6)) mi (8 * (F 2).toInt + 4)) co 0 t = 8 * (F 2).toInt + 6 := by
      rw [rUp_n (by omega), rUp_n (by omega), rUp_s]
    obtain ⟨u, -, -, -, us⟩ := hks (F 2).toInt hs.1 hs.2
    rw [rMk_gd hd hlm, h4]
    constructor
    · exact fun hall => hall t hkt
    · intro hn s' hs' hak
      have q1 := us s' hs'
      have q2 := us t hkt
      rw [q1, ← q2] at hak
      exact hn hak
  rw [e1, hcs hz]
  constructor
  · rintro ⟨q1, q2⟩
    exact ⟨q1, fun _ => (hgd q1).mpr q2⟩
  · rintro ⟨q1, q2⟩
    exact ⟨q1, (hgd q1).mp (q2 q1)⟩
/-- legal in the class is legal in the reference -/
theorem br_Lg {M F : Nat → Int32} {h ck f t b : Int} {x : Int32} (hG : fGood M F) (hd : rGd (brQ M F)) (h0 : 0 ≤ h) (h1 : h ≤ 63) (hK : (M h.toNat).toInt = 8 * (F 2).toInt + 6) (hck : fCk M F h ck) (a0 : 0 ≤ f) (a1 : f ≤ 63) (t0 : 0 ≤ t) (t1 : t ≤ 63) (p0 : 0 ≤ b) (p1 : b ≤ 7) (hx : x.toInt = 512 * f + 8 * t + b) (ho : fOn M F f) : (fGn M F ck f x ∧ fSf M F h ck f x) ↔ (rLm (brQ M F) (f + 64 * t + 4096 * b) ∧ rGd (rMk (brQ M F) (f + 64 * t + 4096 * b))) := by
  have hs : 0 ≤ (F 2).toInt ∧ (F 2).toInt ≤ 1 := hG.2.2.1
  have hR : 0 ≤ (F 3).toInt ∧ (F 3).toInt ≤ 15 := hG.2.2.2.1
  have hv := br_val hG
  have ext := (fMk hx ⟨a0, by omega⟩ ⟨t0, by omega⟩ ⟨p0, by omega⟩).2.1
  have ho2 := (br_On a0 a1).mp ho
  have mf : rMn M f = (M f.toNat).toInt := br_Mn a0 a1
  have vf := hv f.toNat (by omega)
  have gf := hG.2.2.2.2 f.toNat (by omega)
  obtain ⟨ef, et, eb⟩ := rMv (m := f + 64 * t + 4096 * b) a0 a1 t0 t1 rfl
  have ho3 := ho
  unfold fOn at ho3
  have hnc : ¬ (M f.toNat).toInt % 8 = 6 → ¬ rIsC (brQ M F) (f + 64 * t + 4096 * b) := by
    rintro c ⟨h6, -⟩
    dsimp only at h6
    rw [ef, mf] at h6
    exact c h6
  by_cases k1 : (M f.toNat).toInt % 8 = 1
  · exact br_one hG hd h0 h1 hK hck a0 a1 t0 t1 p0 ext ho2 (br_Gp a0 a1 t0 t1 p0 p1 hx k1 hs (by omega) hv hd.2.2.2.2.1) (hnc (by omega))
  by_cases k2 : (M f.toNat).toInt % 8 = 2
  · exact br_one hG hd h0 h1 hK hck a0 a1 t0 t1 p0 ext ho2 (br_Gh a0 a1 t0 t1 p0 p1 hx k2) (hnc (by omega))
  by_cases k6 : ¬ (M f.toNat).toInt % 8 = 6
  · exact br_one hG hd h0 h1 hK hck a0 a1 t0 t1 p0 ext ho2 (br_Gs a0 a1 t0 t1 p0 p1 hx (by omega)) (hnc k6)
  have k6 : (M f.toNat).toInt % 8 = 6 := by omega
  have hfh : f = h := br_kg hG hd h0 h1 hK (by rw [mf]; omega)
  have mfk : rMn M f = 8 * (F 2).toInt + 6 := by rw [mf]; omega
  have hKf : (M f.toNat).toInt = 8 * (F 2).toInt + 6 := by omega
  have hatt : ck = 0 → ¬ rAk (rMn M) f (1 - (F 2).toInt) := by
    intro hz ha
    rw [← br_Ak hv a0 a1 (by omega) (by omega), hfh] at ha
    have := hck.2.mpr ha
    omega
  have hatt2 : ¬ rAk (rMn M) f (1 - (F 2).toInt) → ck = 0 := by
    intro ha
    rcases hck.1 with h' | h'
    · exact h'
    · exfalso
      apply ha
      rw [← br_Ak hv a0 a1 (by omega) (by omega), hfh]
      exact hck.2.mp h'
  have hck2 : ∀ s, rKg (rMn M) (F 2).toInt s → s = f := fun s hs' => by
    rw [hfh]
    exact br_kg hG hd h0 h1 hK hs'.2.2.1
  have hkg : rKg (rMn M) (F 2).toInt f := by
    refine ⟨a0, a1, mfk, fun j j0 j1 e => ?_⟩
    have := br_kg hG hd h0 h1 hK e
    omega
  -- steps of the king
  have hst : (∃ i, 0 ≤ i ∧ i < 8 ∧ 0 < fRc f i ∧ t = f + fSt i) → (fGn M F ck f x ↔ brPs (brQ M F) f t b) ∧ ¬ rIsC (brQ M F) (f + 64 * t + 4096 * b) := by
    rintro ⟨i, i0, i1, hi, ht⟩
    have hst := br_Fr i0 i1
    have hsx : ¬ fSt i = 2 ∧ ¬ fSt i = -2 := by
      unfold fSt
      refine ⟨?_, ?_⟩ <;> (repeat' split) <;> omega
    constructor
    · constructor
      · rintro (⟨q, -⟩ | ⟨q, -⟩ | ⟨-, ⟨j, j0, j1, hj, hn, -, hx2⟩ | ⟨-, -, hx2⟩ | ⟨-, -, hx2⟩⟩ | ⟨q, q2, -⟩)
        · omega
        · omega
        · have hsd := (br_Rc a0 a1 j0 j1).2 (by omega)
          have hb0 : b = 0 := by omega
          have htj : t = f + fSt j := by omega
          rw [← htj] at hn
          refine ⟨(br_En t0 t1).mp hn, Or.inr ⟨by dsimp only; rw [mf]; omega, Or.inl ?_⟩, Or.inr ⟨by dsimp only; rw [mf]; omega, hb0⟩⟩
          dsimp only
          rw [mf, k6]
          exact (br_Re6 a0 a1).mpr ⟨j, j0, j1, hj, htj⟩
        · omega
        · omega
        · omega
      · rintro ⟨hn, -, hb⟩
        have hb0 : b = 0 := by
          rcases hb with hb | hb
          · have := hb.1; dsimp only at this; rw [mf] at this; omega
          · exact hb.2
        refine Or.inr (Or.inr (Or.inl ⟨k6, Or.inl ⟨i, i0, i1, hi, ?_, trivial, by omega⟩⟩))
        rw [← ht]
        exact (br_En t0 t1).mpr hn
    · rintro ⟨-, hh⟩
      rw [ef, et] at hh
      omega
  by_cases cst : ∃ i, 0 ≤ i ∧ i < 8 ∧ 0 < fRc f i ∧ t = f + fSt i
  · exact br_one hG hd h0 h1 hK hck a0 a1 t0 t1 p0 ext ho2 (hst cst).1 (hst cst).2
  -- castling, or nothing
  have hcast : ∀ mi co : Int, (t = f + 2 ∧ mi = f + 1 ∧ co = f + 3) ∨ (t = f - 2 ∧ mi = f - 1 ∧ co = f - 4) → b = 0 → f = 56 * (F 2).toInt + 4 → rMn M co = 8 * (F 2).toInt + 4 → (ck = 0 → ((¬ rAk (rUp (rUp (rMn M) f 0) t (8 * (F 2).toInt + 6)) t (1 - (F 2).toInt) ∧ ¬ rAk (rUp (rUp (rMn M) f 0) t (8 * (F 2).toInt + 6)) mi (1 - (F 2).toInt)) ↔ (¬ rAk (rMn M) mi (1 - (F 2).toInt) ∧ ¬ rAk (rUp (rUp (rUp (rUp (rMn M) f 0) t (8 * (F 2).toInt + 6)) mi (8 * (F 2).toInt + 4)) co 0) t (1 - (F 2).toInt)))) → (ck = 0 → ¬ rAk (rMn M) mi (1 - (F 2).toInt) → rLm (brQ M F) (f + 64 * t + 4096 * b)) → (ck = 0 → fGn M F ck f x) → (rLm (brQ M F) (f + 64 * t + 4096 * b) → ck = 0 ∧ ¬ rAk (rMn M) mi (1 - (F 2).toInt)) → (fGn M F ck f x → ck = 0) → ((fGn M F ck f x ∧ fSf M F h ck f x) ↔ (rLm (brQ M F) (f + 64 * t + 4096 * b) ∧ rGd (rMk (brQ M F) (f + 64 * t + 4096 * b)))) := by
    intro mi co hm hb0 eH hr hcs hl hg hl2 hg2
    constructor
    · rintro ⟨q1, q2⟩
      have hz := hg2 q1
      obtain ⟨q3, q4⟩ := (br_kc hG hd h0 h1 hK hck a0 a1 t0 t1 ext hfh hb0 eH hm hr hcs hl hz).mp q2
      exact ⟨hl hz q3, q4 q3⟩
    · rintro ⟨q1, q2⟩
      obtain ⟨hz, q3⟩ := hl2 q1
      exact ⟨hg hz, (br_kc hG hd h0 h1 hK hck a0 a1 t0 t1 ext hfh hb0 eH hm hr hcs hl hz).mpr ⟨q3, fun _ => q2⟩⟩
  have hrg := br_Rg hR.1 hR.2 hs.1 hs.2
  have hgood := hG.2.1 (F 2).toInt.toNat (by omega)
  have hnre : ¬ rRe (rMn M) 6 f t := fun hre => cst ((br_Re6 a0 a1).mp hre)
  have hown : ∀ u, 0 ≤ u → u ≤ 63 → rMn M u = 0 → ¬ rOwn (brQ M F) u := fun u u0 u1 hu hw => hw.1 hu
  have hgo : ∀ u, rGO (brQ M F) f u → ¬ rRe (rMn M) 6 f u → f = 56 * (F 2).toInt + 4 ∧ ((rCa (brQ M F) 1 ∧ u = f + 2) ∨ (rCa (brQ M F) 0 ∧ u = f - 2)) := by
    rintro u (⟨hq, -⟩ | ⟨-, hq | ⟨-, hq, hq2⟩⟩) hn
    · dsimp only at hq; rw [mf] at hq; omega
    · dsimp only at hq
      rw [mf, k6] at hq
      exact absurd hq hn
    · exact ⟨hq, hq2⟩
  by_cases cs : b = 0 ∧ t = f + 2 ∧ f = 56 * (F 2).toInt + 4 ∧ rHas (F 3).toInt ((1 : Int) * (if (F 2).toInt = 0 then 1 else 4)) ∧ rMn M (f + 1) = 0 ∧ rMn M (f + 2) = 0
  · obtain ⟨hb0, et2, eH, hri, z1, z2⟩ := cs
    have hri2 := hrg.1.mp hri
    have hgo1 := hgood.1 hri2
    have hco : rMn M (f + 3) = 8 * (F 2).toInt + 4 := by
      rw [br_Mn (by omega) (by omega), show (f + 3).toNat = 56 * (F 2).toInt.toNat + 7 by omega, hgo1.2]
      omega
    have hca : ck = 0 → ¬ rAk (rMn M) (f + 1) (1 - (F 2).toInt) → rCa (brQ M F) 1 := by
      intro hz hna
      refine ⟨?_, fun j j0 j1 => ?_, ?_, ?_⟩
      · dsimp only; rw [if_pos rfl]; exact hri
      · rw [if_pos rfl] at j0 j1
        dsimp only at j0 j1 ⊢
        have : j = f + 1 ∨ j = f + 2 := by omega
        rcases this with rfl | rfl
        · exact z1
        · exact z2
      · rintro ⟨s, hs1, hs2⟩
        rw [hck2 s hs1] at hs2
        exact hatt hz hs2
      · dsimp only
        rw [if_pos rfl, show 56 * (F 2).toInt + 5 = f + 1 by omega]
        exact hna
    refine hcast (f + 1) (f + 3) (Or.inl ⟨et2, rfl, rfl⟩) hb0 eH hco ?_ ?_ ?_ ?_ ?_
    · intro hz
      rw [et2]
      exact br_Cs hs eH mfk z1 z2 hco (hatt hz)
    · intro hz hna
      rw [br_lm a0 a1 t0 t1 p0 ho2]
      refine ⟨hown t t0 t1 (by rw [et2]; exact z2), Or.inr ⟨by dsimp only; rw [mf]; omega, Or.inr ⟨by dsimp only; rw [mf]; exact k6, eH, Or.inl ⟨hca hz hna, et2⟩⟩⟩, Or.inr ⟨by dsimp only; rw [mf]; omega, hb0⟩⟩
    · intro hz
      refine Or.inr (Or.inr (Or.inl ⟨k6, Or.inr (Or.inl ⟨trivial, ⟨hz, by omega, hri2, ?_, ?_⟩, by omega⟩)⟩))
      · rw [← br_Mn (by omega) (by omega)]; exact z1
      · rw [← br_Mn (by omega) (by omega)]; exact z2
    · intro hl
      obtain ⟨-, hg', -⟩ := (br_lm a0 a1 t0 t1 p0 ho2).mp hl
      obtain ⟨-, ⟨hca1, -⟩ | ⟨-, e⟩⟩ := hgo t hg' hnre
      · obtain ⟨-, -, c3, c4⟩ := hca1
        refine ⟨hatt2 (fun ha => c3 ⟨f, hkg, ha⟩), ?_⟩
        dsimp only at c4
        rw [if_pos rfl, show 56 * (F 2).toInt + 5 = f + 1 by omega] at c4
        exact c4
      · omega
    · rintro (⟨q, -⟩ | ⟨q, -⟩ | ⟨-, ⟨j, j0, j1, hj, hn, -, hx2⟩ | ⟨-, q, -⟩ | ⟨-, q, -⟩⟩ | ⟨q, q2, -⟩)
      · omega
      · omega
      · exfalso
        have hsd := (br_Rc a0 a1 j0 j1).2 (by omega)
        exact cst ⟨j, j0, j1, hj, by omega⟩
      · exact q.1
      · exact q.1
      · omega
  by_cases cl : b = 0 ∧ t = f - 2 ∧ f = 56 * (F 2).toInt + 4 ∧ rHas (F 3).toInt ((2 : Int) * (if (F 2).toInt = 0 then 1 else 4)) ∧ rMn M (f - 1) = 0 ∧ rMn M (f - 2) = 0 ∧ rMn M (f - 3) = 0
  · obtain ⟨hb0, et2, eH, hri, z1, z2, z3⟩ := cl
    have hri2 := hrg.2.mp hri
    have hgo1 := hgood.2.1 hri2
    have hco : rMn M (f - 4) = 8 * (F 2).toInt + 4 := by
      rw [br_Mn (by omega) (by omega), show (f - 4).toNat = 56 * (F 2).toInt.toNat by omega, hgo1.2]
      omega
    have hca : ck = 0 → ¬ rAk (rMn M) (f - 1) (1 - (F 2).toInt) → rCa (brQ M F) 0 := by
      intro hz hna
      refine ⟨?_, fun j j0 j1 => ?_, ?_, ?_⟩
      · dsimp only; rw [if_neg (by decide)]; exact hri
      · rw [if_neg (by decide)] at j0 j1
        dsimp only at j0 j1 ⊢
        have : j = f - 1 ∨ j = f - 2 ∨ j = f - 3 := by omega
        rcases this with rfl | rfl | rfl
        · exact z1
        · exact z2
        · exact z3
      · rintro ⟨s, hs1, hs2⟩
        rw [hck2 s hs1] at hs2
        exact hatt hz hs2
      · dsimp only
        rw [if_neg (by decide), show 56 * (F 2).toInt + 3 = f - 1 by omega]
        exact hna
    refine hcast (f - 1) (f - 4) (Or.inr ⟨et2, rfl, rfl⟩) hb0 eH hco ?_ ?_ ?_ ?_ ?_
    · intro hz
      rw [et2]
      exact br_Cl hs eH mfk z1 z2 z3 hco (hatt hz)
    · intro hz hna
      rw [br_lm a0 a1 t0 t1 p0 ho2]
      refine ⟨hown t t0 t1 (by rw [et2]; exact z2), Or.inr ⟨by dsimp only; rw [mf]; omega, Or.inr ⟨by dsimp only; rw [mf]; exact k6, eH, Or.inr ⟨hca hz hna, et2⟩⟩⟩, Or.inr ⟨by dsimp only; rw [mf]; omega, hb0⟩⟩
    · intro hz
      refine Or.inr (Or.inr (Or.inl ⟨k6, Or.inr (Or.inr ⟨trivial, ⟨hz, by omega, hri2, ?_, ?_, ?_⟩, by omega⟩)⟩))
      · rw [← br_Mn (by omega) (by omega)]; exact z1
      · rw [← br_Mn (by omega) (by omega)]; exact z2
      · rw [← br_Mn (by omega) (by omega)]; exact z3
    · intro hl
      obtain ⟨-, hg', -⟩ := (br_lm a0 a1 t0 t1 p0 ho2).mp hl
      obtain ⟨-, ⟨-, e⟩ | ⟨hca1, -⟩⟩ := hgo t hg' hnre
      · omega
      · obtain ⟨-, -, c3, c4⟩ := hca1
        refine ⟨hatt2 (fun ha => c3 ⟨f, hkg, ha⟩), ?_⟩
        dsimp only at c4
        rw [if_neg (by decide), show 56 * (F 2).toInt + 3 = f - 1 by omega] at c4
        exact c4
    · rintro (⟨q, -⟩ | ⟨q, -⟩ | ⟨-, ⟨j, j0, j1, hj, hn, -, hx2⟩ | ⟨-, q, -⟩ | ⟨-, q, -⟩⟩ | ⟨q, q2, -⟩)
      · omega
      · omega
      · exfalso
        have hsd := (br_Rc a0 a1 j0 j1).2 (by omega)
        exact cst ⟨j, j0, j1, hj, by omega⟩
      · exact q.1
      · exact q.1
      · omega
  -- neither side has the move
  constructor
  · rintro ⟨hq, -⟩
    exfalso
    rcases hq with ⟨q, -⟩ | ⟨q, -⟩ | ⟨-, ⟨j, j0, j1, hj, hn, -, hx2⟩ | ⟨-, ⟨q0, q1, q2, q3, q4⟩, hx2⟩ | ⟨-, ⟨q0, q1, q2, q3, q4, q5⟩, hx2⟩⟩ | ⟨q, q2, -⟩
    · omega
    · omega
    · have hsd := (br_Rc a0 a1 j0 j1).2 (by omega)
      exact cst ⟨j, j0, j1, hj, by omega⟩
    · refine cs ⟨by omega, by omega, by omega, hrg.1.mpr q2, ?_, ?_⟩
      · rw [br_Mn (by omega) (by omega)]; exact q3
      · rw [br_Mn (by omega) (by omega)]; exact q4
    · refine cl ⟨by omega, by omega, by omega, hrg.2.mpr q2, ?_, ?_, ?_⟩
      · rw [br_Mn (by omega) (by omega)]; exact q3
      · rw [br_Mn (by omega) (by omega)]; exact q4
      · rw [br_Mn (by omega) (by omega)]; exact q5
    · omega
  · rintro ⟨hl, -⟩
    exfalso
    obtain ⟨-, hg', hb⟩ := (br_lm a0 a1 t0 t1 p0 ho2).mp hl
    have hb0 : b = 0 := by
      rcases hb with hb | hb
      · have := hb.1; dsimp only at this; rw [mf] at this; omega
      · exact hb.2
    obtain ⟨eH, ⟨hca1, e⟩ | ⟨hca1, e⟩⟩ := hgo t hg' hnre
    · obtain ⟨c1, c2, -, -⟩ := hca1
      rw [if_pos rfl] at c1
      refine cs ⟨hb0, e, eH, c1, c2 _ ?_ ?_, c2 _ ?_ ?_⟩ <;> (rw [if_pos rfl]; dsimp only; omega)
    · obtain ⟨c1, c2, -, -⟩ := hca1
      rw [if_neg (by decide)] at c1
      refine cl ⟨hb0, e, eH, c1, c2 _ ?_ ?_, c2 _ ?_ ?_, c2 _ ?_ ?_⟩ <;> (rw [if_neg (by decide)]; dsimp only; omega)
/-! class and reference: a move made -/
end
section
/-! the class's Board: what it says of attack, over whole numbers -/
noncomputable def cEm (A : Int → Int) (s i k : Int) : Prop := ∀ q : Int, 1 ≤ q → q < k → A (s + q * fSt i) = 0
noncomputable def cRy (A : Int → Int) (s b i : Int) : Prop := ∃ k : Int, 1 ≤ k ∧ k ≤ fRc s i ∧ cEm A s i k ∧ ¬ A (s + k * fSt i) = 0 ∧ fHit (A (s + k * fSt i)) b i k
noncomputable def cHo (A : Int → Int) (s b : Int) : Prop := ∃ j : Nat, j < 8 ∧ 0 ≤ fHp s.toNat j ∧ A (fHp s.toNat j) = 8 * b + 2
noncomputable def cAk (A : Int → Int) (s b : Int) : Prop := cHo A s b ∨ ∃ i : Int, 0 ≤ i ∧ i < 8 ∧ cRy A s b i
/-- the tables of the Board at a place -/
noncomputable def zBt (W : zW) (b : Nat) : Prop := (∀ s i : Int, 0 ≤ s → s < 64 → 0 ≤ i → i < 8 → W.2.1 (b + 8) (8 * s + i) = fRc s i) ∧ (∀ s i : Int, 0 ≤ s → s < 64 → 0 ≤ i → i < 8 → W.2.1 (b + 9) (8 * s + i) = fHp s.toNat i.toNat)
/-- its men -/
noncomputable def zBm (W : zW) (b : Nat) : Prop := ∀ s : Int, 0 ≤ s → s < 64 → 0 ≤ W.2.1 (b + 1) s ∧ W.2.1 (b + 1) s ≤ 14
theorem ca_hl {l : List Nat} {i : Nat} : (i < l.length → 0 ≤ (l.map Int.ofNat).getD i (-1)) ∧ (l.length ≤ i → (l.map Int.ofNat).getD i (-1) = -1) := by
  refine ⟨fun h => ?_, fun h => ?_⟩
  · rw [List.getD_eq_getElem?_getD, List.getElem?_map, List.getElem?_eq_getElem h]
    exact Int.natCast_nonneg _
  · rw [List.getD_eq_getElem?_getD, List.getElem?_map, List.getElem?_eq_none h]
    rfl
theorem ca_hn {s i j : Nat} (h : fHp s i < 0) (hj : i ≤ j) : fHp s j < 0 := by
  unfold fHp at h ⊢
  rcases Nat.lt_or_ge i ((List.range 64).filter (fun t => decide (((t % 8 : Nat) : Int) - ((s % 8 : Nat) : Int) = 1 ∨ ((t % 8 : Nat) : Int) - ((s % 8 : Nat) : Int) = -1) && decide (((t / 8 : Nat) : Int) - ((s / 8 : Nat) : Int) = 2 ∨ ((t / 8 : Nat) : Int) - ((s / 8 : Nat) : Int) = -2) || decide (((t % 8 : Nat) : Int) - ((s % 8 : Nat) : Int) = 2 ∨ ((t % 8 : Nat) : Int) - ((s % 8 : Nat) : Int) = -2) && decide (((t / 8 : Nat) : Int) - ((s / 8 : Nat) : Int) = 1 ∨ ((t / 8 : Nat) : Int) - ((s / 8 : Nat) : Int) = -1))).length with c | c
  · exact absurd (ca_hl.1 c) (by omega)
  · rw [ca_hl.2 (Nat.le_trans c hj)]
    decide
theorem ca_h6 {s i : Nat} : fHp s i ≤ 63 := by
  unfold fHp
  rcases Nat.lt_or_ge i ((List.range 64).filter (fun t => decide (((t % 8 : Nat) : Int) - ((s % 8 : Nat) : Int) = 1 ∨ ((t % 8 : Nat) : Int) - ((s % 8 : Nat) : Int) = -1) && decide (((t / 8 : Nat) : Int) - ((s / 8 : Nat) : Int) = 2 ∨ ((t / 8 : Nat) : Int) - ((s / 8 : Nat) : Int) = -2) || decide (((t % 8 : Nat) : Int) - ((s % 8 : Nat) : Int) = 2 ∨ ((t % 8 : Nat) : Int) - ((s % 8 : Nat) : Int) = -2) && decide (((t / 8 : Nat) : Int) - ((s / 8 : Nat) : Int) = 1 ∨ ((t / 8 : Nat) : Int) - ((s / 8 : Nat) : Int) = -1))).length with c | c
  · rw [List.getD_eq_getElem?_getD, List.getElem?_map, List.getElem?_eq_getElem c]
    have h := List.getElem_mem c
    have h2 := List.mem_range.mp (List.mem_filter.mp h).1
    exact Int.ofNat_le.mpr (Nat.le_of_lt_succ h2)
  · rw [ca_hl.2 c]
    decide
theorem ca_st : ∀ i : Fin 8, (tv_0.getD i.val 0).toInt = fSt i.val := by decide +kernel
theorem ca_s {i : Int} (h : 0 ≤ i ∧ i < 8) : (tv_0.getD i.toNat 0).toInt = fSt i := by
  have e := ca_st ⟨i.toNat, by omega⟩
  dsimp only at e
  rw [e, show ((i.toNat : Nat) : Int) = i by omega]
theorem ca_r0 : ∀ (s : Fin 64) (i : Fin 8) (k : Fin 8), (k.val : Int) ≤ fRc s.val i.val → 0 ≤ (s.val : Int) + k.val * fSt i.val ∧ (s.val : Int) + k.val * fSt i.val ≤ 63 := by decide +kernel
theorem ca_r1 : ∀ (s : Fin 64) (i : Fin 8), 0 ≤ fRc s.val i.val ∧ fRc s.val i.val ≤ 7 := by decide +kernel
theorem ca_r {s i : Int} (hs : 0 ≤ s ∧ s < 64) (hi : 0 ≤ i ∧ i < 8) : 0 ≤ fRc s i ∧ fRc s i ≤ 7 := by
  have e := ca_r1 ⟨s.toNat, by omega⟩ ⟨i.toNat, by omega⟩
  dsimp only at e
  rw [show ((s.toNat : Nat) : Int) = s by omega, show ((i.toNat : Nat) : Int) = i by omega] at e
  exact e
theorem ca_p {s i k : Int} (hs : 0 ≤ s ∧ s < 64) (hi : 0 ≤ i ∧ i < 8) (h0 : 0 ≤ k) (h1 : k ≤ fRc s i) : 0 ≤ s + k * fSt i ∧ s + k * fSt i ≤ 63 := by
  have e2 := (ca_r hs hi).2
  have e := ca_r0 ⟨s.toNat, by omega⟩ ⟨i.toNat, by omega⟩ ⟨k.toNat, by omega⟩
  dsimp only at e
  rw [show ((s.toNat : Nat) : Int) = s by omega, show ((i.toNat : Nat) : Int) = i by omega, show ((k.toNat : Nat) : Int) = k by omega] at e
  exact e h1
/-- one ray: where a man stands first, nothing further counts -/
theorem ca_y {A : Int → Int} {s b i k : Int} (h1 : 1 ≤ k) (he : cEm A s i k) (hm : ¬ A (s + k * fSt i) = 0) (hh : ¬ fHit (A (s + k * fSt i)) b i k) : ¬ cRy A s b i := by
  rintro ⟨j, j1, j2, j3, j4, j5⟩
  rcases Int.lt_trichotomy j k with c | c | c
  · exact j4 (he j j1 c)
  · rw [c] at j5; exact hh j5
  · exact hm (j3 k h1 c)
theorem ca_n {A : Int → Int} {s b i k : Int} (hk : fRc s i < k) (he : cEm A s i k) : ¬ cRy A s b i := by
  rintro ⟨j, j1, j2, j3, j4, j5⟩
  exact j4 (he j j1 (by omega))
end
section
noncomputable def ak_ZBOatk34 : List jI := [(.iload_n 1, 1, (1, 0, 0, 0, 0)), (.bipush 8, 2, (0, 0, 0, 8, 0)), (.imul, 1, (0, 0, 0, 0, 0)), (.istore_n 3, 1, (3, 0, 0, 0, 0)), (.iload_n 3, 1, (3, 0, 0, 0, 0)), (.iload_n 1, 1, (1, 0, 0, 0, 0)), (.bipush 8, 2, (0, 0, 0, 8, 0)), (.imul, 1, (0, 0, 0, 0, 0)), (.bipush 8, 2, (0, 0, 0, 8, 0)), (.iadd, 1, (0, 0, 0, 0, 0)), (.if_icmp .ge 39, 3, (52, 0, 0, 0, 0)), (.aload_n 0, 1, (0, 0, 0, 0, 0)), (.getfield 35, 3, (10, 13, 682, 0, 0)), (.iload_n 3, 1, (3, 0, 0, 0, 0)), (.iaload, 1, (0, 0, 0, 0, 0)), (.ifCond .lt 30, 3, (52, 0, 0, 0, 0)), (.aload_n 0, 1, (0, 0, 0, 0, 0)), (.getfield 7, 3, (10, 0, 660, 0, 0)), (.aload_n 0, 1, (0, 0, 0, 0, 0)), (.getfield 35, 3, (10, 13, 682, 0, 0)), (.iload_n 3, 1, (3, 0, 0, 0, 0)), (.iaload, 1, (0, 0, 0, 0, 0)), (.iaload, 1, (0, 0, 0, 0, 0)), (.iload_n 2, 1, (2, 0, 0, 0, 0)), (.iconst 3, 1, (0, 0, 0, 3, 0)), (.ishl, 1, (0, 0, 0, 0, 0)), (.iconst 2, 1, (0, 0, 0, 2, 0)), (.ior, 1, (0, 0, 0, 0, 0)), (.if_icmp .ne 5, 3, (46, 0, 0, 0, 0)), (.iconst 1, 1, (0, 0, 0, 1, 0)), (.ireturn, 1, (0, 0, 0, 0, 0)), (.iinc 3 1, 3, (0, 0, 0, 1, 0)), (.goto (-44), 3, (5, 0, 0, 0, 0)), (.iconst 0, 1, (0, 0, 0, 0, 0)), (.istore_n 3, 1, (3, 0, 0, 0, 0)), (.iload_n 3, 1, (3, 0, 0, 0, 0)), (.bipush 8, 2, (0, 0, 0, 8, 0)), (.if_icmp .ge 154, 3, (211, 0, 0, 0, 0)), (.getstatic 44, 3, (0, 0, 619, 0, 0)), (.iload_n 3, 1, (3, 0, 0, 0, 0)), (.iaload, 1, (0, 0, 0, 0, 0)), (.istore 4, 2, (4, 0, 0, 0, 0)), (.aload_n 0, 1, (0, 0, 0, 0, 0)), (.getfield 32, 3, (10, 12, 681, 0, 0)), (.iload_n 1, 1, (1, 0, 0, 0, 0)), (.bipush 8, 2, (0, 0, 0, 8, 0)), (.imul, 1, (0, 0, 0, 0, 0)), (.iload_n 3, 1, (3, 0, 0, 0, 0)), (.iadd, 1, (0, 0, 0, 0, 0)), (.iaload, 1, (0, 0, 0, 0, 0)), (.istore 5, 2, (5, 0, 0, 0, 0)), (.iload_n 1, 1, (1, 0, 0, 0, 0)), (.istore 6, 2, (6, 0, 0, 0, 0)), (.iconst 1, 1, (0, 0, 0, 1, 0)), (.istore 7, 2, (7, 0, 0, 0, 0)), (.iload 7, 2, (7, 0, 0, 0, 0)), (.iload 5, 2, (5, 0, 0, 0, 0)), (.if_icmp .gt 115, 3, (205, 0, 0, 0, 0)), (.iload 6, 2, (6, 0, 0, 0, 0)), (.iload 4, 2, (4, 0, 0, 0, 0)), (.iadd, 1, (0, 0, 0, 0, 0)), (.istore 6, 2, (6, 0, 0, 0, 0)), (.aload_n 0, 1, (0, 0, 0, 0, 0)), (.getfield 7, 3, (10, 0, 660, 0, 0)), (.iload 6, 2, (6, 0, 0, 0, 0)), (.iaload, 1, (0, 0, 0, 0, 0)), (.istore 8, 2, (8, 0, 0, 0, 0)), (.iload 8, 2, (8, 0, 0, 0, 0)), (.ifCond .ne 6, 3, (117, 0, 0, 0, 0)), (.goto 85, 3, (199, 0, 0, 0, 0)), (.iload 8, 2, (8, 0, 0, 0, 0)), (.iconst 3, 1, (0, 0, 0, 3, 0)), (.ishr, 1, (0, 0, 0, 0, 0)), (.iload_n 2, 1, (2, 0, 0, 0, 0)), (.if_icmp .ne 83, 3, (205, 0, 0, 0, 0)), (.iload 8, 2, (8, 0, 0, 0, 0)), (.bipush 7, 2, (0, 0, 0, 7, 0)), (.iand, 1, (0, 0, 0, 0, 0)), (.istore 9, 2, (9, 0, 0, 0, 0)), (.iload 9, 2, (9, 0, 0, 0, 0)), (.iconst 5, 1, (0, 0, 0, 5, 0)), (.if_icmp .eq 59, 3, (194, 0, 0, 0, 0)), (.iload 9, 2, (9, 0, 0, 0, 0)), (.iload_n 3, 1, (3, 0, 0, 0, 0)), (.iconst 4, 1, (0, 0, 0, 4, 0)), (.if_icmp .ge 7, 3, (149, 0, 0, 0, 0)), (.iconst 4, 1, (0, 0, 0, 4, 0)), (.goto 4, 3, (150, 0, 0, 0, 0)), (.iconst 3, 1, (0, 0, 0, 3, 0)), (.if_icmp .eq 44, 3, (194, 0, 0, 0, 0)), (.iload 7, 2, (7, 0, 0, 0, 0)), (.iconst 1, 1, (0, 0, 0, 1, 0)), (.if_icmp .ne 40, 3, (196, 0, 0, 0, 0)), (.iload 9, 2, (9, 0, 0, 0, 0)), (.bipush 6, 2, (0, 0, 0, 6, 0)), (.if_icmp .eq 31, 3, (194, 0, 0, 0, 0)), (.iload 9, 2, (9, 0, 0, 0, 0)), (.iconst 1, 1, (0, 0, 0, 1, 0)), (.if_icmp .ne 27, 3, (196, 0, 0, 0, 0)), (.iload_n 3, 1, (3, 0, 0, 0, 0)), (.iconst 4, 1, (0, 0, 0, 4, 0)), (.if_icmp .lt 22, 3, (196, 0, 0, 0, 0)), (.iload_n 2, 1, (2, 0, 0, 0, 0)), (.ifCond .ne 11, 3, (189, 0, 0, 0, 0)), (.iload 4, 2, (4, 0, 0, 0, 0)), (.ifCond .ge 13, 3, (196, 0, 0, 0, 0)), (.goto 8, 3, (194, 0, 0, 0, 0)), (.iload 4, 2, (4, 0, 0, 0, 0)), (.ifCond .le 5, 3, (196, 0, 0, 0, 0)), (.iconst 1, 1, (0, 0, 0, 1, 0)), (.ireturn, 1, (0, 0, 0, 0, 0)), (.goto 9, 3, (205, 0, 0, 0, 0)), (.iinc 7 1, 3, (0, 0, 0, 1, 0)), (.goto (-116), 3, (86, 0, 0, 0, 0)), (.iinc 3 1, 3, (0, 0, 0, 1, 0)), (.goto (-154), 3, (54, 0, 0, 0, 0)), (.iconst 0, 1, (0, 0, 0, 0, 0)), (.ireturn, 1, (0, 0, 0, 0, 0))]
theorem ao_ZBOatk34 : jokLG jtF lk_BO "ChessHouse$Board" jcl jtb 10 prog_3_method_10_code 0 ak_ZBOatk34 = true := by decide +kernel
noncomputable def zm_BOatk34 : zM := (some .boolean, { frames := 0, cells := 0, slots := 0, locals := 0 }, ([], []), [], ak_ZBOatk34)
noncomputable def zc_BOatk34 (vals : List zv) (W : zW) (post : zPo) : Prop := ∃ s y : Int, vals = [.inr (.inr (some (.inl 34))), .inl (s), .inl (y)] ∧ (zBt W 34 ∧ zBm W 34 ∧ (0 ≤ s ∧ s < 64) ∧ (0 ≤ y ∧ y ≤ 1)) ∧ ∀ r : Int, (xBl r (cAk (W.2.1 35) s y)) → post (some (.inl r)) W
set_option maxRecDepth 8000 in
theorem zp_BOatk34_0 {n K : Nat} {W : zW} {post : zPo} {s y : Int} {u3 u4 u5 u6 u7 u8 u9 : Option zv} (hK : 4 ≤ K) (hn : 142 ≤ n) (h : (-2147483648 ≤ s * 8 ∧ s * 8 ≤ 2147483647) ∧ zwp jtb zsh n zm_BOatk34 post (K - 4) (lGo ak_ZBOatk34 5) 5 [some (.inr (.inr (some (.inl 34)))), some (.inl (s)), some (.inl (y)), some (.inl (s * 8)), u4, u5, u6, u7, u8, u9] [] W) : zwp jtb zsh n zm_BOatk34 post K (lGo ak_ZBOatk34 0) 0 [some (.inr (.inr (some (.inl 34)))), some (.inl (s)), some (.inl (y)), u3, u4, u5, u6, u7, u8, u9] [] W := by
  obtain ⟨kk__, rfl⟩ : ∃ kk__, K = kk__ + 4 := ⟨K - 4, by omega⟩
  exact (show (-2147483648 ≤ s * 8 ∧ s * 8 ≤ 2147483647) ∧ zwp jtb zsh n zm_BOatk34 post (kk__ + 0) (lGo ak_ZBOatk34 5) 5 [some (.inr (.inr (some (.inl 34)))), some (.inl (s)), some (.inl (y)), some (.inl (s * 8)), u4, u5, u6, u7, u8, u9] [] W from ⟨(h).1, (h).2⟩)
set_option maxRecDepth 8000 in
theorem zp_BOatk34_5 {n K : Nat} {W : zW} {post : zPo} {s y x : Int} {u4 u5 u6 u7 u8 u9 : Option zv} (hK : 27 ≤ K) (hn : 142 ≤ n) (h : (-2147483648 ≤ s * 8 ∧ s * 8 ≤ 2147483647) ∧ (-2147483648 ≤ (s * 8) + 8 ∧ (s * 8) + 8 ≤ 2147483647) ∧ (((s * 8) + 8) ≤ x → zwp jtb zsh n zm_BOatk34 post (K - 9) (lGo ak_ZBOatk34 54) 54 [some (.inr (.inr (some (.inl 34)))), some (.inl (s)), some (.inl (y)), some (.inl (0)), u4, u5, u6, u7, u8, u9] [] W) ∧ (¬ ((s * 8) + 8) ≤ x → (0 ≤ x ∧ x < 512) ∧ ((W.2.1 43 x) < 0 → zwp jtb zsh n zm_BOatk34 post (K - 14) (lGo ak_ZBOatk34 54) 54 [some (.inr (.inr (some (.inl 34)))), some (.inl (s)), some (.inl (y)), some (.inl (0)), u4, u5, u6, u7, u8, u9] [] W) ∧ (¬ (W.2.1 43 x) < 0 → (0 ≤ x ∧ x < 512) ∧ (0 ≤ (W.2.1 43 x) ∧ (W.2.1 43 x) < 64) ∧ (0 ≤ y ∧ y * 8 ≤ 2147483647) ∧ ∀ t0 : Int, t0 = y * 8 → (0 ≤ t0 ∧ t0 ≤ 2147483647 ∧ t0 % 4 = 0 ∧ 0 ≤ (2 : Int) ∧ (2 : Int) < 4) ∧ ∀ t1 : Int, t1 = t0 + 2 → (¬ (W.2.1 35 (W.2.1 43 x)) = t1 → (-2147483648 ≤ x + 1 ∧ x + 1 ≤ 2147483647) ∧ zwp jtb zsh n zm_BOatk34 post (K - 27) (lGo ak_ZBOatk34 5) 5 [some (.inr (.inr (some (.inl 34)))), some (.inl (s)), some (.inl (y)), some (.inl (x + 1)), u4, u5, u6, u7, u8, u9] [] W) ∧ ((W.2.1 35 (W.2.1 43 x)) = t1 → post (some (.inl (1))) W)))) : zwp jtb zsh n zm_BOatk34 post K (lGo ak_ZBOatk34 5) 5 [some (.inr (.inr (some (.inl 34)))), some (.inl (s)), some (.inl (y)), some (.inl (x)), u4, u5, u6, u7, u8, u9] [] W := by
  obtain ⟨kk__, rfl⟩ : ∃ kk__, K = kk__ + 27 := ⟨K - 27, by omega⟩
  exact (show (-2147483648 ≤ s * 8 ∧ s * 8 ≤ 2147483647) ∧ (-2147483648 ≤ (s * 8) + 8 ∧ (s * 8) + 8 ≤ 2147483647) ∧ (((s * 8) + 8) ≤ x → zwp jtb zsh n zm_BOatk34 post (kk__ + 18) (lGo ak_ZBOatk34 54) 54 [some (.inr (.inr (some (.inl 34)))), some (.inl (s)), some (.inl (y)), some (.inl (0)), u4, u5, u6, u7, u8, u9] [] W) ∧ (¬ ((s * 8) + 8) ≤ x → 34 < n ∧ 10 = 10 ∧ 43 < n ∧ FieldType.int = FieldType.int ∧ (0 ≤ x ∧ x < 512) ∧ ((W.2.1 43 x) < 0 → zwp jtb zsh n zm_BOatk34 post (kk__ + 13) (lGo ak_ZBOatk34 54) 54 [some (.inr (.inr (some (.inl 34)))), some (.inl (s)), some (.inl (y)), some (.inl (0)), u4, u5, u6, u7, u8, u9] [] W) ∧ (¬ (W.2.1 43 x) < 0 → 34 < n ∧ 10 = 10 ∧ 34 < n ∧ 10 = 10 ∧ 43 < n ∧ FieldType.int = FieldType.int ∧ (0 ≤ x ∧ x < 512) ∧ 35 < n ∧ FieldType.int = FieldType.int ∧ (0 ≤ (W.2.1 43 x) ∧ (W.2.1 43 x) < 64) ∧ (¬ (W.2.1 35 (W.2.1 43 x)) = ((lI ((lI y <<< (lI 3 &&& 31)).toInt) ||| lI 2).toInt) → (-2147483648 ≤ x + 1 ∧ x + 1 ≤ 2147483647) ∧ zwp jtb zsh n zm_BOatk34 post (kk__ + 0) (lGo ak_ZBOatk34 5) 5 [some (.inr (.inr (some (.inl 34)))), some (.inl (s)), some (.inl (y)), some (.inl (x + 1)), u4, u5, u6, u7, u8, u9] [] W) ∧ ((W.2.1 35 (W.2.1 43 x)) = ((lI ((lI y <<< (lI 3 &&& 31)).toInt) ||| lI 2).toInt) → 1 = 1 ∧ ((1 : Int) = 0 ∨ (1 : Int) = 1) ∧ post (some (.inl (1))) W))) from ⟨(h).1, ⟨((h).2).1, ⟨fun c13_6 => ((((h).2).2).1 c13_6), fun c13_6 => ⟨(Nat.lt_of_lt_of_le (by decide) hn), rfl, ⟨(Nat.lt_of_lt_of_le (by decide) hn), rfl, (((((h).2).2).2 c13_6)).1, (have h := (((((h).2).2).2 c13_6)).2; ⟨fun c22_11 => ((h).1 c22_11), fun c22_11 => ⟨(Nat.lt_of_lt_of_le (by decide) hn), rfl, ⟨(Nat.lt_of_lt_of_le (by decide) hn), rfl, ⟨(Nat.lt_of_lt_of_le (by decide) hn), rfl, (((h).2 c22_11)).1, ⟨(Nat.lt_of_lt_of_le (by decide) hn), rfl, ((((h).2 c22_11)).2).1, (have h := ((((((h).2 c22_11)).2).2).2 _ (z_sl3 (((((h).2 c22_11)).2).2).1)); ⟨fun c41_24 => (have h := ((((h).2 _ (z_or2 (h).1))).1 c41_24); ⟨(h).1, (h).2⟩), fun c41_24 => (have h := ((((h).2 _ (z_or2 (h).1))).2 c41_24); ⟨rfl, Or.inr rfl, h⟩)⟩)⟩⟩⟩⟩⟩)⟩⟩⟩⟩⟩)
set_option maxRecDepth 8000 in
theorem zp_BOatk34_54 {n K : Nat} {W : zW} {post : zPo} {s y i : Int} {u4 u5 u6 u7 u8 u9 : Option zv} (hK : 20 ≤ K) (hn : 142 ≤ n) (h : (8 ≤ i → post (some (.inl (0))) W) ∧ (¬ 8 ≤ i → (0 ≤ i ∧ i < 8) ∧ (-2147483648 ≤ s * 8 ∧ s * 8 ≤ 2147483647) ∧ (-2147483648 ≤ (s * 8) + i ∧ (s * 8) + i ≤ 2147483647) ∧ (0 ≤ ((s * 8) + i) ∧ ((s * 8) + i) < 512) ∧ zwp jtb zsh n zm_BOatk34 post (K - 20) (lGo ak_ZBOatk34 86) 86 [some (.inr (.inr (some (.inl 34)))), some (.inl (s)), some (.inl (y)), some (.inl (i)), some (.inl ((tv_0.getD i.toNat 0).toInt)), some (.inl (W.2.1 42 ((s * 8) + i))), some (.inl (s)), some (.inl (1)), u8, u9] [] W)) : zwp jtb zsh n zm_BOatk34 post K (lGo ak_ZBOatk34 54) 54 [some (.inr (.inr (some (.inl 34)))), some (.inl (s)), some (.inl (y)), some (.inl (i)), u4, u5, u6, u7, u8, u9] [] W := by
  obtain ⟨kk__, rfl⟩ : ∃ kk__, K = kk__ + 20 := ⟨K - 20, by omega⟩
  exact (show (8 ≤ i → 1 = 1 ∧ ((0 : Int) = 0 ∨ (0 : Int) = 1) ∧ post (some (.inl (0))) W) ∧ (¬ 8 ≤ i → FieldType.int = FieldType.int ∧ (0 ≤ i ∧ i < 8) ∧ 34 < n ∧ 10 = 10 ∧ (-2147483648 ≤ s * 8 ∧ s * 8 ≤ 2147483647) ∧ (-2147483648 ≤ (s * 8) + i ∧ (s * 8) + i ≤ 2147483647) ∧ 42 < n ∧ FieldType.int = FieldType.int ∧ (0 ≤ ((s * 8) + i) ∧ ((s * 8) + i) < 512) ∧ zwp jtb zsh n zm_BOatk34 post (kk__ + 0) (lGo ak_ZBOatk34 86) 86 [some (.inr (.inr (some (.inl 34)))), some (.inl (s)), some (.inl (y)), some (.inl (i)), some (.inl ((tv_0.getD i.toNat 0).toInt)), some (.inl (W.2.1 42 ((s * 8) + i))), some (.inl (s)), some (.inl (1)), u8, u9] [] W) from ⟨fun c57_2 => ⟨rfl, Or.inl rfl, ((h).1 c57_2)⟩, fun c57_2 => ⟨rfl, (((h).2 c57_2)).1, ⟨(Nat.lt_of_lt_of_le (by decide) hn), rfl, ⟨((((h).2 c57_2)).2).1, ⟨(((((h).2 c57_2)).2).2).1, (have h := (((((h).2 c57_2)).2).2).2; ⟨(Nat.lt_of_lt_of_le (by decide) hn), rfl, (h).1, (h).2⟩)⟩⟩⟩⟩⟩)
set_option maxRecDepth 8000 in
theorem zp_BOatk34_86 {n K : Nat} {W : zW} {post : zPo} {s y i d l a k : Int} {u8 u9 : Option zv} (hK : 52 ≤ K) (hn : 142 ≤ n) (h : (l < k → (-2147483648 ≤ i + 1 ∧ i + 1 ≤ 2147483647) ∧ zwp jtb zsh n zm_BOatk34 post (K - 5) (lGo ak_ZBOatk34 54) 54 [some (.inr (.inr (some (.inl 34)))), some (.inl (s)), some (.inl (y)), some (.inl (i + 1)), some (.inl (d)), some (.inl (l)), some (.inl (a)), some (.inl (k)), u8, u9] [] W) ∧ (¬ l < k → (-2147483648 ≤ a + d ∧ a + d ≤ 2147483647) ∧ (0 ≤ (a + d) ∧ (a + d) < 64) ∧ (¬ (W.2.1 35 (a + d)) = 0 → (-2147483648 ≤ (W.2.1 35 (a + d)) ∧ (W.2.1 35 (a + d)) ≤ 2147483647) ∧ ∀ t0 : Int, t0 = (W.2.1 35 (a + d)) / 8 → (¬ t0 = y → (-2147483648 ≤ i + 1 ∧ i + 1 ≤ 2147483647) ∧ zwp jtb zsh n zm_BOatk34 post (K - 21) (lGo ak_ZBOatk34 54) 54 [some (.inr (.inr (some (.inl 34)))), some (.inl (s)), some (.inl (y)), some (.inl (i + 1)), some (.inl (d)), some (.inl (l)), some (.inl (a + d)), some (.inl (k)), some (.inl (W.2.1 35 (a + d))), u9] [] W) ∧ (t0 = y → (0 ≤ (W.2.1 35 (a + d)) ∧ (W.2.1 35 (a + d)) ≤ 2147483647) ∧ ∀ t1 : Int, t1 = (W.2.1 35 (a + d)) % 8 → (t1 = 5 → post (some (.inl (1))) W) ∧ (¬ t1 = 5 → (4 ≤ i → (t1 = 3 → post (some (.inl (1))) W) ∧ (¬ t1 = 3 → (¬ k = 1 → (-2147483648 ≤ i + 1 ∧ i + 1 ≤ 2147483647) ∧ zwp jtb zsh n zm_BOatk34 post (K - 38) (lGo ak_ZBOatk34 54) 54 [some (.inr (.inr (some (.inl 34)))), some (.inl (s)), some (.inl (y)), some (.inl (i + 1)), some (.inl (d)), some (.inl (l)), some (.inl (a + d)), some (.inl (k)), some (.inl (W.2.1 35 (a + d))), some (.inl (t1))] [] W) ∧ (k = 1 → (t1 = 6 → post (some (.inl (1))) W) ∧ (¬ t1 = 6 → (¬ t1 = 1 → (-2147483648 ≤ i + 1 ∧ i + 1 ≤ 2147483647) ∧ zwp jtb zsh n zm_BOatk34 post (K - 44) (lGo ak_ZBOatk34 54) 54 [some (.inr (.inr (some (.inl 34)))), some (.inl (s)), some (.inl (y)), some (.inl (i + 1)), some (.inl (d)), some (.inl (l)), some (.inl (a + d)), some (.inl (k)), some (.inl (W.2.1 35 (a + d))), some (.inl (t1))] [] W) ∧ (t1 = 1 → (i < 4 → (-2147483648 ≤ i + 1 ∧ i + 1 ≤ 2147483647) ∧ zwp jtb zsh n zm_BOatk34 post (K - 47) (lGo ak_ZBOatk34 54) 54 [some (.inr (.inr (some (.inl 34)))), some (.inl (s)), some (.inl (y)), some (.inl (i + 1)), some (.inl (d)), some (.inl (l)), some (.inl (a + d)), some (.inl (k)), some (.inl (W.2.1 35 (a + d))), some (.inl (t1))] [] W) ∧ (¬ i < 4 → (¬ y = 0 → (d ≤ 0 → (-2147483648 ≤ i + 1 ∧ i + 1 ≤ 2147483647) ∧ zwp jtb zsh n zm_BOatk34 post (K - 51) (lGo ak_ZBOatk34 54) 54 [some (.inr (.inr (some (.inl 34)))), some (.inl (s)), some (.inl (y)), some (.inl (i + 1)), some (.inl (d)), some (.inl (l)), some (.inl (a + d)), some (.inl (k)), some (.inl (W.2.1 35 (a + d))), some (.inl (t1))] [] W) ∧ (¬ d ≤ 0 → post (some (.inl (1))) W)) ∧ (y = 0 → (0 ≤ d → (-2147483648 ≤ i + 1 ∧ i + 1 ≤ 2147483647) ∧ zwp jtb zsh n zm_BOatk34 post (K - 51) (lGo ak_ZBOatk34 54) 54 [some (.inr (.inr (some (.inl 34)))), some (.inl (s)), some (.inl (y)), some (.inl (i + 1)), some (.inl (d)), some (.inl (l)), some (.inl (a + d)), some (.inl (k)), some (.inl (W.2.1 35 (a + d))), some (.inl (t1))] [] W) ∧ (¬ 0 ≤ d → post (some (.inl (1))) W)))))))) ∧ (¬ 4 ≤ i → (t1 = 4 → post (some (.inl (1))) W) ∧ (¬ t1 = 4 → (¬ k = 1 → (-2147483648 ≤ i + 1 ∧ i + 1 ≤ 2147483647) ∧ zwp jtb zsh n zm_BOatk34 post (K - 39) (lGo ak_ZBOatk34 54) 54 [some (.inr (.inr (some (.inl 34)))), some (.inl (s)), some (.inl (y)), some (.inl (i + 1)), some (.inl (d)), some (.inl (l)), some (.inl (a + d)), some (.inl (k)), some (.inl (W.2.1 35 (a + d))), some (.inl (t1))] [] W) ∧ (k = 1 → (t1 = 6 → post (some (.inl (1))) W) ∧ (¬ t1 = 6 → (¬ t1 = 1 → (-2147483648 ≤ i + 1 ∧ i + 1 ≤ 2147483647) ∧ zwp jtb zsh n zm_BOatk34 post (K - 45) (lGo ak_ZBOatk34 54) 54 [some (.inr (.inr (some (.inl 34)))), some (.inl (s)), some (.inl (y)), some (.inl (i + 1)), some (.inl (d)), some (.inl (l)), some (.inl (a + d)), some (.inl (k)), some (.inl (W.2.1 35 (a + d))), some (.inl (t1))] [] W) ∧ (t1 = 1 → (i < 4 → (-2147483648 ≤ i + 1 ∧ i + 1 ≤ 2147483647) ∧ zwp jtb zsh n zm_BOatk34 post (K - 48) (lGo ak_ZBOatk34 54) 54 [some (.inr (.inr (some (.inl 34)))), some (.inl (s)), some (.inl (y)), some (.inl (i + 1)), some (.inl (d)), some (.inl (l)), some (.inl (a + d)), some (.inl (k)), some (.inl (W.2.1 35 (a + d))), some (.inl (t1))] [] W) ∧ (¬ i < 4 → (¬ y = 0 → (d ≤ 0 → (-2147483648 ≤ i + 1 ∧ i + 1 ≤ 2147483647) ∧ zwp jtb zsh n zm_BOatk34 post (K - 52) (lGo ak_ZBOatk34 54) 54 [some (.inr (.inr (some (.inl 34)))), some (.inl (s)), some (.inl (y)), some (.inl (i + 1)), some (.inl (d)), some (.inl (l)), some (.inl (a + d)), some (.inl (k)), some (.inl (W.2.1 35 (a + d))), some (.inl (t1))] [] W) ∧ (¬ d ≤ 0 → post (some (.inl (1))) W)) ∧ (y = 0 → (0 ≤ d → (-2147483648 ≤ i + 1 ∧ i + 1 ≤ 2147483647) ∧ zwp jtb zsh n zm_BOatk34 post (K - 52) (lGo ak_ZBOatk34 54) 54 [some (.inr (.inr (some (.inl 34)))), some (.inl (s)), some (.inl (y)), some (.inl (i + 1)), some (.inl (d)), some (.inl (l)), some (.inl (a + d)), some (.inl (k)), some (.inl (W.2.1 35 (a + d))), some (.inl (t1))] [] W) ∧ (¬ 0 ≤ d → post (some (.inl (1))) W))))))))))) ∧ ((W.2.1 35 (a + d)) = 0 → (-2147483648 ≤ k + 1 ∧ k + 1 ≤ 2147483647) ∧ zwp jtb zsh n zm_BOatk34 post (K - 17) (lGo ak_ZBOatk34 86) 86 [some (.inr (.inr (some (.inl 34)))), some (.inl (s)), some (.inl (y)), some (.inl (i)), some (.inl (d)), some (.inl (l)), some (.inl (a + d)), some (.inl (k + 1)), some (.inl (W.2.1 35 (a + d))), u9] [] W))) : zwp jtb zsh n zm_BOatk34 post K (lGo ak_ZBOatk34 86) 86 [some (.inr (.inr (some (.inl 34)))), some (.inl (s)), some (.inl (y)), some (.inl (i)), some (.inl (d)), some (.inl (l)), some (.inl (a)), some (.inl (k)), u8, u9] [] W := by
  obtain ⟨kk__, rfl⟩ : ∃ kk__, K = kk__ + 52 := ⟨K - 52, by omega⟩
  exact (show (l < k → (-2147483648 ≤ i + 1 ∧ i + 1 ≤ 2147483647) ∧ zwp jtb zsh n zm_BOatk34 post (kk__ + 47) (lGo ak_ZBOatk34 54) 54 [some (.inr (.inr (some (.inl 34)))), some (.inl (s)), some (.inl (y)), some (.inl (i + 1)), some (.inl (d)), some (.inl (l)), some (.inl (a)), some (.inl (k)), u8, u9] [] W) ∧ (¬ l < k → (-2147483648 ≤ a + d ∧ a + d ≤ 2147483647) ∧ 34 < n ∧ 10 = 10 ∧ 35 < n ∧ FieldType.int = FieldType.int ∧ (0 ≤ (a + d) ∧ (a + d) < 64) ∧ (¬ (W.2.1 35 (a + d)) = 0 → (¬ ((lI (W.2.1 35 (a + d)) >>> (lI 3 &&& 31)).toInt) = y → (-2147483648 ≤ i + 1 ∧ i + 1 ≤ 2147483647) ∧ zwp jtb zsh n zm_BOatk34 post (kk__ + 31) (lGo ak_ZBOatk34 54) 54 [some (.inr (.inr (some (.inl 34)))), some (.inl (s)), some (.inl (y)), some (.inl (i + 1)), some (.inl (d)), some (.inl (l)), some (.inl (a + d)), some (.inl (k)), some (.inl (W.2.1 35 (a + d))), u9] [] W) ∧ (((lI (W.2.1 35 (a + d)) >>> (lI 3 &&& 31)).toInt) = y → (((lI (W.2.1 35 (a + d)) &&& lI 7).toInt) = 5 → 1 = 1 ∧ ((1 : Int) = 0 ∨ (1 : Int) = 1) ∧ post (some (.inl (1))) W) ∧ (¬ ((lI (W.2.1 35 (a + d)) &&& lI 7).toInt) = 5 → (4 ≤ i → (((lI (W.2.1 35 (a + d)) &&& lI 7).toInt) = 3 → 1 = 1 ∧ ((1 : Int) = 0 ∨ (1 : Int) = 1) ∧ post (some (.inl (1))) W) ∧ (¬ ((lI (W.2.1 35 (a + d)) &&& lI 7).toInt) = 3 → (¬ k = 1 → (-2147483648 ≤ i + 1 ∧ i + 1 ≤ 2147483647) ∧ zwp jtb zsh n zm_BOatk34 post (kk__ + 14) (lGo ak_ZBOatk34 54) 54 [some (.inr (.inr (some (.inl 34)))), some (.inl (s)), some (.inl (y)), some (.inl (i + 1)), some (.inl (d)), some (.inl (l)), some (.inl (a + d)), some (.inl (k)), some (.inl (W.2.1 35 (a + d))), some (.inl (((lI (W.2.1 35 (a + d)) &&& lI 7).toInt)))] [] W) ∧ (k = 1 → (((lI (W.2.1 35 (a + d)) &&& lI 7).toInt) = 6 → 1 = 1 ∧ ((1 : Int) = 0 ∨ (1 : Int) = 1) ∧ post (some (.inl (1))) W) ∧ (¬ ((lI (W.2.1 35 (a + d)) &&& lI 7).toInt) = 6 → (¬ ((lI (W.2.1 35 (a + d)) &&& lI 7).toInt) = 1 → (-2147483648 ≤ i + 1 ∧ i + 1 ≤ 2147483647) ∧ zwp jtb zsh n zm_BOatk34 post (kk__ + 8) (lGo ak_ZBOatk34 54) 54 [some (.inr (.inr (some (.inl 34)))), some (.inl (s)), some (.inl (y)), some (.inl (i + 1)), some (.inl (d)), some (.inl (l)), some (.inl (a + d)), some (.inl (k)), some (.inl (W.2.1 35 (a + d))), some (.inl (((lI (W.2.1 35 (a + d)) &&& lI 7).toInt)))] [] W) ∧ (((lI (W.2.1 35 (a + d)) &&& lI 7).toInt) = 1 → (i < 4 → (-2147483648 ≤ i + 1 ∧ i + 1 ≤ 2147483647) ∧ zwp jtb zsh n zm_BOatk34 post (kk__ + 5) (lGo ak_ZBOatk34 54) 54 [some (.inr (.inr (some (.inl 34)))), some (.inl (s)), some (.inl (y)), some (.inl (i + 1)), some (.inl (d)), some (.inl (l)), some (.inl (a + d)), some (.inl (k)), some (.inl (W.2.1 35 (a + d))), some (.inl (((lI (W.2.1 35 (a + d)) &&& lI 7).toInt)))] [] W) ∧ (¬ i < 4 → (¬ y = 0 → (d ≤ 0 → (-2147483648 ≤ i + 1 ∧ i + 1 ≤ 2147483647) ∧ zwp jtb zsh n zm_BOatk34 post (kk__ + 1) (lGo ak_ZBOatk34 54) 54 [some (.inr (.inr (some (.inl 34)))), some (.inl (s)), some (.inl (y)), some (.inl (i + 1)), some (.inl (d)), some (.inl (l)), some (.inl (a + d)), some (.inl (k)), some (.inl (W.2.1 35 (a + d))), some (.inl (((lI (W.2.1 35 (a + d)) &&& lI 7).toInt)))] [] W) ∧ (¬ d ≤ 0 → 1 = 1 ∧ ((1 : Int) = 0 ∨ (1 : Int) = 1) ∧ post (some (.inl (1))) W)) ∧ (y = 0 → (0 ≤ d → (-2147483648 ≤ i + 1 ∧ i + 1 ≤ 2147483647) ∧ zwp jtb zsh n zm_BOatk34 post (kk__ + 1) (lGo ak_ZBOatk34 54) 54 [some (.inr (.inr (some (.inl 34)))), some (.inl (s)), some (.inl (y)), some (.inl (i + 1)), some (.inl (d)), some (.inl (l)), some (.inl (a + d)), some (.inl (k)), some (.inl (W.2.1 35 (a + d))), some (.inl (((lI (W.2.1 35 (a + d)) &&& lI 7).toInt)))] [] W) ∧ (¬ 0 ≤ d → 1 = 1 ∧ ((1 : Int) = 0 ∨ (1 : Int) = 1) ∧ post (some (.inl (1))) W)))))))) ∧ (¬ 4 ≤ i → (((lI (W.2.1 35 (a + d)) &&& lI 7).toInt) = 4 → 1 = 1 ∧ ((1 : Int) = 0 ∨ (1 : Int) = 1) ∧ post (some (.inl (1))) W) ∧ (¬ ((lI (W.2.1 35 (a + d)) &&& lI 7).toInt) = 4 → (¬ k = 1 → (-2147483648 ≤ i + 1 ∧ i + 1 ≤ 2147483647) ∧ zwp jtb zsh n zm_BOatk34 post (kk__ + 13) (lGo ak_ZBOatk34 54) 54 [some (.inr (.inr (some (.inl 34)))), some (.inl (s)), some (.inl (y)), some (.inl (i + 1)), some (.inl (d)), some (.inl (l)), some (.inl (a + d)), some (.inl (k)), some (.inl (W.2.1 35 (a + d))), some (.inl (((lI (W.2.1 35 (a + d)) &&& lI 7).toInt)))] [] W) ∧ (k = 1 → (((lI (W.2.1 35 (a + d)) &&& lI 7).toInt) = 6 → 1 = 1 ∧ ((1 : Int) = 0 ∨ (1 : Int) = 1) ∧ post (some (.inl (1))) W) ∧ (¬ ((lI (W.2.1 35 (a + d)) &&& lI 7).toInt) = 6 → (¬ ((lI (W.2.1 35 (a + d)) &&& lI 7).toInt) = 1 → (-2147483648 ≤ i + 1 ∧ i + 1 ≤ 2147483647) ∧ zwp jtb zsh n zm_BOatk34 post (kk__ + 7) (lGo ak_ZBOatk34 54) 54 [some (.inr (.inr (some (.inl 34)))), some (.inl (s)), some (.inl (y)), some (.inl (i + 1)), some (.inl (d)), some (.inl (l)), some (.inl (a + d)), some (.inl (k)), some (.inl (W.2.1 35 (a + d))), some (.inl (((lI (W.2.1 35 (a + d)) &&& lI 7).toInt)))] [] W) ∧ (((lI (W.2.1 35 (a + d)) &&& lI 7).toInt) = 1 → (i < 4 → (-2147483648 ≤ i + 1 ∧ i + 1 ≤ 2147483647) ∧ zwp jtb zsh n zm_BOatk34 post (kk__ + 4) (lGo ak_ZBOatk34 54) 54 [some (.inr (.inr (some (.inl 34)))), some (.inl (s)), some (.inl (y)), some (.inl (i + 1)), some (.inl (d)), some (.inl (l)), some (.inl (a + d)), some (.inl (k)), some (.inl (W.2.1 35 (a + d))), some (.inl (((lI (W.2.1 35 (a + d)) &&& lI 7).toInt)))] [] W) ∧ (¬ i < 4 → (¬ y = 0 → (d ≤ 0 → (-2147483648 ≤ i + 1 ∧ i + 1 ≤ 2147483647) ∧ zwp jtb zsh n zm_BOatk34 post (kk__ + 0) (lGo ak_ZBOatk34 54) 54 [some (.inr (.inr (some (.inl 34)))), some (.inl (s)), some (.inl (y)), some (.inl (i + 1)), some (.inl (d)), some (.inl (l)), some (.inl (a + d)), some (.inl (k)), some (.inl (W.2.1 35 (a + d))), some (.inl (((lI (W.2.1 35 (a + d)) &&& lI 7).toInt)))] [] W) ∧ (¬ d ≤ 0 → 1 = 1 ∧ ((1 : Int) = 0 ∨ (1 : Int) = 1) ∧ post (some (.inl (1))) W)) ∧ (y = 0 → (0 ≤ d → (-2147483648 ≤ i + 1 ∧ i + 1 ≤ 2147483647) ∧ zwp jtb zsh n zm_BOatk34 post (kk__ + 0) (lGo ak_ZBOatk34 54) 54 [some (.inr (.inr (some (.inl 34)))), some (.inl (s)), some (.inl (y)), some (.inl (i + 1)), some (.inl (d)), some (.inl (l)), some (.inl (a + d)), some (.inl (k)), some (.inl (W.2.1 35 (a + d))), some (.inl (((lI (W.2.1 35 (a + d)) &&& lI 7).toInt)))] [] W) ∧ (¬ 0 ≤ d → 1 = 1 ∧ ((1 : Int) = 0 ∨ (1 : Int) = 1) ∧ post (some (.inl (1))) W))))))))))) ∧ ((W.2.1 35 (a + d)) = 0 → (-2147483648 ≤ k + 1 ∧ k + 1 ≤ 2147483647) ∧ zwp jtb zsh n zm_BOatk34 post (kk__ + 35) (lGo ak_ZBOatk34 86) 86 [some (.inr (.inr (some (.inl 34)))), some (.inl (s)), some (.inl (y)), some (.inl (i)), some (.inl (d)), some (.inl (l)), some (.inl (a + d)), some (.inl (k + 1)), some (.inl (W.2.1 35 (a + d))), u9] [] W)) from ⟨fun c90_2 => ⟨(((h).1 c90_2)).1, (((h).1 c90_2)).2⟩, fun c90_2 => ⟨(((h).2 c90_2)).1, ⟨(Nat.lt_of_lt_of_le (by decide) hn), rfl, ⟨(Nat.lt_of_lt_of_le (by decide) hn), rfl, ((((h).2 c90_2)).2).1, ⟨fun c111_13 => (have h := ((((((h).2 c90_2)).2).2).1 c111_13); ⟨fun c122_18 => (have h := ((((h).2 _ (z_sr3 (h).1))).1 c122_18); ⟨(h).1, (h).2⟩), fun c122_18 => (have h := ((((h).2 _ (z_sr3 (h).1))).2 c122_18); ⟨fun c135_25 => (have h := ((((h).2 _ (z_an7 (h).1))).1 c135_25); ⟨rfl, Or.inr rfl, h⟩), fun c135_25 => (have h := ((((h).2 _ (z_an7 (h).1))).2 c135_25); ⟨fun c142_29 => ⟨fun c150_31 => (have h := ((((h).1 c142_29)).1 c150_31); ⟨rfl, Or.inr rfl, h⟩), fun c150_31 => (have h := ((((h).1 c142_29)).2 c150_31); ⟨fun c156_34 => ⟨(((h).1 c156_34)).1, (((h).1 c156_34)).2⟩, fun c156_34 => ⟨fun c163_37 => (have h := ((((h).2 c156_34)).1 c163_37); ⟨rfl, Or.inr rfl, h⟩), fun c163_37 => (have h := ((((h).2 c156_34)).2 c163_37); ⟨fun c169_40 => ⟨(((h).1 c169_40)).1, (((h).1 c169_40)).2⟩, fun c169_40 => ⟨fun c174_43 => (have h := ((((h).2 c169_40)).1 c174_43); ⟨(h).1, (h).2⟩), fun c174_43 => (have h := ((((h).2 c169_40)).2 c174_43); ⟨fun c178_45 => ⟨fun c191_47 => (have h := ((((h).1 c178_45)).1 c191_47); ⟨(h).1, (h).2⟩), fun c191_47 => (have h := ((((h).1 c178_45)).2 c191_47); ⟨rfl, Or.inr rfl, h⟩)⟩, fun c178_45 => ⟨fun c183_47 => (have h := ((((h).2 c178_45)).1 c183_47); ⟨(h).1, (h).2⟩), fun c183_47 => (have h := ((((h).2 c178_45)).2 c183_47); ⟨rfl, Or.inr rfl, h⟩)⟩⟩)⟩⟩)⟩⟩)⟩, fun c142_29 => ⟨fun c150_32 => (have h := ((((h).2 c142_29)).1 c150_32); ⟨rfl, Or.inr rfl, h⟩), fun c150_32 => (have h := ((((h).2 c142_29)).2 c150_32); ⟨fun c156_35 => ⟨(((h).1 c156_35)).1, (((h).1 c156_35)).2⟩, fun c156_35 => ⟨fun c163_38 => (have h := ((((h).2 c156_35)).1 c163_38); ⟨rfl, Or.inr rfl, h⟩), fun c163_38 => (have h := ((((h).2 c156_35)).2 c163_38); ⟨fun c169_41 => ⟨(((h).1 c169_41)).1, (((h).1 c169_41)).2⟩, fun c169_41 => ⟨fun c174_44 => (have h := ((((h).2 c169_41)).1 c174_44); ⟨(h).1, (h).2⟩), fun c174_44 => (have h := ((((h).2 c169_41)).2 c174_44); ⟨fun c178_46 => ⟨fun c191_48 => (have h := ((((h).1 c178_46)).1 c191_48); ⟨(h).1, (h).2⟩), fun c191_48 => (have h := ((((h).1 c178_46)).2 c191_48); ⟨rfl, Or.inr rfl, h⟩)⟩, fun c178_46 => ⟨fun c183_48 => (have h := ((((h).2 c178_46)).1 c183_48); ⟨(h).1, (h).2⟩), fun c183_48 => (have h := ((((h).2 c178_46)).2 c183_48); ⟨rfl, Or.inr rfl, h⟩)⟩⟩)⟩⟩)⟩⟩)⟩⟩)⟩)⟩), fun c111_13 => (have h := ((((((h).2 c90_2)).2).2).2 c111_13); ⟨(h).1, (h).2⟩)⟩⟩⟩⟩⟩)
set_option maxRecDepth 100000 in
theorem zk_BOatk34 {l : Launch} {E : jE} {n : Nat} (hn : 142 ≤ n) : zHas l E jcl jtb lw_tbl zsh n (y_BO_attacked, false, 3, 10, { frames := 0, cells := 0, slots := 0, locals := 0 }, zc_BOatk34) := by
  refine ⟨⟨rfl, rfl, ⟨show 1 ≤ 3 by decide, m_BO_attacked, i_BO_attacked, e_BO_attacked, fun _ => ⟨_, rfl, rfl⟩⟩⟩, ?_⟩
  rintro vz W po hO hW ⟨s, y, rfl, hq, hp⟩
  refine zmet (m := zm_BOatk34) rfl (by decide) (fun _ _ => jtF_ok) lo_BO ao_ZBOatk34 jC (fun q h => by cases h) (fun q h => by cases h) (fun q h => by cases h) (Nat.le_of_ble_eq_true rfl) hO hW (8000) ?_
  obtain ⟨hT, hM, hs, hy⟩ := hq
  have mv : ∀ t : Int, 0 ≤ t → t < 64 → 0 ≤ W.2.1 35 t ∧ W.2.1 35 t ≤ 14 := hM
  have rt : ∀ t i : Int, 0 ≤ t → t < 64 → 0 ≤ i → i < 8 → W.2.1 42 (8 * t + i) = fRc t i := hT.1
  have ht : ∀ t i : Int, 0 ≤ t → t < 64 → 0 ≤ i → i < 8 → W.2.1 43 (8 * t + i) = fHp t.toNat i.toNat := hT.2
  have h54 : ∀ (m K : Nat) (i : Int) (u4 u5 u6 u7 u8 u9 : Option zv), 800 * m + 60 ≤ K → (8 - i ≤ m ∧ 0 ≤ i ∧ i ≤ 8) → ¬ cHo (W.2.1 35) s y → (∀ j, 0 ≤ j → j < i → ¬ cRy (W.2.1 35) s y j) → zwp jtb zsh n zm_BOatk34 po K (lGo ak_ZBOatk34 54) 54 [some (.inr (.inr (some (.inl 34)))), some (.inl s), some (.inl y), some (.inl (i)), u4, u5, u6, u7, u8, u9] [] W := by
    intro m
    induction m with
    | zero =>
      intro K i u4 u5 u6 u7 u8 u9 hK hm nH hI
      have c9 : 8 ≤ i := by omega
      exact zp_BOatk34_54 (by omega) hn ⟨fun c57 => (hp _ (Or.inr ⟨rfl, fun z => z.elim nH (fun ⟨j, j0, j1, j2⟩ => hI j j0 (by omega) j2)⟩)), fun z => absurd c9 z⟩
    | succ m ih =>
      intro K i u4 u5 u6 u7 u8 u9 hK hm nH hI
      have up : ∀ (K : Nat) (v4 v5 v6 v7 v8 v9 : Option zv), 800 * m + 60 ≤ K ∧ i < 8 → ¬ cRy (W.2.1 35) s y i → zwp jtb zsh n zm_BOatk34 po K (lGo ak_ZBOatk34 54) 54 [some (.inr (.inr (some (.inl 34)))), some (.inl s), some (.inl y), some (.inl (i + 1)), v4, v5, v6, v7, v8, v9] [] W := by
        intro K v4 v5 v6 v7 v8 v9 hK nr
        exact ih K (i + 1) v4 v5 v6 v7 v8 v9 (by omega) (by omega) nH (fun j a z => if ej : j = i then (by rw [ej]; exact nr) else hI j a (by omega))
      clear ih
      have h86 : ∀ (m' K : Nat) (d l a k : Int) (u8 u9 : Option zv), 80 * m' + 60 + (800 * m + 60) ≤ K ∧ i < 8 → (8 - k < m' ∧ 1 ≤ k ∧ k ≤ 8) → d = fSt i → l = fRc s i → a = s + (k - 1) * d → cEm (W.2.1 35) s i k → zwp jtb zsh n zm_BOatk34 po K (lGo ak_ZBOatk34 86) 86 [some (.inr (.inr (some (.inl 34)))), some (.inl s), some (.inl y), some (.inl (i)), some (.inl (d)), some (.inl (l)), some (.inl (a)), some (.inl (k)), u8, u9] [] W := by
        intro m'
        induction m' with
        | zero => intro K d l a k u8 u9 hK hm; omega
        | succ m' ih =>
          intro K d l a k u8 u9 hK hm ed el ea he
          have lr := ca_r hs (i := i) (by omega)
          rw [← el] at lr
          have em : s + k * fSt i = a + d := by
            rw [← ed, ea, Int.sub_mul, Int.one_mul]; omega
          have rr : k ≤ l → 0 ≤ a + d ∧ a + d ≤ 63 := by
            intro z
            rw [← em]
            exact ca_p hs (by omega) (by omega) (by omega)
          have mr : k ≤ l → 0 ≤ W.2.1 35 (a + d) ∧ W.2.1 35 (a + d) ≤ 14 := fun z => mv _ (rr z).1 (by have := (rr z).2; omega)
          have ds : -9 ≤ d ∧ d ≤ 9 := by rw [ed]; unfold fSt; (repeat' split) <;> omega
          exact zp_BOatk34_86 (by omega) hn ⟨fun c90 => ⟨(by omega), (up _ _ _ _ _ _ _ (by omega) (by first | exact ca_n (by omega) he | exact ca_y (by omega) he (by rw [em]; omega) (by rw [em]; unfold fHit; rw [← ed]; omega)))⟩, fun c90 => ⟨(by omega), ⟨(by omega), ⟨fun c111 => ⟨(by omega), fun t0 e0 => ⟨fun c122 => ⟨(by omega), (up _ _ _ _ _ _ _ (by omega) (by first | exact ca_n (by omega) he | exact ca_y (by omega) he (by rw [em]; omega) (by rw [em]; unfold fHit; rw [← ed]; omega)))⟩, fun c122 => ⟨(by omega), fun t1 e1 => ⟨fun c135 => (hp _ (Or.inl ⟨rfl, Or.inr ⟨i, by omega, by omega, k, by omega, by omega, he, by rw [em]; omega, by rw [em]; unfold fHit; rw [← ed]; omega⟩⟩)), fun c135 => ⟨fun c142 => ⟨fun c150 => (hp _ (Or.inl ⟨rfl, Or.inr ⟨i, by omega, by omega, k, by omega, by omega, he, by rw [em]; omega, by rw [em]; unfold fHit; rw [← ed]; omega⟩⟩)), fun c150 => ⟨fun c156 => ⟨(by omega), (up _ _ _ _ _ _ _ (by omega) (by first | exact ca_n (by omega) he | exact ca_y (by omega) he (by rw [em]; omega) (by rw [em]; unfold fHit; rw [← ed]; omega)))⟩, fun c156 => ⟨fun c163 => (hp _ (Or.inl ⟨rfl, Or.inr ⟨i, by omega, by omega, k, by omega, by omega, he, by rw [em]; omega, by rw [em]; unfold fHit; rw [← ed]; omega⟩⟩)), fun c163 => ⟨fun c169 => ⟨(by omega), (up _ _ _ _ _ _ _ (by omega) (by first | exact ca_n (by omega) he | exact ca_y (by omega) he (by rw [em]; omega) (by rw [em]; unfold fHit; rw [← ed]; omega)))⟩, fun c169 => ⟨fun c174 => ⟨(by omega), (up _ _ _ _ _ _ _ (by omega) (by first | exact ca_n (by omega) he | exact ca_y (by omega) he (by rw [em]; omega) (by rw [em]; unfold fHit; rw [← ed]; omega)))⟩, fun c174 => ⟨fun c178 => ⟨fun c191 => ⟨(by omega), (up _ _ _ _ _ _ _ (by omega) (by first | exact ca_n (by omega) he | exact ca_y (by omega) he (by rw [em]; omega) (by rw [em]; unfold fHit; rw [← ed]; omega)))⟩, fun c191 => (hp _ (Or.inl ⟨rfl, Or.inr ⟨i, by omega, by omega, k, by omega, by omega, he, by rw [em]; omega, by rw [em]; unfold fHit; rw [← ed]; omega⟩⟩))⟩, fun c178 => ⟨fun c183 => ⟨(by omega), (up _ _ _ _ _ _ _ (by omega) (by first | exact ca_n (by omega) he | exact ca_y (by omega) he (by rw [em]; omega) (by rw [em]; unfold fHit; rw [← ed]; omega)))⟩, fun c183 => (hp _ (Or.inl ⟨rfl, Or.inr ⟨i, by omega, by omega, k, by omega, by omega, he, by rw [em]; omega, by rw [em]; unfold fHit; rw [← ed]; omega⟩⟩))⟩⟩⟩⟩⟩⟩⟩, fun c142 => ⟨fun c150 => (hp _ (Or.inl ⟨rfl, Or.inr ⟨i, by omega, by omega, k, by omega, by omega, he, by rw [em]; omega, by rw [em]; unfold fHit; rw [← ed]; omega⟩⟩)), fun c150 => ⟨fun c156 => ⟨(by omega), (up _ _ _ _ _ _ _ (by omega) (by first | exact ca_n (by omega) he | exact ca_y (by omega) he (by rw [em]; omega) (by rw [em]; unfold fHit; rw [← ed]; omega)))⟩, fun c156 => ⟨fun c163 => (hp _ (Or.inl ⟨rfl, Or.inr ⟨i, by omega, by omega, k, by omega, by omega, he, by rw [em]; omega, by rw [em]; unfold fHit; rw [← ed]; omega⟩⟩)), fun c163 => ⟨fun c169 => ⟨(by omega), (up _ _ _ _ _ _ _ (by omega) (by first | exact ca_n (by omega) he | exact ca_y (by omega) he (by rw [em]; omega) (by rw [em]; unfold fHit; rw [← ed]; omega)))⟩, fun c169 => ⟨fun c174 => ⟨(by omega), (up _ _ _ _ _ _ _ (by omega) (by first | exact ca_n (by omega) he | exact ca_y (by omega) he (by rw [em]; omega) (by rw [em]; unfold fHit; rw [← ed]; omega)))⟩, fun c174 => ⟨fun c178 => ⟨fun c191 => ⟨(by omega), (up _ _ _ _ _ _ _ (by omega) (by first | exact ca_n (by omega) he | exact ca_y (by omega) he (by rw [em]; omega) (by rw [em]; unfold fHit; rw [← ed]; omega)))⟩, fun c191 => (hp _ (Or.inl ⟨rfl, Or.inr ⟨i, by omega, by omega, k, by omega, by omega, he, by rw [em]; omega, by rw [em]; unfold fHit; rw [← ed]; omega⟩⟩))⟩, fun c178 => ⟨fun c183 => ⟨(by omega), (up _ _ _ _ _ _ _ (by omega) (by first | exact ca_n (by omega) he | exact ca_y (by omega) he (by rw [em]; omega) (by rw [em]; unfold fHit; rw [← ed]; omega)))⟩, fun c183 => (hp _ (Or.inl ⟨rfl, Or.inr ⟨i, by omega, by omega, k, by omega, by omega, he, by rw [em]; omega, by rw [em]; unfold fHit; rw [← ed]; omega⟩⟩))⟩⟩⟩⟩⟩⟩⟩⟩⟩⟩⟩⟩, fun c111 => ⟨(by omega), (ih _ _ _ _ (k + 1) _ _ (by omega) (by omega) ed el (by rw [show k + 1 - 1 = k by omega]; rw [← ed] at em; exact em.symm) (fun q a z => if eq : q = k then (by rw [eq, em]; omega) else he q a (by omega)))⟩⟩⟩⟩⟩
      have rea : i < 8 → W.2.1 42 (s * 8 + i) = fRc s i := fun z => by rw [show s * 8 + i = 8 * s + i by omega]; exact rt s i hs.1 hs.2 (by omega) z
      exact zp_BOatk34_54 (by omega) hn ⟨fun c57 => (hp _ (Or.inr ⟨rfl, fun z => z.elim nH (fun ⟨j, j0, j1, j2⟩ => hI j j0 (by omega) j2)⟩)), fun c57 => ⟨(by omega), ⟨(by omega), ⟨(by omega), ⟨(by omega), (h86 8 _ _ _ _ 1 _ _ (by omega) (by omega) (ca_s (by omega)) (rea (by omega)) (by omega) (fun q a z => by omega))⟩⟩⟩⟩⟩
  have h5 : ∀ (m K : Nat) (i x : Int) (u4 u5 u6 u7 u8 u9 : Option zv), 80 * m + 6800 ≤ K → (8 - i ≤ m ∧ 0 ≤ i ∧ i ≤ 8) → x = 8 * s + i → (∀ j : Int, 0 ≤ j → j < i → ¬ (0 ≤ fHp s.toNat j.toNat ∧ W.2.1 35 (fHp s.toNat j.toNat) = 8 * y + 2)) → zwp jtb zsh n zm_BOatk34 po K (lGo ak_ZBOatk34 5) 5 [some (.inr (.inr (some (.inl 34)))), some (.inl s), some (.inl y), some (.inl (x)), u4, u5, u6, u7, u8, u9] [] W := by
    intro m
    induction m with
    | zero =>
      intro K i x u4 u5 u6 u7 u8 u9 hK hm ex hI
      have c9 : i = 8 := by omega
      exact zp_BOatk34_5 (by omega) hn ⟨by omega, by omega, ⟨fun c13 => (h54 8 _ 0 _ _ _ _ _ _ (by omega) (by omega) (fun ⟨j, j0, j1, j2⟩ => hI j (by omega) (by omega) ⟨j1, j2⟩) (fun j a z => by omega)), fun z => absurd z (by omega)⟩⟩
    | succ m ih =>
      intro K i x u4 u5 u6 u7 u8 u9 hK hm ex hI
      have fin : (8 ≤ i ∨ W.2.1 43 x < 0) → ¬ cHo (W.2.1 35) s y := by
        rintro h ⟨j, j0, j1, j2⟩
        rcases (by omega : (j : Int) < i ∨ i ≤ (j : Int)) with z | z
        · exact hI j (by omega) z ⟨j1, j2⟩
        · rcases h with h | h
          · omega
          · rw [ex, ht s i hs.1 hs.2 (by omega) (by omega)] at h
            exact absurd (ca_hn h (j := j) (by omega)) (by omega)
      have hpi : i < 8 → W.2.1 43 x = fHp s.toNat i.toNat := by
        intro z; rw [ex]; exact ht s i hs.1 hs.2 (by omega) z
      have h6 := ca_h6 (s := s.toNat) (i := i.toNat)
      have mr : i < 8 → 0 ≤ W.2.1 43 x → 0 ≤ W.2.1 35 (W.2.1 43 x) ∧ W.2.1 35 (W.2.1 43 x) ≤ 14 := fun z z2 => mv _ z2 (by have := hpi z; omega)
      have nx : i < 8 → ¬ (0 ≤ W.2.1 43 x ∧ W.2.1 35 (W.2.1 43 x) = 8 * y + 2) → (∀ j : Int, 0 ≤ j → j < i + 1 → ¬ (0 ≤ fHp s.toNat j.toNat ∧ W.2.1 35 (fHp s.toNat j.toNat) = 8 * y + 2)) := by
        intro h8 h j a z
        by_cases ej : j = i
        · rw [ej, ← hpi h8]; exact h
        · exact hI j a (by omega)
      exact zp_BOatk34_5 (by omega) hn ⟨(by omega), ⟨(by omega), ⟨fun c13 => (h54 8 _ 0 _ _ _ _ _ _ (by omega) (by omega) (fin (by first | exact Or.inl (by omega) | exact Or.inr (by omega))) (fun j a z => by omega)), fun c13 => ⟨(by omega), ⟨fun c22 => (h54 8 _ 0 _ _ _ _ _ _ (by omega) (by omega) (fin (by first | exact Or.inl (by omega) | exact Or.inr (by omega))) (fun j a z => by omega)), fun c22 => ⟨(by omega), ⟨(by omega), ⟨(by omega), fun t0 e0 => ⟨(by omega), fun t1 e1 => ⟨fun c41 => ⟨(by omega), (ih _ (i + 1) _ _ _ _ _ _ _ (by omega) (by omega) (by omega) (nx (by omega) (by omega)))⟩, fun c41 => (hp _ (Or.inl ⟨rfl, Or.inl ⟨i.toNat, by omega, by rw [← hpi (by omega)]; omega, by rw [← hpi (by omega)]; omega⟩⟩))⟩⟩⟩⟩⟩⟩⟩⟩⟩⟩
  exact zp_BOatk34_0 (by omega) hn ⟨(by omega), (h5 8 _ 0 _ _ _ _ _ _ _ (by omega) (by omega) (by omega) (fun j hj _ z => by omega))⟩
noncomputable def ak_ZBOatk61 : List jI := ak_ZBOatk34
theorem ao_ZBOatk61 : jokLG jtF lk_BO "ChessHouse$Board" jcl jtb 10 prog_3_method_10_code 0 ak_ZBOatk61 = true := ao_ZBOatk34
noncomputable def zm_BOatk61 : zM := (some .boolean, { frames := 0, cells := 0, slots := 0, locals := 0 }, ([], []), [], ak_ZBOatk61)
noncomputable def zc_BOatk61 (vals : List zv) (W : zW) (post : zPo) : Prop := ∃ s y : Int, vals = [.inr (.inr (some (.inl 61))), .inl (s), .inl (y)] ∧ (zBt W 61 ∧ zBm W 61 ∧ (0 ≤ s ∧ s < 64) ∧ (0 ≤ y ∧ y ≤ 1)) ∧ ∀ r : Int, (xBl r (cAk (W.2.1 62) s y)) → post (some (.inl r)) W
set_option maxRecDepth 8000 in
theorem zp_BOatk61_0 {n K : Nat} {W : zW} {post : zPo} {s y : Int} {u3 u4 u5 u6 u7 u8 u9 : Option zv} (hK : 4 ≤ K) (hn : 142 ≤ n) (h : (-2147483648 ≤ s * 8 ∧ s * 8 ≤ 2147483647) ∧ zwp jtb zsh n zm_BOatk61 post (K - 4) (lGo ak_ZBOatk61 5) 5 [some (.inr (.inr (some (.inl 61)))), some (.inl (s)), some (.inl (y)), some (.inl (s * 8)), u4, u5, u6, u7, u8, u9] [] W) : zwp jtb zsh n zm_BOatk61 post K (lGo ak_ZBOatk61 0) 0 [some (.inr (.inr (some (.inl 61)))), some (.inl (s)), some (.inl (y)), u3, u4, u5, u6, u7, u8, u9] [] W := by
  obtain ⟨kk__, rfl⟩ : ∃ kk__, K = kk__ + 4 := ⟨K - 4, by omega⟩
  exact (show (-2147483648 ≤ s * 8 ∧ s * 8 ≤ 2147483647) ∧ zwp jtb zsh n zm_BOatk61 post (kk__ + 0) (lGo ak_ZBOatk61 5) 5 [some (.inr (.inr (some (.inl 61)))), some (.inl (s)), some (.inl (y)), some (.inl (s * 8)), u4, u5, u6, u7, u8, u9] [] W from ⟨(h).1, (h).2⟩)
set_option maxRecDepth 8000 in
theorem zp_BOatk61_5 {n K : Nat} {W : zW} {post : zPo} {s y x : Int} {u4 u5 u6 u7 u8 u9 : Option zv} (hK : 27 ≤ K) (hn : 142 ≤ n) (h : (-2147483648 ≤ s * 8 ∧ s * 8 ≤ 2147483647) ∧ (-2147483648 ≤ (s * 8) + 8 ∧ (s * 8) + 8 ≤ 2147483647) ∧ (((s * 8) + 8) ≤ x → zwp jtb zsh n zm_BOatk61 post (K - 9) (lGo ak_ZBOatk61 54) 54 [some (.inr (.inr (some (.inl 61)))), some (.inl (s)), some (.inl (y)), some (.inl (0)), u4, u5, u6, u7, u8, u9] [] W) ∧ (¬ ((s * 8) + 8) ≤ x → (0 ≤ x ∧ x < 512) ∧ ((W.2.1 70 x) < 0 → zwp jtb zsh n zm_BOatk61 post (K - 14) (lGo ak_ZBOatk61 54) 54 [some (.inr (.inr (some (.inl 61)))), some (.inl (s)), some (.inl (y)), some (.inl (0)), u4, u5, u6, u7, u8, u9] [] W) ∧ (¬ (W.2.1 70 x) < 0 → (0 ≤ x ∧ x < 512) ∧ (0 ≤ (W.2.1 70 x) ∧ (W.2.1 70 x) < 64) ∧ (0 ≤ y ∧ y * 8 ≤ 2147483647) ∧ ∀ t0 : Int, t0 = y * 8 → (0 ≤ t0 ∧ t0 ≤ 2147483647 ∧ t0 % 4 = 0 ∧ 0 ≤ (2 : Int) ∧ (2 : Int) < 4) ∧ ∀ t1 : Int, t1 = t0 + 2 → (¬ (W.2.1 62 (W.2.1 70 x)) = t1 → (-2147483648 ≤ x + 1 ∧ x + 1 ≤ 2147483647) ∧ zwp jtb zsh n zm_BOatk61 post (K - 27) (lGo ak_ZBOatk61 5) 5 [some (.inr (.inr (some (.inl 61)))), some (.inl (s)), some (.inl (y)), some (.inl (x + 1)), u4, u5, u6, u7, u8, u9] [] W) ∧ ((W.2.1 62 (W.2.1 70 x)) = t1 → post (some (.inl (1))) W)))) : zwp jtb zsh n zm_BOatk61 post K (lGo ak_ZBOatk61 5) 5 [some (.inr (.inr (some (.inl 61)))), some (.inl (s)), some (.inl (y)), some (.inl (x)), u4, u5, u6, u7, u8, u9] [] W := by
  obtain ⟨kk__, rfl⟩ : ∃ kk__, K = kk__ + 27 := ⟨K - 27, by omega⟩
  exact (show (-2147483648 ≤ s * 8 ∧ s * 8 ≤ 2147483647) ∧ (-2147483648 ≤ (s * 8) + 8 ∧ (s * 8) + 8 ≤ 2147483647) ∧ (((s * 8) + 8) ≤ x → zwp jtb zsh n zm_BOatk61 post (kk__ + 18) (lGo ak_ZBOatk61 54) 54 [some (.inr (.inr (some (.inl 61)))), some (.inl (s)), some (.inl (y)), some (.inl (0)), u4, u5, u6, u7, u8, u9] [] W) ∧ (¬ ((s * 8) + 8) ≤ x → 61 < n ∧ 10 = 10 ∧ 70 < n ∧ FieldType.int = FieldType.int ∧ (0 ≤ x ∧ x < 512) ∧ ((W.2.1 70 x) < 0 → zwp jtb zsh n zm_BOatk61 post (kk__ + 13) (lGo ak_ZBOatk61 54) 54 [some (.inr (.inr (some (.inl 61)))), some (.inl (s)), some (.inl (y)), some (.inl (0)), u4, u5, u6, u7, u8, u9] [] W) ∧ (¬ (W.2.1 70 x) < 0 → 61 < n ∧ 10 = 10 ∧ 61 < n ∧ 10 = 10 ∧ 70 < n ∧ FieldType.int = FieldType.int ∧ (0 ≤ x ∧ x < 512) ∧ 62 < n ∧ FieldType.int = FieldType.int ∧ (0 ≤ (W.2.1 70 x) ∧ (W.2.1 70 x) < 64) ∧ (¬ (W.2.1 62 (W.2.1 70 x)) = ((lI ((lI y <<< (lI 3 &&& 31)).toInt) ||| lI 2).toInt) → (-2147483648 ≤ x + 1 ∧ x + 1 ≤ 2147483647) ∧ zwp jtb zsh n zm_BOatk61 post (kk__ + 0) (lGo ak_ZBOatk61 5) 5 [some (.inr (.inr (some (.inl 61)))), some (.inl (s)), some (.inl (y)), some (.inl (x + 1)), u4, u5, u6, u7, u8, u9] [] W) ∧ ((W.2.1 62 (W.2.1 70 x)) = ((lI ((lI y <<< (lI 3 &&& 31)).toInt) ||| lI 2).toInt) → 1 = 1 ∧ ((1 : Int) = 0 ∨ (1 : Int) = 1) ∧ post (some (.inl (1))) W))) from ⟨(h).1, ⟨((h).2).1, ⟨fun c13_6 => ((((h).2).2).1 c13_6), fun c13_6 => ⟨(Nat.lt_of_lt_of_le (by decide) hn), rfl, ⟨(Nat.lt_of_lt_of_le (by decide) hn), rfl, (((((h).2).2).2 c13_6)).1, (have h := (((((h).2).2).2 c13_6)).2; ⟨fun c22_11 => ((h).1 c22_11), fun c22_11 => ⟨(Nat.lt_of_lt_of_le (by decide) hn), rfl, ⟨(Nat.lt_of_lt_of_le (by decide) hn), rfl, ⟨(Nat.lt_of_lt_of_le (by decide) hn), rfl, (((h).2 c22_11)).1, ⟨(Nat.lt_of_lt_of_le (by decide) hn), rfl, ((((h).2 c22_11)).2).1, (have h := ((((((h).2 c22_11)).2).2).2 _ (z_sl3 (((((h).2 c22_11)).2).2).1)); ⟨fun c41_24 => (have h := ((((h).2 _ (z_or2 (h).1))).1 c41_24); ⟨(h).1, (h).2⟩), fun c41_24 => (have h := ((((h).2 _ (z_or2 (h).1))).2 c41_24); ⟨rfl, Or.inr rfl, h⟩)⟩)⟩⟩⟩⟩⟩)⟩⟩⟩⟩⟩)
set_option maxRecDepth 8000 in
theorem zp_BOatk61_54 {n K : Nat} {W : zW} {post : zPo} {s y i : Int} {u4 u5 u6 u7 u8 u9 : Option zv} (hK : 20 ≤ K) (hn : 142 ≤ n) (h : (8 ≤ i → post (some (.inl (0))) W) ∧ (¬ 8 ≤ i → (0 ≤ i ∧ i < 8) ∧ (-2147483648 ≤ s * 8 ∧ s * 8 ≤ 2147483647) ∧ (-2147483648 ≤ (s * 8) + i ∧ (s * 8) + i ≤ 2147483647) ∧ (0 ≤ ((s * 8) + i) ∧ ((s * 8) + i) < 512) ∧ zwp jtb zsh n zm_BOatk61 post (K - 20) (lGo ak_ZBOatk61 86) 86 [some (.inr (.inr (some (.inl 61)))), some (.inl (s)), some (.inl (y)), some (.inl (i)), some (.inl ((tv_0.getD i.toNat 0).toInt)), some (.inl (W.2.1 69 ((s * 8) + i))), some (.inl (s)), some (.inl (1)), u8, u9] [] W)) : zwp jtb zsh n zm_BOatk61 post K (lGo ak_ZBOatk61 54) 54 [some (.inr (.inr (some (.inl 61)))), some (.inl (s)), some (.inl (y)), some (.inl (i)), u4, u5, u6, u7, u8, u9] [] W := by
  obtain ⟨kk__, rfl⟩ : ∃ kk__, K = kk__ + 20 := ⟨K - 20, by omega⟩
  exact (show (8 ≤ i → 1 = 1 ∧ ((0 : Int) = 0 ∨ (0 : Int) = 1) ∧ post (some (.inl (0))) W) ∧ (¬ 8 ≤ i → FieldType.int = FieldType.int ∧ (0 ≤ i ∧ i < 8) ∧ 61 < n ∧ 10 = 10 ∧ (-2147483648 ≤ s * 8 ∧ s * 8 ≤ 2147483647) ∧ (-2147483648 ≤ (s * 8) + i ∧ (s * 8) + i ≤ 2147483647) ∧ 69 < n ∧ FieldType.int = FieldType.int ∧ (0 ≤ ((s * 8) + i) ∧ ((s * 8) + i) < 512) ∧ zwp jtb zsh n zm_BOatk61 post (kk__ + 0) (lGo ak_ZBOatk61 86) 86 [some (.inr (.inr (some (.inl 61)))), some (.inl (s)), some (.inl (y)), some (.inl (i)), some (.inl ((tv_0.getD i.toNat 0).toInt)), some (.inl (W.2.1 69 ((s * 8) + i))), some (.inl (s)), some (.inl (1)), u8, u9] [] W) from ⟨fun c57_2 => ⟨rfl, Or.inl rfl, ((h).1 c57_2)⟩, fun c57_2 => ⟨rfl, (((h).2 c57_2)).1, ⟨(Nat.lt_of_lt_of_le (by decide) hn), rfl, ⟨((((h).2 c57_2)).2).1, ⟨(((((h).2 c57_2)).2).2).1, (have h := (((((h).2 c57_2)).2).2).2; ⟨(Nat.lt_of_lt_of_le (by decide) hn), rfl, (h).1, (h).2⟩)⟩⟩⟩⟩⟩)
set_option maxRecDepth 8000 in
theorem zp_BOatk61_86 {n K : Nat} {W : zW} {post : zPo} {s y i d l a k : Int} {u8 u9 : Option zv} (hK : 52 ≤ K) (hn : 142 ≤ n) (h : (l < k → (-2147483648 ≤ i + 1 ∧ i + 1 ≤ 2147483647) ∧ zwp jtb zsh n zm_BOatk61 post (K - 5) (lGo ak_ZBOatk61 54) 54 [some (.inr (.inr (some (.inl 61)))), some (.inl (s)), some (.inl (y)), some (.inl (i + 1)), some (.inl (d)), some (.inl (l)), some (.inl (a)), some (.inl (k)), u8, u9] [] W) ∧ (¬ l < k → (-2147483648 ≤ a + d ∧ a + d ≤ 2147483647) ∧ (0 ≤ (a + d) ∧ (a + d) < 64) ∧ (¬ (W.2.1 62 (a + d)) = 0 → (-2147483648 ≤ (W.2.1 62 (a + d)) ∧ (W.2.1 62 (a + d)) ≤ 2147483647) ∧ ∀ t0 : Int, t0 = (W.2.1 62 (a + d)) / 8 → (¬ t0 = y → (-2147483648 ≤ i + 1 ∧ i + 1 ≤ 2147483647) ∧ zwp jtb zsh n zm_BOatk61 post (K - 21) (lGo ak_ZBOatk61 54) 54 [some (.inr (.inr (some (.inl 61)))), some (.inl (s)), some (.inl (y)), some (.inl (i + 1)), some (.inl (d)), some (.inl (l)), some (.inl (a + d)), some (.inl (k)), some (.inl (W.2.1 62 (a + d))), u9] [] W) ∧ (t0 = y → (0 ≤ (W.2.1 62 (a + d)) ∧ (W.2.1 62 (a + d)) ≤ 2147483647) ∧ ∀ t1 : Int, t1 = (W.2.1 62 (a + d)) % 8 → (t1 = 5 → post (some (.inl (1))) W) ∧ (¬ t1 = 5 → (4 ≤ i → (t1 = 3 → post (some (.inl (1))) W) ∧ (¬ t1 = 3 → (¬ k = 1 → (-2147483648 ≤ i + 1 ∧ i + 1 ≤ 2147483647) ∧ zwp jtb zsh n zm_BOatk61 post (K - 38) (lGo ak_ZBOatk61 54) 54 [some (.inr (.inr (some (.inl 61)))), some (.inl (s)), some (.inl (y)), some (.inl (i + 1)), some (.inl (d)), some (.inl (l)), some (.inl (a + d)), some (.inl (k)), some (.inl (W.2.1 62 (a + d))), some (.inl (t1))] [] W) ∧ (k = 1 → (t1 = 6 → post (some (.inl (1))) W) ∧ (¬ t1 = 6 → (¬ t1 = 1 → (-2147483648 ≤ i + 1 ∧ i + 1 ≤ 2147483647) ∧ zwp jtb zsh n zm_BOatk61 post (K - 44) (lGo ak_ZBOatk61 54) 54 [some (.inr (.inr (some (.inl 61)))), some (.inl (s)), some (.inl (y)), some (.inl (i + 1)), some (.inl (d)), some (.inl (l)), some (.inl (a + d)), some (.inl (k)), some (.inl (W.2.1 62 (a + d))), some (.inl (t1))] [] W) ∧ (t1 = 1 → (i < 4 → (-2147483648 ≤ i + 1 ∧ i + 1 ≤ 2147483647) ∧ zwp jtb zsh n zm_BOatk61 post (K - 47) (lGo ak_ZBOatk61 54) 54 [some (.inr (.inr (some (.inl 61)))), some (.inl (s)), some (.inl (y)), some (.inl (i + 1)), some (.inl (d)), some (.inl (l)), some (.inl (a + d)), some (.inl (k)), some (.inl (W.2.1 62 (a + d))), some (.inl (t1))] [] W) ∧ (¬ i < 4 → (¬ y = 0 → (d ≤ 0 → (-2147483648 ≤ i + 1 ∧ i + 1 ≤ 2147483647) ∧ zwp jtb zsh n zm_BOatk61 post (K - 51) (lGo ak_ZBOatk61 54) 54 [some (.inr (.inr (some (.inl 61)))), some (.inl (s)), some (.inl (y)), some (.inl (i + 1)), some (.inl (d)), some (.inl (l)), some (.inl (a + d)), some (.inl (k)), some (.inl (W.2.1 62 (a + d))), some (.inl (t1))] [] W) ∧ (¬ d ≤ 0 → post (some (.inl (1))) W)) ∧ (y = 0 → (0 ≤ d → (-2147483648 ≤ i + 1 ∧ i + 1 ≤ 2147483647) ∧ zwp jtb zsh n zm_BOatk61 post (K - 51) (lGo ak_ZBOatk61 54) 54 [some (.inr (.inr (some (.inl 61)))), some (.inl (s)), some (.inl (y)), some (.inl (i + 1)), some (.inl (d)), some (.inl (l)), some (.inl (a + d)), some (.inl (k)), some (.inl (W.2.1 62 (a + d))), some (.inl (t1))] [] W) ∧ (¬ 0 ≤ d → post (some (.inl (1))) W)))))))) ∧ (¬ 4 ≤ i → (t1 = 4 → post (some (.inl (1))) W) ∧ (¬ t1 = 4 → (¬ k = 1 → (-2147483648 ≤ i + 1 ∧ i + 1 ≤ 2147483647) ∧ zwp jtb zsh n zm_BOatk61 post (K - 39) (lGo ak_ZBOatk61 54) 54 [some (.inr (.inr (some (.inl 61)))), some (.inl (s)), some (.inl (y)), some (.inl (i + 1)), some (.inl (d)), some (.inl (l)), some (.inl (a + d)), some (.inl (k)), some (.inl (W.2.1 62 (a + d))), some (.inl (t1))] [] W) ∧ (k = 1 → (t1 = 6 → post (some (.inl (1))) W) ∧ (¬ t1 = 6 → (¬ t1 = 1 → (-2147483648 ≤ i + 1 ∧ i + 1 ≤ 2147483647) ∧ zwp jtb zsh n zm_BOatk61 post (K - 45) (lGo ak_ZBOatk61 54) 54 [some (.inr (.inr (some (.inl 61)))), some (.inl (s)), some (.inl (y)), some (.inl (i + 1)), some (.inl (d)), some (.inl (l)), some (.inl (a + d)), some (.inl (k)), some (.inl (W.2.1 62 (a + d))), some (.inl (t1))] [] W) ∧ (t1 = 1 → (i < 4 → (-2147483648 ≤ i + 1 ∧ i + 1 ≤ 2147483647) ∧ zwp jtb zsh n zm_BOatk61 post (K - 48) (lGo ak_ZBOatk61 54) 54 [some (.inr (.inr (some (.inl 61)))), some (.inl (s)), some (.inl (y)), some (.inl (i + 1)), some (.inl (d)), some (.inl (l)), some (.inl (a + d)), some (.inl (k)), some (.inl (W.2.1 62 (a + d))), some (.inl (t1))] [] W) ∧ (¬ i < 4 → (¬ y = 0 → (d ≤ 0 → (-2147483648 ≤ i + 1 ∧ i + 1 ≤ 2147483647) ∧ zwp jtb zsh n zm_BOatk61 post (K - 52) (lGo ak_ZBOatk61 54) 54 [some (.inr (.inr (some (.inl 61)))), some (.inl (s)), some (.inl (y)), some (.inl (i + 1)), some (.inl (d)), some (.inl (l)), some (.inl (a + d)), some (.inl (k)), some (.inl (W.2.1 62 (a + d))), some (.inl (t1))] [] W) ∧ (¬ d ≤ 0 → post (some (.inl (1))) W)) ∧ (y = 0 → (0 ≤ d → (-2147483648 ≤ i + 1 ∧ i + 1 ≤ 2147483647) ∧ zwp jtb zsh n zm_BOatk61 post (K - 52) (lGo ak_ZBOatk61 54) 54 [some (.inr (.inr (some (.inl 61)))), some (.inl (s)), some (.inl (y)), some (.inl (i + 1)), some (.inl (d)), some (.inl (l)), some (.inl (a + d)), some (.inl (k)), some (.inl (W.2.1 62 (a + d))), some (.inl (t1))] [] W) ∧ (¬ 0 ≤ d → post (some (.inl (1))) W))))))))))) ∧ ((W.2.1 62 (a + d)) = 0 → (-2147483648 ≤ k + 1 ∧ k + 1 ≤ 2147483647) ∧ zwp jtb zsh n zm_BOatk61 post (K - 17) (lGo ak_ZBOatk61 86) 86 [some (.inr (.inr (some (.inl 61)))), some (.inl (s)), some (.inl (y)), some (.inl (i)), some (.inl (d)), some (.inl (l)), some (.inl (a + d)), some (.inl (k + 1)), some (.inl (W.2.1 62 (a + d))), u9] [] W))) : zwp jtb zsh n zm_BOatk61 post K (lGo ak_ZBOatk61 86) 86 [some (.inr (.inr (some (.inl 61)))), some (.inl (s)), some (.inl (y)), some (.inl (i)), some (.inl (d)), some (.inl (l)), some (.inl (a)), some (.inl (k)), u8, u9] [] W := by
  obtain ⟨kk__, rfl⟩ : ∃ kk__, K = kk__ + 52 := ⟨K - 52, by omega⟩
  exact (show (l < k → (-2147483648 ≤ i + 1 ∧ i + 1 ≤ 2147483647) ∧ zwp jtb zsh n zm_BOatk61 post (kk__ + 47) (lGo ak_ZBOatk61 54) 54 [some (.inr (.inr (some (.inl 61)))), some (.inl (s)), some (.inl (y)), some (.inl (i + 1)), some (.inl (d)), some (.inl (l)), some (.inl (a)), some (.inl (k)), u8, u9] [] W) ∧ (¬ l < k → (-2147483648 ≤ a + d ∧ a + d ≤ 2147483647) ∧ 61 < n ∧ 10 = 10 ∧ 62 < n ∧ FieldType.int = FieldType.int ∧ (0 ≤ (a + d) ∧ (a + d) < 64) ∧ (¬ (W.2.1 62 (a + d)) = 0 → (¬ ((lI (W.2.1 62 (a + d)) >>> (lI 3 &&& 31)).toInt) = y → (-2147483648 ≤ i + 1 ∧ i + 1 ≤ 2147483647) ∧ zwp jtb zsh n zm_BOatk61 post (kk__ + 31) (lGo ak_ZBOatk61 54) 54 [some (.inr (.inr (some (.inl 61)))), some (.inl (s)), some (.inl (y)), some (.inl (i + 1)), some (.inl (d)), some (.inl (l)), some (.inl (a + d)), some (.inl (k)), some (.inl (W.2.1 62 (a + d))), u9] [] W) ∧ (((lI (W.2.1 62 (a + d)) >>> (lI 3 &&& 31)).toInt) = y → (((lI (W.2.1 62 (a + d)) &&& lI 7).toInt) = 5 → 1 = 1 ∧ ((1 : Int) = 0 ∨ (1 : Int) = 1) ∧ post (some (.inl (1))) W) ∧ (¬ ((lI (W.2.1 62 (a + d)) &&& lI 7).toInt) = 5 → (4 ≤ i → (((lI (W.2.1 62 (a + d)) &&& lI 7).toInt) = 3 → 1 = 1 ∧ ((1 : Int) = 0 ∨ (1 : Int) = 1) ∧ post (some (.inl (1))) W) ∧ (¬ ((lI (W.2.1 62 (a + d)) &&& lI 7).toInt) = 3 → (¬ k = 1 → (-2147483648 ≤ i + 1 ∧ i + 1 ≤ 2147483647) ∧ zwp jtb zsh n zm_BOatk61 post (kk__ + 14) (lGo ak_ZBOatk61 54) 54 [some (.inr (.inr (some (.inl 61)))), some (.inl (s)), some (.inl (y)), some (.inl (i + 1)), some (.inl (d)), some (.inl (l)), some (.inl (a + d)), some (.inl (k)), some (.inl (W.2.1 62 (a + d))), some (.inl (((lI (W.2.1 62 (a + d)) &&& lI 7).toInt)))] [] W) ∧ (k = 1 → (((lI (W.2.1 62 (a + d)) &&& lI 7).toInt) = 6 → 1 = 1 ∧ ((1 : Int) = 0 ∨ (1 : Int) = 1) ∧ post (some (.inl (1))) W) ∧ (¬ ((lI (W.2.1 62 (a + d)) &&& lI 7).toInt) = 6 → (¬ ((lI (W.2.1 62 (a + d)) &&& lI 7).toInt) = 1 → (-2147483648 ≤ i + 1 ∧ i + 1 ≤ 2147483647) ∧ zwp jtb zsh n zm_BOatk61 post (kk__ + 8) (lGo ak_ZBOatk61 54) 54 [some (.inr (.inr (some (.inl 61)))), some (.inl (s)), some (.inl (y)), some (.inl (i + 1)), some (.inl (d)), some (.inl (l)), some (.inl (a + d)), some (.inl (k)), some (.inl (W.2.1 62 (a + d))), some (.inl (((lI (W.2.1 62 (a + d)) &&& lI 7).toInt)))] [] W) ∧ (((lI (W.2.1 62 (a + d)) &&& lI 7).toInt) = 1 → (i < 4 → (-2147483648 ≤ i + 1 ∧ i + 1 ≤ 2147483647) ∧ zwp jtb zsh n zm_BOatk61 post (kk__ + 5) (lGo ak_ZBOatk61 54) 54 [some (.inr (.inr (some (.inl 61)))), some (.inl (s)), some (.inl (y)), some (.inl (i + 1)), some (.inl (d)), some (.inl (l)), some (.inl (a + d)), some (.inl (k)), some (.inl (W.2.1 62 (a + d))), some (.inl (((lI (W.2.1 62 (a + d)) &&& lI 7).toInt)))] [] W) ∧ (¬ i < 4 → (¬ y = 0 → (d ≤ 0 → (-2147483648 ≤ i + 1 ∧ i + 1 ≤ 2147483647) ∧ zwp jtb zsh n zm_BOatk61 post (kk__ + 1) (lGo ak_ZBOatk61 54) 54 [some (.inr (.inr (some (.inl 61)))), some (.inl (s)), some (.inl (y)), some (.inl (i + 1)), some (.inl (d)), some (.inl (l)), some (.inl (a + d)), some (.inl (k)), some (.inl (W.2.1 62 (a + d))), some (.inl (((lI (W.2.1 62 (a + d)) &&& lI 7).toInt)))] [] W) ∧ (¬ d ≤ 0 → 1 = 1 ∧ ((1 : Int) = 0 ∨ (1 : Int) = 1) ∧ post (some (.inl (1))) W)) ∧ (y = 0 → (0 ≤ d → (-2147483648 ≤ i + 1 ∧ i + 1 ≤ 2147483647) ∧ zwp jtb zsh n zm_BOatk61 post (kk__ + 1) (lGo ak_ZBOatk61 54) 54 [some (.inr (.inr (some (.inl 61)))), some (.inl (s)), some (.inl (y)), some (.inl (i + 1)), some (.inl (d)), some (.inl (l)), some (.inl (a + d)), some (.inl (k)), some (.inl (W.2.1 62 (a + d))), some (.inl (((lI (W.2.1 62 (a + d)) &&& lI 7).toInt)))] [] W) ∧ (¬ 0 ≤ d → 1 = 1 ∧ ((1 : Int) = 0 ∨ (1 : Int) = 1) ∧ post (some (.inl (1))) W)))))))) ∧ (¬ 4 ≤ i → (((lI (W.2.1 62 (a + d)) &&& lI 7).toInt) = 4 → 1 = 1 ∧ ((1 : Int) = 0 ∨ (1 : Int) = 1) ∧ post (some (.inl (1))) W) ∧ (¬ ((lI (W.2.1 62 (a + d)) &&& lI 7).toInt) = 4 → (¬ k = 1 → (-2147483648 ≤ i + 1 ∧ i + 1 ≤ 2147483647) ∧ zwp jtb zsh n zm_BOatk61 post (kk__ + 13) (lGo ak_ZBOatk61 54) 54 [some (.inr (.inr (some (.inl 61)))), some (.inl (s)), some (.inl (y)), some (.inl (i + 1)), some (.inl (d)), some (.inl (l)), some (.inl (a + d)), some (.inl (k)), some (.inl (W.2.1 62 (a + d))), some (.inl (((lI (W.2.1 62 (a + d)) &&& lI 7).toInt)))] [] W) ∧ (k = 1 → (((lI (W.2.1 62 (a + d)) &&& lI 7).toInt) = 6 → 1 = 1 ∧ ((1 : Int) = 0 ∨ (1 : Int) = 1) ∧ post (some (.inl (1))) W) ∧ (¬ ((lI (W.2.1 62 (a + d)) &&& lI 7).toInt) = 6 → (¬ ((lI (W.2.1 62 (a + d)) &&& lI 7).toInt) = 1 → (-2147483648 ≤ i + 1 ∧ i + 1 ≤ 2147483647) ∧ zwp jtb zsh n zm_BOatk61 post (kk__ + 7) (lGo ak_ZBOatk61 54) 54 [some (.inr (.inr (some (.inl 61)))), some (.inl (s)), some (.inl (y)), some (.inl (i + 1)), some (.inl (d)), some (.inl (l)), some (.inl (a + d)), some (.inl (k)), some (.inl (W.2.1 62 (a + d))), some (.inl (((lI (W.2.1 62 (a + d)) &&& lI 7).toInt)))] [] W) ∧ (((lI (W.2.1 62 (a + d)) &&& lI 7).toInt) = 1 → (i < 4 → (-2147483648 ≤ i + 1 ∧ i + 1 ≤ 2147483647) ∧ zwp jtb zsh n zm_BOatk61 post (kk__ + 4) (lGo ak_ZBOatk61 54) 54 [some (.inr (.inr (some (.inl 61)))), some (.inl (s)), some (.inl (y)), some (.inl (i + 1)), some (.inl (d)), some (.inl (l)), some (.inl (a + d)), some (.inl (k)), some (.inl (W.2.1 62 (a + d))), some (.inl (((lI (W.2.1 62 (a + d)) &&& lI 7).toInt)))] [] W) ∧ (¬ i < 4 → (¬ y = 0 → (d ≤ 0 → (-2147483648 ≤ i + 1 ∧ i + 1 ≤ 2147483647) ∧ zwp jtb zsh n zm_BOatk61 post (kk__ + 0) (lGo ak_ZBOatk61 54) 54 [some (.inr (.inr (some (.inl 61)))), some (.inl (s)), some (.inl (y)), some (.inl (i + 1)), some (.inl (d)), some (.inl (l)), some (.inl (a + d)), some (.inl (k)), some (.inl (W.2.1 62 (a + d))), some (.inl (((lI (W.2.1 62 (a + d)) &&& lI 7).toInt)))] [] W) ∧ (¬ d ≤ 0 → 1 = 1 ∧ ((1 : Int) = 0 ∨ (1 : Int) = 1) ∧ post (some (.inl (1))) W)) ∧ (y = 0 → (0 ≤ d → (-2147483648 ≤ i + 1 ∧ i + 1 ≤ 2147483647) ∧ zwp jtb zsh n zm_BOatk61 post (kk__ + 0) (lGo ak_ZBOatk61 54) 54 [some (.inr (.inr (some (.inl 61)))), some (.inl (s)), some (.inl (y)), some (.inl (i + 1)), some (.inl (d)), some (.inl (l)), some (.inl (a + d)), some (.inl (k)), some (.inl (W.2.1 62 (a + d))), some (.inl (((lI (W.2.1 62 (a + d)) &&& lI 7).toInt)))] [] W) ∧ (¬ 0 ≤ d → 1 = 1 ∧ ((1 : Int) = 0 ∨ (1 : Int) = 1) ∧ post (some (.inl (1))) W))))))))))) ∧ ((W.2.1 62 (a + d)) = 0 → (-2147483648 ≤ k + 1 ∧ k + 1 ≤ 2147483647) ∧ zwp jtb zsh n zm_BOatk61 post (kk__ + 35) (lGo ak_ZBOatk61 86) 86 [some (.inr (.inr (some (.inl 61)))), some (.inl (s)), some (.inl (y)), some (.inl (i)), some (.inl (d)), some (.inl (l)), some (.inl (a + d)), some (.inl (k + 1)), some (.inl (W.2.1 62 (a + d))), u9] [] W)) from ⟨fun c90_2 => ⟨(((h).1 c90_2)).1, (((h).1 c90_2)).2⟩, fun c90_2 => ⟨(((h).2 c90_2)).1, ⟨(Nat.lt_of_lt_of_le (by decide) hn), rfl, ⟨(Nat.lt_of_lt_of_le (by decide) hn), rfl, ((((h).2 c90_2)).2).1, ⟨fun c111_13 => (have h := ((((((h).2 c90_2)).2).2).1 c111_13); ⟨fun c122_18 => (have h := ((((h).2 _ (z_sr3 (h).1))).1 c122_18); ⟨(h).1, (h).2⟩), fun c122_18 => (have h := ((((h).2 _ (z_sr3 (h).1))).2 c122_18); ⟨fun c135_25 => (have h := ((((h).2 _ (z_an7 (h).1))).1 c135_25); ⟨rfl, Or.inr rfl, h⟩), fun c135_25 => (have h := ((((h).2 _ (z_an7 (h).1))).2 c135_25); ⟨fun c142_29 => ⟨fun c150_31 => (have h := ((((h).1 c142_29)).1 c150_31); ⟨rfl, Or.inr rfl, h⟩), fun c150_31 => (have h := ((((h).1 c142_29)).2 c150_31); ⟨fun c156_34 => ⟨(((h).1 c156_34)).1, (((h).1 c156_34)).2⟩, fun c156_34 => ⟨fun c163_37 => (have h := ((((h).2 c156_34)).1 c163_37); ⟨rfl, Or.inr rfl, h⟩), fun c163_37 => (have h := ((((h).2 c156_34)).2 c163_37); ⟨fun c169_40 => ⟨(((h).1 c169_40)).1, (((h).1 c169_40)).2⟩, fun c169_40 => ⟨fun c174_43 => (have h := ((((h).2 c169_40)).1 c174_43); ⟨(h).1, (h).2⟩), fun c174_43 => (have h := ((((h).2 c169_40)).2 c174_43); ⟨fun c178_45 => ⟨fun c191_47 => (have h := ((((h).1 c178_45)).1 c191_47); ⟨(h).1, (h).2⟩), fun c191_47 => (have h := ((((h).1 c178_45)).2 c191_47); ⟨rfl, Or.inr rfl, h⟩)⟩, fun c178_45 => ⟨fun c183_47 => (have h := ((((h).2 c178_45)).1 c183_47); ⟨(h).1, (h).2⟩), fun c183_47 => (have h := ((((h).2 c178_45)).2 c183_47); ⟨rfl, Or.inr rfl, h⟩)⟩⟩)⟩⟩)⟩⟩)⟩, fun c142_29 => ⟨fun c150_32 => (have h := ((((h).2 c142_29)).1 c150_32); ⟨rfl, Or.inr rfl, h⟩), fun c150_32 => (have h := ((((h).2 c142_29)).2 c150_32); ⟨fun c156_35 => ⟨(((h).1 c156_35)).1, (((h).1 c156_35)).2⟩, fun c156_35 => ⟨fun c163_38 => (have h := ((((h).2 c156_35)).1 c163_38); ⟨rfl, Or.inr rfl, h⟩), fun c163_38 => (have h := ((((h).2 c156_35)).2 c163_38); ⟨fun c169_41 => ⟨(((h).1 c169_41)).1, (((h).1 c169_41)).2⟩, fun c169_41 => ⟨fun c174_44 => (have h := ((((h).2 c169_41)).1 c174_44); ⟨(h).1, (h).2⟩), fun c174_44 => (have h := ((((h).2 c169_41)).2 c174_44); ⟨fun c178_46 => ⟨fun c191_48 => (have h := ((((h).1 c178_46)).1 c191_48); ⟨(h).1, (h).2⟩), fun c191_48 => (have h := ((((h).1 c178_46)).2 c191_48); ⟨rfl, Or.inr rfl, h⟩)⟩, fun c178_46 => ⟨fun c183_48 => (have h := ((((h).2 c178_46)).1 c183_48); ⟨(h).1, (h).2⟩), fun c183_48 => (have h := ((((h).2 c178_46)).2 c183_48); ⟨rfl, Or.inr rfl, h⟩)⟩⟩)⟩⟩)⟩⟩)⟩⟩)⟩)⟩), fun c111_13 => (have h := ((((((h).2 c90_2)).2).2).2 c111_13); ⟨(h).1, (h).2⟩)⟩⟩⟩⟩⟩)
set_option maxRecDepth 100000 in
theorem zk_BOatk61 {l : Launch} {E : jE} {n : Nat} (hn : 142 ≤ n) : zHas l E jcl jtb lw_tbl zsh n (y_BO_attacked, false, 3, 10, { frames := 0, cells := 0, slots := 0, locals := 0 }, zc_BOatk61) := by
  refine ⟨⟨rfl, rfl, ⟨show 1 ≤ 3 by decide, m_BO_attacked, i_BO_attacked, e_BO_attacked, fun _ => ⟨_, rfl, rfl⟩⟩⟩, ?_⟩
  rintro vz W po hO hW ⟨s, y, rfl, hq, hp⟩
  refine zmet (m := zm_BOatk61) rfl (by decide) (fun _ _ => jtF_ok) lo_BO ao_ZBOatk61 jC (fun q h => by cases h) (fun q h => by cases h) (fun q h => by cases h) (Nat.le_of_ble_eq_true rfl) hO hW (8000) ?_
  obtain ⟨hT, hM, hs, hy⟩ := hq
  have mv : ∀ t : Int, 0 ≤ t → t < 64 → 0 ≤ W.2.1 62 t ∧ W.2.1 62 t ≤ 14 := hM
  have rt : ∀ t i : Int, 0 ≤ t → t < 64 → 0 ≤ i → i < 8 → W.2.1 69 (8 * t + i) = fRc t i := hT.1
  have ht : ∀ t i : Int, 0 ≤ t → t < 64 → 0 ≤ i → i < 8 → W.2.1 70 (8 * t + i) = fHp t.toNat i.toNat := hT.2
  have h54 : ∀ (m K : Nat) (i : Int) (u4 u5 u6 u7 u8 u9 : Option zv), 800 * m + 60 ≤ K → (8 - i ≤ m ∧ 0 ≤ i ∧ i ≤ 8) → ¬ cHo (W.2.1 62) s y → (∀ j, 0 ≤ j → j < i → ¬ cRy (W.2.1 62) s y j) → zwp jtb zsh n zm_BOatk61 po K (lGo ak_ZBOatk61 54) 54 [some (.inr (.inr (some (.inl 61)))), some (.inl s), some (.inl y), some (.inl (i)), u4, u5, u6, u7, u8, u9] [] W := by
    intro m
    induction m with
    | zero =>
      intro K i u4 u5 u6 u7 u8 u9 hK hm nH hI
      have c9 : 8 ≤ i := by omega
      exact zp_BOatk61_54 (by omega) hn ⟨fun c57 => (hp _ (Or.inr ⟨rfl, fun z => z.elim nH (fun ⟨j, j0, j1, j2⟩ => hI j j0 (by omega) j2)⟩)), fun z => absurd c9 z⟩
    | succ m ih =>
      intro K i u4 u5 u6 u7 u8 u9 hK hm nH hI
      have up : ∀ (K : Nat) (v4 v5 v6 v7 v8 v9 : Option zv), 800 * m + 60 ≤ K ∧ i < 8 → ¬ cRy (W.2.1 62) s y i → zwp jtb zsh n zm_BOatk61 po K (lGo ak_ZBOatk61 54) 54 [some (.inr (.inr (some (.inl 61)))), some (.inl s), some (.inl y), some (.inl (i + 1)), v4, v5, v6, v7, v8, v9] [] W := by
        intro K v4 v5 v6 v7 v8 v9 hK nr
        exact ih K (i + 1) v4 v5 v6 v7 v8 v9 (by omega) (by omega) nH (fun j a z => if ej : j = i then (by rw [ej]; exact nr) else hI j a (by omega))
      clear ih
      have h86 : ∀ (m' K : Nat) (d l a k : Int) (u8 u9 : Option zv), 80 * m' + 60 + (800 * m + 60) ≤ K ∧ i < 8 → (8 - k < m' ∧ 1 ≤ k ∧ k ≤ 8) → d = fSt i → l = fRc s i → a = s + (k - 1) * d → cEm (W.2.1 62) s i k → zwp jtb zsh n zm_BOatk61 po K (lGo ak_ZBOatk61 86) 86 [some (.inr (.inr (some (.inl 61)))), some (.inl s), some (.inl y), some (.inl (i)), some (.inl (d)), some (.inl (l)), some (.inl (a)), some (.inl (k)), u8, u9] [] W := by
        intro m'
        induction m' with
        | zero => intro K d l a k u8 u9 hK hm; omega
        | succ m' ih =>
          intro K d l a k u8 u9 hK hm ed el ea he
          have lr := ca_r hs (i := i) (by omega)
          rw [← el] at lr
          have em : s + k * fSt i = a + d := by
            rw [← ed, ea, Int.sub_mul, Int.one_mul]; omega
          have rr : k ≤ l → 0 ≤ a + d ∧ a + d ≤ 63 := by
            intro z
            rw [← em]
            exact ca_p hs (by omega) (by omega) (by omega)
          have mr : k ≤ l → 0 ≤ W.2.1 62 (a + d) ∧ W.2.1 62 (a + d) ≤ 14 := fun z => mv _ (rr z).1 (by have := (rr z).2; omega)
          have ds : -9 ≤ d ∧ d ≤ 9 := by rw [ed]; unfold fSt; (repeat' split) <;> omega
          exact zp_BOatk61_86 (by omega) hn ⟨fun c90 => ⟨(by omega), (up _ _ _ _ _ _ _ (by omega) (by first | exact ca_n (by omega) he | exact ca_y (by omega) he (by rw [em]; omega) (by rw [em]; unfold fHit; rw [← ed]; omega)))⟩, fun c90 => ⟨(by omega), ⟨(by omega), ⟨fun c111 => ⟨(by omega), fun t0 e0 => ⟨fun c122 => ⟨(by omega), (up _ _ _ _ _ _ _ (by omega) (by first | exact ca_n (by omega) he | exact ca_y (by omega) he (by rw [em]; omega) (by rw [em]; unfold fHit; rw [← ed]; omega)))⟩, fun c122 => ⟨(by omega), fun t1 e1 => ⟨fun c135 => (hp _ (Or.inl ⟨rfl, Or.inr ⟨i, by omega, by omega, k, by omega, by omega, he, by rw [em]; omega, by rw [em]; unfold fHit; rw [← ed]; omega⟩⟩)), fun c135 => ⟨fun c142 => ⟨fun c150 => (hp _ (Or.inl ⟨rfl, Or.inr ⟨i, by omega, by omega, k, by omega, by omega, he, by rw [em]; omega, by rw [em]; unfold fHit; rw [← ed]; omega⟩⟩)), fun c150 => ⟨fun c156 => ⟨(by omega), (up _ _ _ _ _ _ _ (by omega) (by first | exact ca_n (by omega) he | exact ca_y (by omega) he (by rw [em]; omega) (by rw [em]; unfold fHit; rw [← ed]; omega)))⟩, fun c156 => ⟨fun c163 => (hp _ (Or.inl ⟨rfl, Or.inr ⟨i, by omega, by omega, k, by omega, by omega, he, by rw [em]; omega, by rw [em]; unfold fHit; rw [← ed]; omega⟩⟩)), fun c163 => ⟨fun c169 => ⟨(by omega), (up _ _ _ _ _ _ _ (by omega) (by first | exact ca_n (by omega) he | exact ca_y (by omega) he (by rw [em]; omega) (by rw [em]; unfold fHit; rw [← ed]; omega)))⟩, fun c169 => ⟨fun c174 => ⟨(by omega), (up _ _ _ _ _ _ _ (by omega) (by first | exact ca_n (by omega) he | exact ca_y (by omega) he (by rw [em]; omega) (by rw [em]; unfold fHit; rw [← ed]; omega)))⟩, fun c174 => ⟨fun c178 => ⟨fun c191 => ⟨(by omega), (up _ _ _ _ _ _ _ (by omega) (by first | exact ca_n (by omega) he | exact ca_y (by omega) he (by rw [em]; omega) (by rw [em]; unfold fHit; rw [← ed]; omega)))⟩, fun c191 => (hp _ (Or.inl ⟨rfl, Or.inr ⟨i, by omega, by omega, k, by omega, by omega, he, by rw [em]; omega, by rw [em]; unfold fHit; rw [← ed]; omega⟩⟩))⟩, fun c178 => ⟨fun c183 => ⟨(by omega), (up _ _ _ _ _ _ _ (by omega) (by first | exact ca_n (by omega) he | exact ca_y (by omega) he (by rw [em]; omega) (by rw [em]; unfold fHit; rw [← ed]; omega)))⟩, fun c183 => (hp _ (Or.inl ⟨rfl, Or.inr ⟨i, by omega, by omega, k, by omega, by omega, he, by rw [em]; omega, by rw [em]; unfold fHit; rw [← ed]; omega⟩⟩))⟩⟩⟩⟩⟩⟩⟩, fun c142 => ⟨fun c150 => (hp _ (Or.inl ⟨rfl, Or.inr ⟨i, by omega, by omega, k, by omega, by omega, he, by rw [em]; omega, by rw [em]; unfold fHit; rw [← ed]; omega⟩⟩)), fun c150 => ⟨fun c156 => ⟨(by omega), (up _ _ _ _ _ _ _ (by omega) (by first | exact ca_n (by omega) he | exact ca_y (by omega) he (by rw [em]; omega) (by rw [em]; unfold fHit; rw [← ed]; omega)))⟩, fun c156 => ⟨fun c163 => (hp _ (Or.inl ⟨rfl, Or.inr ⟨i, by omega, by omega, k, by omega, by omega, he, by rw [em]; omega, by rw [em]; unfold fHit; rw [← ed]; omega⟩⟩)), fun c163 => ⟨fun c169 => ⟨(by omega), (up _ _ _ _ _ _ _ (by omega) (by first | exact ca_n (by omega) he | exact ca_y (by omega) he (by rw [em]; omega) (by rw [em]; unfold fHit; rw [← ed]; omega)))⟩, fun c169 => ⟨fun c174 => ⟨(by omega), (up _ _ _ _ _ _ _ (by omega) (by first | exact ca_n (by omega) he | exact ca_y (by omega) he (by rw [em]; omega) (by rw [em]; unfold fHit; rw [← ed]; omega)))⟩, fun c174 => ⟨fun c178 => ⟨fun c191 => ⟨(by omega), (up _ _ _ _ _ _ _ (by omega) (by first | exact ca_n (by omega) he | exact ca_y (by omega) he (by rw [em]; omega) (by rw [em]; unfold fHit; rw [← ed]; omega)))⟩, fun c191 => (hp _ (Or.inl ⟨rfl, Or.inr ⟨i, by omega, by omega, k, by omega, by omega, he, by rw [em]; omega, by rw [em]; unfold fHit; rw [← ed]; omega⟩⟩))⟩, fun c178 => ⟨fun c183 => ⟨(by omega), (up _ _ _ _ _ _ _ (by omega) (by first | exact ca_n (by omega) he | exact ca_y (by omega) he (by rw [em]; omega) (by rw [em]; unfold fHit; rw [← ed]; omega)))⟩, fun c183 => (hp _ (Or.inl ⟨rfl, Or.inr ⟨i, by omega, by omega, k, by omega, by omega, he, by rw [em]; omega, by rw [em]; unfold fHit; rw [← ed]; omega⟩⟩))⟩⟩⟩⟩⟩⟩⟩⟩⟩⟩⟩⟩, fun c111 => ⟨(by omega), (ih _ _ _ _ (k + 1) _ _ (by omega) (by omega) ed el (by rw [show k + 1 - 1 = k by omega]; rw [← ed] at em; exact em.symm) (fun q a z => if eq : q = k then (by rw [eq, em]; omega) else he q a (by omega)))⟩⟩⟩⟩⟩
      have rea : i < 8 → W.2.1 69 (s * 8 + i) = fRc s i := fun z => by rw [show s * 8 + i = 8 * s + i by omega]; exact rt s i hs.1 hs.2 (by omega) z
      exact zp_BOatk61_54 (by omega) hn ⟨fun c57 => (hp _ (Or.inr ⟨rfl, fun z => z.elim nH (fun ⟨j, j0, j1, j2⟩ => hI j j0 (by omega) j2)⟩)), fun c57 => ⟨(by omega), ⟨(by omega), ⟨(by omega), ⟨(by omega), (h86 8 _ _ _ _ 1 _ _ (by omega) (by omega) (ca_s (by omega)) (rea (by omega)) (by omega) (fun q a z => by omega))⟩⟩⟩⟩⟩
  have h5 : ∀ (m K : Nat) (i x : Int) (u4 u5 u6 u7 u8 u9 : Option zv), 80 * m + 6800 ≤ K → (8 - i ≤ m ∧ 0 ≤ i ∧ i ≤ 8) → x = 8 * s + i → (∀ j : Int, 0 ≤ j → j < i → ¬ (0 ≤ fHp s.toNat j.toNat ∧ W.2.1 62 (fHp s.toNat j.toNat) = 8 * y + 2)) → zwp jtb zsh n zm_BOatk61 po K (lGo ak_ZBOatk61 5) 5 [some (.inr (.inr (some (.inl 61)))), some (.inl s), some (.inl y), some (.inl (x)), u4, u5, u6, u7, u8, u9] [] W := by
    intro m
    induction m with
    | zero =>
      intro K i x u4 u5 u6 u7 u8 u9 hK hm ex hI
      have c9 : i = 8 := by omega
      exact zp_BOatk61_5 (by omega) hn ⟨by omega, by omega, ⟨fun c13 => (h54 8 _ 0 _ _ _ _ _ _ (by omega) (by omega) (fun ⟨j, j0, j1, j2⟩ => hI j (by omega) (by omega) ⟨j1, j2⟩) (fun j a z => by omega)), fun z => absurd z (by omega)⟩⟩
    | succ m ih =>
      intro K i x u4 u5 u6 u7 u8 u9 hK hm ex hI
      have fin : (8 ≤ i ∨ W.2.1 70 x < 0) → ¬ cHo (W.2.1 62) s y := by
        rintro h ⟨j, j0, j1, j2⟩
        rcases (by omega : (j : Int) < i ∨ i ≤ (j : Int)) with z | z
        · exact hI j (by omega) z ⟨j1, j2⟩
        · rcases h with h | h
          · omega
          · rw [ex, ht s i hs.1 hs.2 (by omega) (by omega)] at h
            exact absurd (ca_hn h (j := j) (by omega)) (by omega)
      have hpi : i < 8 → W.2.1 70 x = fHp s.toNat i.toNat := by
        intro z; rw [ex]; exact ht s i hs.1 hs.2 (by omega) z
      have h6 := ca_h6 (s := s.toNat) (i := i.toNat)
      have mr : i < 8 → 0 ≤ W.2.1 70 x → 0 ≤ W.2.1 62 (W.2.1 70 x) ∧ W.2.1 62 (W.2.1 70 x) ≤ 14 := fun z z2 => mv _ z2 (by have := hpi z; omega)
      have nx : i < 8 → ¬ (0 ≤ W.2.1 70 x ∧ W.2.1 62 (W.2.1 70 x) = 8 * y + 2) → (∀ j : Int, 0 ≤ j → j < i + 1 → ¬ (0 ≤ fHp s.toNat j.toNat ∧ W.2.1 62 (fHp s.toNat j.toNat) = 8 * y + 2)) := by
        intro h8 h j a z
        by_cases ej : j = i
        · rw [ej, ← hpi h8]; exact h
        · exact hI j a (by omega)
      exact zp_BOatk61_5 (by omega) hn ⟨(by omega), ⟨(by omega), ⟨fun c13 => (h54 8 _ 0 _ _ _ _ _ _ (by omega) (by omega) (fin (by first | exact Or.inl (by omega) | exact Or.inr (by omega))) (fun j a z => by omega)), fun c13 => ⟨(by omega), ⟨fun c22 => (h54 8 _ 0 _ _ _ _ _ _ (by omega) (by omega) (fin (by first | exact Or.inl (by omega) | exact Or.inr (by omega))) (fun j a z => by omega)), fun c22 => ⟨(by omega), ⟨(by omega), ⟨(by omega), fun t0 e0 => ⟨(by omega), fun t1 e1 => ⟨fun c41 => ⟨(by omega), (ih _ (i + 1) _ _ _ _ _ _ _ (by omega) (by omega) (by omega) (nx (by omega) (by omega)))⟩, fun c41 => (hp _ (Or.inl ⟨rfl, Or.inl ⟨i.toNat, by omega, by rw [← hpi (by omega)]; omega, by rw [← hpi (by omega)]; omega⟩⟩))⟩⟩⟩⟩⟩⟩⟩⟩⟩⟩
  exact zp_BOatk61_0 (by omega) hn ⟨(by omega), (h5 8 _ 0 _ _ _ _ _ _ _ (by omega) (by omega) (by omega) (fun j hj _ z => by omega))⟩
end
section
/-! the class's Board: which moves it writes into a list -/
noncomputable def cEn (A : Int → Int) (sd t : Int) : Prop := A t = 0 ∨ ¬ A t / 8 = sd
/-- behind a call: the row L holds from a to r just what P says, once each; all else is as before -/
noncomputable def zLx (L : Nat) (W V : zW) (P : Int → Prop) (a r : Int) : Prop := zFr [] [L] W V ∧ (∀ i, i < a → V.2.1 L i = W.2.1 L i) ∧ hqE P (V.2.1 L) a r
theorem hq_sn {P Q : Int → Prop} {g : Int → Int} {a b v : Int} (h : hqE P g a b) (e : ∀ x, Q x ↔ P x ∨ x = v) (hn : ¬ P v) : hqE Q (zuI g b v) a (b + 1) := by
  obtain ⟨h0, h1, h2, h3⟩ := h
  have en : ∀ i, i < b → zuI g b v i = g i := fun i z => zuI_n (by omega)
  refine ⟨by omega, fun i i0 i1 => ?_, fun x hx => ?_, fun i j i0 i1 j0 j1 ee => ?_⟩
  · by_cases c : i = b
    · rw [c, zuI_s]; exact (e v).mpr (Or.inr rfl)
    · rw [en i (by omega)]; exact (e _).mpr (Or.inl (h1 i i0 (by omega)))
  · rcases (e x).mp hx with c | c
    · obtain ⟨i, i0, i1, i2⟩ := h2 x c
      exact ⟨i, i0, by omega, by rw [en i i1]; exact i2⟩
    · exact ⟨b, h0, by omega, by rw [zuI_s, c]⟩
  · by_cases c : i = b
    · by_cases d : j = b
      · omega
      · rw [c, zuI_s, en j (by omega)] at ee
        exact absurd (by rw [ee]; exact h1 j j0 (by omega)) hn
    · by_cases d : j = b
      · rw [d, zuI_s, en i (by omega)] at ee
        exact absurd (by rw [← ee]; exact h1 i i0 (by omega)) hn
      · rw [en i (by omega), en j (by omega)] at ee
        exact h3 i j i0 (by omega) j0 (by omega) ee
theorem hq_0 {P : Int → Prop} {g : Int → Int} {a : Int} (h : ∀ x, ¬ P x) : hqE P g a a := ⟨Int.le_refl _, fun i h1 h2 => by omega, fun m hm => absurd hm (h m), fun i j h1 h2 => by omega⟩
theorem zLx_0 {L : Nat} {W : zW} {P : Int → Prop} {a : Int} (h : ∀ x, ¬ P x) : zLx L W W P a a := ⟨zFr_0, fun _ _ => rfl, hq_0 h⟩
theorem zLx_c {L : Nat} {W V : zW} {P Q : Int → Prop} {a r : Int} (h : zLx L W V P a r) (e : ∀ x, P x ↔ Q x) : zLx L W V Q a r := ⟨h.1, h.2.1, hq_c h.2.2 e⟩
theorem zLx_n {L : Nat} {W V : zW} {P Q : Int → Prop} {a r v : Int} (h : zLx L W V P a r) (e : ∀ x, Q x ↔ P x ∨ x = v) (hn : ¬ P v) : zLx L W (zuR V L r v) Q a (r + 1) := by
  refine ⟨zFr_R h.1 List.mem_cons_self, fun i hi => ?_, ?_⟩
  · rw [zuR_2, if_neg (by have := h.2.2.1; omega)]
    exact h.2.1 i hi
  · have e2 : (zuR V L r v).2.1 L = zuI (V.2.1 L) r v := by
      funext j
      rw [zuR_2]
      unfold zuI
      by_cases c : j = r
      · rw [if_pos ⟨rfl, c⟩, if_pos c]
      · rw [if_neg (fun z => c z.2), if_neg c]
    rw [e2]
    exact hq_sn h.2.2 e hn
/-- knights -/
noncomputable def cHi (A : Int → Int) (sd f : Int) (i : Int) (x : Int) : Prop := ∃ j : Nat, (j : Int) < i ∧ 0 ≤ fHp f.toNat j ∧ cEn A sd (fHp f.toNat j) ∧ x = 512 * f + 8 * fHp f.toNat j
noncomputable def cHx (A : Int → Int) (sd f x : Int) : Prop := cHi A sd f 8 x
theorem ca_hi0 : ∀ (s : Fin 64) (i j : Fin 8), fHp s.val i.val = fHp s.val j.val → 0 ≤ fHp s.val i.val → i = j := by decide +kernel
theorem ca_hi {s : Int} {i j : Nat} (hs : 0 ≤ s ∧ s < 64) (hi : i < 8) (hj : j < 8) (h : fHp s.toNat i = fHp s.toNat j) (h0 : 0 ≤ fHp s.toNat i) : i = j := by
  have e := ca_hi0 ⟨s.toNat, by omega⟩ ⟨i, hi⟩ ⟨j, hj⟩ h h0
  exact congrArg Fin.val e
theorem cHi_n {A : Int → Int} {sd f i x : Int} (i0 : 0 ≤ i) (h : ¬ (0 ≤ fHp f.toNat i.toNat ∧ cEn A sd (fHp f.toNat i.toNat))) : cHi A sd f i x ↔ cHi A sd f (i + 1) x := by
  constructor
  · rintro ⟨j, j0, j1⟩; exact ⟨j, by omega, j1⟩
  · rintro ⟨j, j0, j1, j2, j3⟩
    by_cases c : (j : Int) = i
    · exact absurd ⟨by rw [← c]; exact j1, by rw [← c]; exact j2⟩ h
    · exact ⟨j, by omega, j1, j2, j3⟩
theorem cHi_s {A : Int → Int} {sd f i x : Int} (i0 : 0 ≤ i) (h1 : 0 ≤ fHp f.toNat i.toNat) (h2 : cEn A sd (fHp f.toNat i.toNat)) : cHi A sd f (i + 1) x ↔ cHi A sd f i x ∨ x = 512 * f + 8 * fHp f.toNat i.toNat := by
  constructor
  · rintro ⟨j, j0, j1, j2, j3⟩
    by_cases c : (j : Int) = i
    · right; rw [← c]; exact j3
    · exact Or.inl ⟨j, by omega, j1, j2, j3⟩
  · rintro (⟨j, j0, j1⟩ | c)
    · exact ⟨j, by omega, j1⟩
    · exact ⟨i.toNat, by omega, h1, h2, c⟩
theorem cHi_f {A : Int → Int} {sd f i : Int} (hf : 0 ≤ f ∧ f < 64) (i0 : 0 ≤ i) (i1 : i < 8) (h1 : 0 ≤ fHp f.toNat i.toNat) : ¬ cHi A sd f i (512 * f + 8 * fHp f.toNat i.toNat) := by
  rintro ⟨j, j0, j1, j2, j3⟩
  have := ca_hi hf (i := i.toNat) (j := j) (by omega) (by omega) (by omega) h1
  omega
/-- behind the last hop nothing comes -/
theorem cHi_e {A : Int → Int} {sd f i x : Int} (i0 : 0 ≤ i) (h : 8 ≤ i ∨ fHp f.toNat i.toNat < 0) (i8 : i ≤ 8) : cHi A sd f i x ↔ cHx A sd f x := by
  constructor
  · rintro ⟨j, j0, j1⟩; exact ⟨j, by omega, j1⟩
  · rintro ⟨j, j0, j1, j2⟩
    rcases (by omega : (j : Int) < i ∨ i ≤ (j : Int)) with c | c
    · exact ⟨j, c, j1, j2⟩
    · rcases h with h | h
      · omega
      · exact absurd (ca_hn h (j := j) (by omega)) (by omega)
/-- men that slide -/
noncomputable def cSi (A : Int → Int) (sd f kd : Int) (i k : Int) : Prop := 0 ≤ i ∧ i < 8 ∧ (kd = 3 → 4 ≤ i) ∧ (kd = 4 → i < 4) ∧ 1 ≤ k ∧ k ≤ fRc f i ∧ cEm A f i k ∧ cEn A sd (f + k * fSt i)
noncomputable def cSj (A : Int → Int) (sd f kd I K : Int) (x : Int) : Prop := ∃ i k : Int, cSi A sd f kd i k ∧ (i < I ∨ (i = I ∧ k < K)) ∧ x = 512 * f + 8 * (f + k * fSt i)
noncomputable def cSx (A : Int → Int) (sd f kd : Int) (x : Int) : Prop := ∃ i k : Int, cSi A sd f kd i k ∧ x = 512 * f + 8 * (f + k * fSt i)
theorem ca_dr0 : ∀ (s : Fin 64) (i : Fin 8) (k : Fin 8), (k.val : Int) ≤ fRc s.val i.val → ((s.val : Int) + k.val * fSt i.val) % 8 - (s.val : Int) % 8 = k.val * (if i.val = 2 ∨ i.val = 4 ∨ i.val = 6 then 1 else if i.val = 3 ∨ i.val = 5 ∨ i.val = 7 then -1 else 0) ∧ ((s.val : Int) + k.val * fSt i.val) / 8 - (s.val : Int) / 8 = k.val * (if i.val = 0 ∨ i.val = 4 ∨ i.val = 5 then 1 else if i.val = 1 ∨ i.val = 6 ∨ i.val = 7 then -1 else 0) := by decide +kernel
theorem ca_dj0 : ∀ (i j : Fin 8) (k l : Fin 8), 1 ≤ k.val → 1 ≤ l.val → (k.val : Int) * (if i.val = 2 ∨ i.val = 4 ∨ i.val = 6 then 1 else if i.val = 3 ∨ i.val = 5 ∨ i.val = 7 then -1 else 0) = l.val * (if j.val = 2 ∨ j.val = 4 ∨ j.val = 6 then 1 else if j.val = 3 ∨ j.val = 5 ∨ j.val = 7 then -1 else 0) → (k.val : Int) * (if i.val = 0 ∨ i.val = 4 ∨ i.val = 5 then 1 else if i.val = 1 ∨ i.val = 6 ∨ i.val = 7 then -1 else 0) = l.val * (if j.val = 0 ∨ j.val = 4 ∨ j.val = 5 then 1 else if j.val = 1 ∨ j.val = 6 ∨ j.val = 7 then -1 else 0) → i = j ∧ k = l := by decide +kernel
theorem ca_dj {s i j k l : Int} (hs : 0 ≤ s ∧ s < 64) (hi : 0 ≤ i ∧ i < 8) (hj : 0 ≤ j ∧ j < 8) (k1 : 1 ≤ k) (k2 : k ≤ fRc s i) (l1 : 1 ≤ l) (l2 : l ≤ fRc s j) (h : s + k * fSt i = s + l * fSt j) : i = j ∧ k = l := by
  have r1 := (ca_r hs hi).2
  have r2 := (ca_r hs hj).2
  have a := ca_dr0 ⟨s.toNat, by omega⟩ ⟨i.toNat, by omega⟩ ⟨k.toNat, by omega⟩
  have b := ca_dr0 ⟨s.toNat, by omega⟩ ⟨j.toNat, by omega⟩ ⟨l.toNat, by omega⟩
  have c := ca_dj0 ⟨i.toNat, by omega⟩ ⟨j.toNat, by omega⟩ ⟨k.toNat, by omega⟩ ⟨l.toNat, by omega⟩
  dsimp only at a b c
  rw [show ((s.toNat : Nat) : Int) = s by omega, show ((i.toNat : Nat) : Int) = i by omega, show ((k.toNat : Nat) : Int) = k by omega] at a
  rw [show ((s.toNat : Nat) : Int) = s by omega, show ((j.toNat : Nat) : Int) = j by omega, show ((l.toNat : Nat) : Int) = l by omega] at b
  rw [show ((k.toNat : Nat) : Int) = k by omega, show ((l.toNat : Nat) : Int) = l by omega] at c
  have a := a k2
  have b := b l2
  rw [h] at a
  have d := c (by omega) (by omega) (a.1.symm.trans b.1) (a.2.symm.trans b.2)
  have e1 := congrArg Fin.val d.1
  have e2 := congrArg Fin.val d.2
  dsimp only at e1 e2
  omega
theorem cSj_s {A : Int → Int} {sd f kd I K x : Int} (h : cSi A sd f kd I K) : cSj A sd f kd I (K + 1) x ↔ cSj A sd f kd I K x ∨ x = 512 * f + 8 * (f + K * fSt I) := by
  constructor
  · rintro ⟨i, k, h1, h2, h3⟩
    by_cases c : i = I ∧ k = K
    · right; rw [← c.1, ← c.2]; exact h3
    · exact Or.inl ⟨i, k, h1, by omega, h3⟩
  · rintro (⟨i, k, h1, h2, h3⟩ | c)
    · exact ⟨i, k, h1, by omega, h3⟩
    · exact ⟨I, K, h, by omega, c⟩
theorem cSj_n {A : Int → Int} {sd f kd I K x : Int} (h : ¬ cSi A sd f kd I K) : cSj A sd f kd I K x ↔ cSj A sd f kd I (K + 1) x := by
  constructor
  · rintro ⟨i, k, h1, h2, h3⟩; exact ⟨i, k, h1, by omega, h3⟩
  · rintro ⟨i, k, h1, h2, h3⟩
    by_cases c : i = I ∧ k = K
    · rw [c.1, c.2] at h1; exact absurd h1 h
    · exact ⟨i, k, h1, by omega, h3⟩
theorem cSj_f {A : Int → Int} {sd f kd I K : Int} (hf : 0 ≤ f ∧ f < 64) (hI : 0 ≤ I ∧ I < 8) (k1 : 1 ≤ K) (k2 : K ≤ fRc f I) : ¬ cSj A sd f kd I K (512 * f + 8 * (f + K * fSt I)) := by
  rintro ⟨i, k, h1, h2, h3⟩
  have := ca_dj hf hI ⟨h1.1, h1.2.1⟩ k1 k2 h1.2.2.2.2.1 h1.2.2.2.2.2.1 (by omega)
  omega
/-- a ray is over -/
theorem cSj_x {A : Int → Int} {sd f kd I K x : Int} (h : fRc f I < K) : cSj A sd f kd I K x ↔ cSj A sd f kd (I + 1) 1 x := by
  constructor
  · rintro ⟨i, k, h1, h2, h3⟩; exact ⟨i, k, h1, by omega, h3⟩
  · rintro ⟨i, k, h1, h2, h3⟩
    refine ⟨i, k, h1, ?_, h3⟩
    by_cases c : i = I
    · have g5 := h1.2.2.2.2.2.1
      rw [c] at g5
      omega
    · have h1' := h1.2.2.2.2.1
      omega
theorem cSj_b {A : Int → Int} {sd f kd I K x : Int} (k1 : 1 ≤ K) (h : ¬ A (f + K * fSt I) = 0) : cSj A sd f kd I (K + 1) x ↔ cSj A sd f kd (I + 1) 1 x := by
  constructor
  · rintro ⟨i, k, h1, h2, h3⟩; exact ⟨i, k, h1, by omega, h3⟩
  · rintro ⟨i, k, h1, h2, h3⟩
    refine ⟨i, k, h1, ?_, h3⟩
    by_cases c : i = I ∧ K < k
    · exfalso
      have g6 := h1.2.2.2.2.2.2.1
      rw [c.1] at g6
      exact h (g6 K k1 c.2)
    · have h1' := h1.2.2.2.2.1
      omega
theorem cSj_0 {A : Int → Int} {sd f kd I x : Int} (h : (kd = 3 ∧ I = 4) ∨ (¬ kd = 3 ∧ I = 0)) : ¬ cSj A sd f kd I 1 x := by
  rintro ⟨i, k, h1, h2, h3⟩
  obtain ⟨g0, g1, g2, g3, g4, g5⟩ := h1
  omega
theorem cSj_8 {A : Int → Int} {sd f kd I x : Int} (h : (kd = 4 ∧ I = 4) ∨ (¬ kd = 4 ∧ I = 8)) : cSj A sd f kd I 1 x ↔ cSx A sd f kd x := by
  constructor
  · rintro ⟨i, k, h1, h2, h3⟩; exact ⟨i, k, h1, h3⟩
  · rintro ⟨i, k, h1, h3⟩
    obtain ⟨g0, g1, g2, g3, g4, g5⟩ := h1
    exact ⟨i, k, ⟨g0, g1, g2, g3, g4, g5⟩, by omega, h3⟩
/-- how many squares lie on the rays before the n-th -/
noncomputable def cRs (f : Int) : Nat → Int
  | 0 => 0
  | n + 1 => cRs f n + fRc f n
theorem cRs_0 : ∀ (s : Fin 64) (n : Fin 9), 0 ≤ cRs s.val n.val ∧ cRs s.val n.val ≤ 27 := by decide +kernel
theorem cRs_b {f i : Int} (hf : 0 ≤ f ∧ f < 64) (hi : 0 ≤ i ∧ i ≤ 8) : 0 ≤ cRs f i.toNat ∧ cRs f i.toNat ≤ 27 := by
  have e := cRs_0 ⟨f.toNat, by omega⟩ ⟨i.toNat, by omega⟩
  dsimp only at e
  rw [show ((f.toNat : Nat) : Int) = f by omega] at e
  exact e
theorem cRs_s {f i : Int} (hi : 0 ≤ i) : cRs f (i + 1).toNat = cRs f i.toNat + fRc f i := by
  rw [show (i + 1).toNat = i.toNat + 1 by omega]
  show cRs f i.toNat + fRc f ((i.toNat : Nat) : Int) = _
  rw [show ((i.toNat : Nat) : Int) = i by omega]
/-- kings -/
noncomputable def cRt (R s : Int) : Int := R / (if s = 0 then 1 else 4)
theorem ca_rg {R s t : Int} (hs : 0 ≤ s ∧ s ≤ 1) (h : t = R / 2 ^ (s * 2).toNat) : t = cRt R s := by
  rw [h]
  unfold cRt
  rcases (by omega : s = 0 ∨ s = 1) with c | c
  · rw [c]; rfl
  · rw [c]; rfl
theorem ca_rb {R s t : Int} (hs : 0 ≤ s ∧ s ≤ 1) (hR : 0 ≤ R ∧ R ≤ 15) (h : t = R / 2 ^ (s * 2).toNat) : t = cRt R s ∧ 0 ≤ t ∧ t ≤ 15 := by
  refine ⟨ca_rg hs h, ?_⟩
  rw [ca_rg hs h]
  unfold cRt
  split <;> omega
theorem ca_a20 : ∀ x : Fin 16, (lI (x.val : Int) &&& lI 2).toInt = 2 * ((x.val : Int) / 2 % 2) := by decide +kernel
theorem ca_a2 {x : Int} (h : 0 ≤ x ∧ x ≤ 15) : (lI x &&& lI 2).toInt = 2 * (x / 2 % 2) := by
  have e := ca_a20 ⟨x.toNat, by omega⟩
  dsimp only at e
  rw [show ((x.toNat : Nat) : Int) = x by omega] at e
  exact e
noncomputable def cKi (A : Int → Int) (sd f I x : Int) : Prop := ∃ i : Int, 0 ≤ i ∧ i < 8 ∧ i < I ∧ 0 < fRc f i ∧ cEn A sd (f + fSt i) ∧ x = 512 * f + 8 * (f + fSt i)
noncomputable def cK1 (A : Int → Int) (sd R f ck : Int) : Prop := ck = 0 ∧ f = 4 + 56 * sd ∧ cRt R sd % 2 = 1 ∧ A (f + 1) = 0 ∧ A (f + 2) = 0
noncomputable def cK2 (A : Int → Int) (sd R f ck : Int) : Prop := ck = 0 ∧ f = 4 + 56 * sd ∧ cRt R sd / 2 % 2 = 1 ∧ A (f - 1) = 0 ∧ A (f - 2) = 0 ∧ A (f - 3) = 0
noncomputable def cKy (A : Int → Int) (sd R f ck x : Int) : Prop := cKi A sd f 8 x ∨ (cK1 A sd R f ck ∧ x = 512 * f + 8 * (f + 2))
noncomputable def cKx (A : Int → Int) (sd R f ck x : Int) : Prop := cKy A sd R f ck x ∨ (cK2 A sd R f ck ∧ x = 512 * f + 8 * (f - 2))
theorem cKi_n {A : Int → Int} {sd f I x : Int} (h : ¬ (0 < fRc f I ∧ cEn A sd (f + fSt I))) : cKi A sd f I x ↔ cKi A sd f (I + 1) x := by
  constructor
  · rintro ⟨i, h0, h1, h2, h3⟩; exact ⟨i, h0, h1, by omega, h3⟩
  · rintro ⟨i, h0, h1, h2, h3, h4, h5⟩
    by_cases c : i = I
    · rw [c] at h3 h4; exact absurd ⟨h3, h4⟩ h
    · exact ⟨i, h0, h1, by omega, h3, h4, h5⟩
theorem cKi_s {A : Int → Int} {sd f I x : Int} (i0 : 0 ≤ I) (i1 : I < 8) (h : 0 < fRc f I) (h2 : cEn A sd (f + fSt I)) : cKi A sd f (I + 1) x ↔ cKi A sd f I x ∨ x = 512 * f + 8 * (f + fSt I) := by
  constructor
  · rintro ⟨i, h0, h1, h2, h3, h4, h5⟩
    by_cases c : i = I
    · right; rw [← c]; exact h5
    · exact Or.inl ⟨i, h0, h1, by omega, h3, h4, h5⟩
  · rintro (⟨i, h0, h1, h2, h3⟩ | c)
    · exact ⟨i, h0, h1, by omega, h3⟩
    · exact ⟨I, i0, i1, by omega, h, h2, c⟩
theorem cKi_f {A : Int → Int} {sd f I : Int} (hf : 0 ≤ f ∧ f < 64) (i0 : 0 ≤ I) (i1 : I < 8) (h : 0 < fRc f I) : ¬ cKi A sd f I (512 * f + 8 * (f + fSt I)) := by
  rintro ⟨i, h0, h1, h2, h3, h4, h5⟩
  have := ca_dj hf (i := I) (j := i) (k := 1) (l := 1) ⟨i0, i1⟩ ⟨h0, h1⟩ (by omega) (by omega) (by omega) (by omega) (by omega)
  omega
theorem cKi_2 {A : Int → Int} {sd f I d : Int} (hd : d = 2 ∨ d = -2) : ¬ cKi A sd f I (512 * f + 8 * (f + d)) := by
  rintro ⟨i, h0, h1, h2, h3, h4, h5⟩
  have e : fSt i = d := by omega
  unfold fSt at e
  revert e
  (repeat' split) <;> omega
theorem cKi_0 {A : Int → Int} {sd f x : Int} : ¬ cKi A sd f 0 x := by
  rintro ⟨i, h0, h1, h2, h3⟩; omega
/-- pawns -/
noncomputable def cOn (sd f : Int) : Int := f + 8 - 16 * sd
noncomputable def cPg (A : Int → Int) (sd ps u t : Int) : Prop := (t = u → A t = 0) ∧ (¬ t = u → 0 ≤ t ∧ t < 64 ∧ t / 8 = u / 8 ∧ (A t = 0 → t = ps) ∧ (¬ A t = 0 → ¬ A t / 8 = sd))
noncomputable def cPj (A : Int → Int) (sd ps f T B x : Int) : Prop := ∃ t b : Int, cOn sd f - 1 ≤ t ∧ t ≤ cOn sd f + 1 ∧ cPg A sd ps (cOn sd f) t ∧ ((cOn sd f < 8 ∨ 55 < cOn sd f) → 2 ≤ b ∧ b ≤ 5) ∧ (¬ (cOn sd f < 8 ∨ 55 < cOn sd f) → b = 0) ∧ (t < T ∨ (t = T ∧ b < B)) ∧ x = 512 * f + 8 * t + b
noncomputable def cP2 (A : Int → Int) (sd f : Int) : Prop := f / 8 = 1 + 5 * sd ∧ A (cOn sd f) = 0 ∧ A (cOn sd f + 8 - 16 * sd) = 0
noncomputable def cPx (A : Int → Int) (sd ps f x : Int) : Prop := (0 ≤ cOn sd f ∧ cOn sd f ≤ 63) ∧ (cPj A sd ps f (cOn sd f + 2) 0 x ∨ (cP2 A sd f ∧ x = 512 * f + 8 * (cOn sd f + 8 - 16 * sd)))
theorem cPj_s {A : Int → Int} {sd ps f T B x : Int} (h1 : cOn sd f - 1 ≤ T ∧ T ≤ cOn sd f + 1) (h2 : cPg A sd ps (cOn sd f) T) (h3 : ((cOn sd f < 8 ∨ 55 < cOn sd f) → 2 ≤ B ∧ B ≤ 5) ∧ (¬ (cOn sd f < 8 ∨ 55 < cOn sd f) → B = 0)) : cPj A sd ps f T (B + 1) x ↔ cPj A sd ps f T B x ∨ x = 512 * f + 8 * T + B := by
  constructor
  · rintro ⟨t, b, g0, g1, g2, g3, g4, g5, g6⟩
    by_cases c : t = T ∧ b = B
    · right; omega
    · exact Or.inl ⟨t, b, g0, g1, g2, g3, g4, by omega, g6⟩
  · rintro (⟨t, b, g0, g1, g2, g3, g4, g5, g6⟩ | c)
    · exact ⟨t, b, g0, g1, g2, g3, g4, by omega, g6⟩
    · exact ⟨T, B, h1.1, h1.2, h2, h3.1, h3.2, by omega, c⟩
theorem cPj_f {A : Int → Int} {sd ps f T B : Int} (hB : 0 ≤ B ∧ B < 8) : ¬ cPj A sd ps f T B (512 * f + 8 * T + B) := by
  rintro ⟨t, b, g0, g1, g2, g3, g4, g5, g6⟩
  by_cases c : cOn sd f < 8 ∨ 55 < cOn sd f
  · have := g3 c; omega
  · have := g4 c; omega
theorem cPj_n {A : Int → Int} {sd ps f T B x : Int} (h : ¬ cPg A sd ps (cOn sd f) T ∨ ((cOn sd f < 8 ∨ 55 < cOn sd f) ∧ 6 ≤ B) ∨ (¬ (cOn sd f < 8 ∨ 55 < cOn sd f) ∧ 1 ≤ B)) : cPj A sd ps f T B x ↔ cPj A sd ps f (T + 1) 0 x := by
  constructor
  · rintro ⟨t, b, g0, g1, g2, g3, g4, g5, g6⟩
    exact ⟨t, b, g0, g1, g2, g3, g4, by omega, g6⟩
  · rintro ⟨t, b, g0, g1, g2, g3, g4, g5, g6⟩
    have b0 : 0 ≤ b := by
      by_cases c : cOn sd f < 8 ∨ 55 < cOn sd f
      · have := g3 c; omega
      · have := g4 c; omega
    refine ⟨t, b, g0, g1, g2, g3, g4, ?_, g6⟩
    by_cases c : t = T
    · right
      rcases h with h | h | h
      · rw [c] at g2; exact absurd g2 h
      · have := g3 h.1; omega
      · have := g4 h.1; omega
    · left; omega
/-- below the first of the promotions there is none -/
theorem cPj_2 {A : Int → Int} {sd ps f T B x : Int} (h : (cOn sd f < 8 ∨ 55 < cOn sd f) ∧ B ≤ 2) (hB : 0 ≤ B) : cPj A sd ps f T 0 x ↔ cPj A sd ps f T B x := by
  constructor
  · rintro ⟨t, b, g0, g1, g2, g3, g4, g5, g6⟩
    exact ⟨t, b, g0, g1, g2, g3, g4, by omega, g6⟩
  · rintro ⟨t, b, g0, g1, g2, g3, g4, g5, g6⟩
    have := g3 h.1
    exact ⟨t, b, g0, g1, g2, g3, g4, by omega, g6⟩
theorem cPj_0 {A : Int → Int} {sd ps f x : Int} : ¬ cPj A sd ps f (cOn sd f - 1) 0 x := by
  rintro ⟨t, b, g0, g1, g2, g3, g4, g5, g6⟩
  by_cases c : cOn sd f < 8 ∨ 55 < cOn sd f
  · have := g3 c; omega
  · have := g4 c; omega
theorem cPj_t {A : Int → Int} {sd ps f T B u : Int} (hu : u = 8 - 16 * sd) (hs : sd = 0 ∨ sd = 1) : ¬ cPj A sd ps f T B (512 * f + 8 * (cOn sd f + u)) := by
  rintro ⟨t, b, g0, g1, g2, g3, g4, g5, g6⟩
  by_cases c : cOn sd f < 8 ∨ 55 < cOn sd f
  · have := g3 c; omega
  · have := g4 c; omega
end
