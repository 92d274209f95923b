/-! a move keeps a position good -/
theorem fAnd {x y : Int32} (hx : 0 ≤ x.toInt) (hy : 0 ≤ y.toInt) : (x &&& y).toInt = ((x.toInt.toNat &&& y.toInt.toNat : Nat) : Int) := by
  obtain ⟨e1, e2⟩ := aNat hx
  obtain ⟨e3, e4⟩ := aNat hy
  have k1 : x.toBitVec.toNat = x.toInt.toNat := by omega
  have k2 : y.toBitVec.toNat = y.toInt.toNat := by omega
  have k3 : (x &&& y).toBitVec.toNat = x.toInt.toNat &&& y.toInt.toNat := by rw [Int32.toBitVec_and, BitVec.toNat_and, k1, k2]
  have k4 : x.toInt.toNat &&& y.toInt.toNat ≤ x.toInt.toNat := Nat.and_le_left
  exact aNat' k3 (by omega)
theorem fBits : ∀ (a b c : Fin 16), a.val &&& (b.val &&& c.val) ≤ 15 ∧ ((a.val &&& (b.val &&& c.val)) / 1 % 2 = 1 → a.val / 1 % 2 = 1 ∧ b.val / 1 % 2 = 1 ∧ c.val / 1 % 2 = 1) ∧ ((a.val &&& (b.val &&& c.val)) / 2 % 2 = 1 → a.val / 2 % 2 = 1 ∧ b.val / 2 % 2 = 1 ∧ c.val / 2 % 2 = 1) ∧ ((a.val &&& (b.val &&& c.val)) / 4 % 2 = 1 → a.val / 4 % 2 = 1 ∧ b.val / 4 % 2 = 1 ∧ c.val / 4 % 2 = 1) ∧ ((a.val &&& (b.val &&& c.val)) / 8 % 2 = 1 → a.val / 8 % 2 = 1 ∧ b.val / 8 % 2 = 1 ∧ c.val / 8 % 2 = 1) := by decide +kernel
theorem fKept0 : ∀ (x : Fin 64), (0 ≤ (tv_4.getD x.val 0).toInt ∧ (tv_4.getD x.val 0).toInt ≤ 15) ∧ ((tv_4.getD x.val 0).toInt.toNat / 1 % 2 = 1 → ¬ x.val = 4 ∧ ¬ x.val = 7) ∧ ((tv_4.getD x.val 0).toInt.toNat / 2 % 2 = 1 → ¬ x.val = 4 ∧ ¬ x.val = 0) ∧ ((tv_4.getD x.val 0).toInt.toNat / 4 % 2 = 1 → ¬ x.val = 60 ∧ ¬ x.val = 63) ∧ ((tv_4.getD x.val 0).toInt.toNat / 8 % 2 = 1 → ¬ x.val = 60 ∧ ¬ x.val = 56) := by decide +kernel
theorem fNk0 : ∀ (m : Fin 16), ((nI m.val &&& 7 = 6) ↔ m.val % 8 = 6) ∧ ((nI m.val &&& 7 = 1) ↔ m.val % 8 = 1) := by decide +kernel
theorem fNd0 : ∀ (f t : Fin 64), ((nI t.val - nI f.val = 2) ↔ t.val = f.val + 2) ∧ ((nI t.val - nI f.val = 16) ↔ t.val = f.val + 16) ∧ ((nI f.val + nI t.val) >>> (1 &&& 31)).toInt = ((f.val + t.val) / 2 : Nat) := by decide +kernel
theorem fNi {x : Int32} (h : 0 ≤ x.toInt) : x = nI x.toNatClampNeg := by
  apply Int32.toInt_inj.mp
  have h1 := Int32.toInt_lt x
  rw [fNc, nI_toInt (by omega)]
  omega
theorem fX1 {x : Int32} (h : 0 ≤ x.toInt ∧ x.toInt ≤ 1) : (x ^^^ 1).toInt = 1 - x.toInt := by
  have := aXor_i (x := x) (y := 1) (A := (0, 1)) (B := (1, 1)) h (by unfold aIn; decide) (by decide)
  rw [this]
  omega
theorem fMenN {men : Nat → Int32} {f t w q mm sd : Nat} (h1 : ¬ (nI mm &&& 7 = 6 ∧ nI t - nI f = 2)) (h2 : ¬ (nI mm &&& 7 = 6 ∧ nI f - nI t = 2)) (i : Nat) : bMen men f t w q mm sd i = if i = t then nI q else if i = w then 0 else if i = f then 0 else men i := by
  unfold bMen
  rw [if_neg h1, if_neg h2]
  rfl
theorem fMenS {men : Nat → Int32} {f t w q mm sd : Nat} (h1 : nI mm &&& 7 = 6 ∧ nI t - nI f = 2) (i : Nat) : bMen men f t w q mm sd i = if i = f + 1 then nI (sd * 8 + 4) else if i = f + 3 then 0 else if i = t then nI q else if i = w then 0 else if i = f then 0 else men i := by
  unfold bMen
  rw [if_pos h1]
  rfl
theorem fMenL {men : Nat → Int32} {f t w q mm sd : Nat} (h1 : ¬ (nI mm &&& 7 = 6 ∧ nI t - nI f = 2)) (h2 : nI mm &&& 7 = 6 ∧ nI f - nI t = 2) (i : Nat) : bMen men f t w q mm sd i = if i = f - 1 then nI (sd * 8 + 4) else if i = f - 4 then 0 else if i = t then nI q else if i = w then 0 else if i = f then 0 else men i := by
  unfold bMen
  rw [if_neg h1, if_pos h2]
  rfl
theorem fPp8 {F : Nat → Int32} (h : 0 ≤ (F 4).toInt ∧ (F 4).toInt ≤ 63) (h2 : 0 ≤ (F 2).toInt ∧ (F 2).toInt ≤ 1) : (bPP F).toInt = fPp F := by
  have k8 : (8 : Int32).toInt = 8 := by decide
  unfold bPP fPp
  by_cases e : (F 2).toInt = 0
  · have e2 : F 2 = 0 := Int32.toInt_inj.mp (by rw [e]; decide)
    rw [if_pos e2, if_pos e, Int32.toInt_sub, k8]
    exact Int.bmod_eq_of_le (by omega) (by omega)
  · have e2 : ¬ F 2 = 0 := fun q => e (by rw [q]; decide)
    rw [if_neg e2, if_neg e, Int32.toInt_add, k8]
    exact Int.bmod_eq_of_le (by omega) (by omega)
/-- what a move does to the men: the squares that change, and what comes there -/
theorem fMen_ok {men F : Nat → Int32} (hg : fGood men F) {f t b : Nat} (hm : fMv men F f t b) {sd mm w : Nat} (hs : sd = (F 2).toNatClampNeg) (hmm : mm = (men f).toNatClampNeg) (hw : w = (bWh men F f t).toNatClampNeg) : ∃ k : Nat, (1 ≤ k ∧ k ≤ 6) ∧ mm = 8 * sd + k ∧ sd < 2 ∧ w < 64 ∧ ¬ w = f ∧ (w = t ∨ (k = 1 ∧ (men w).toInt = 8 * (1 - (sd : Int)) + 1)) ∧ ∀ i, i < 64 → (bMen men f t w (bQ mm b) mm sd i = men i ∧ ¬ i = f ∧ ¬ i = t ∧ ¬ i = w) ∨ (i = t ∧ bMen men f t w (bQ mm b) mm sd i = nI (bQ mm b)) ∨ (¬ i = t ∧ (i = f ∨ i = w) ∧ bMen men f t w (bQ mm b) mm sd i = 0) ∨ (k = 6 ∧ (f : Int) = 4 + 56 * (sd : Int) ∧ (((t = f + 2) ∧ (i = f + 1 ∨ i = f + 3)) ∨ ((f = t + 2) ∧ (i = f - 1 ∨ i = f - 4))) ∧ (bMen men f t w (bQ mm b) mm sd i = 0 ∨ bMen men f t w (bQ mm b) mm sd i = nI (sd * 8 + 4))) := by
  obtain ⟨k, hk, how, hf, ht, hb, hft, hbk, hk1, hk2, hk3⟩ := hm
  obtain ⟨g1, g2, g3, g4, g5⟩ := hg
  have hse : sd = (F 2).toInt.toNat := hs
  have hme : mm = (men f).toInt.toNat := hmm
  have h0f := g5 f hf
  have hmk : mm = 8 * sd + k := by unfold fOw at how; omega
  have nk := fNk0 ⟨mm, by omega⟩
  dsimp only at nk
  have nd := fNd0 ⟨f, hf⟩ ⟨t, ht⟩
  have nd2 := fNd0 ⟨t, ht⟩ ⟨f, hf⟩
  dsimp only at nd nd2
  have emf : men f = nI mm := by rw [hmm]; exact fNi h0f.1
  have hww : w < 64 ∧ ¬ w = f ∧ (w = t ∨ (k = 1 ∧ (men w).toInt = 8 * (1 - (sd : Int)) + 1)) := by
    unfold bWh at hw
    by_cases c : men f &&& 7 = 1 ∧ nI t = F 4
    · rw [if_pos c] at hw
      have e4 : (F 4).toInt = t := by rw [← c.2, nI_toInt (by omega)]
      have hk1' : k = 1 := by
        rw [emf] at c
        have := nk.2.mp c.1
        omega
      rcases g1 with g1 | ⟨p1, p2, p3, p4, p5⟩
      · omega
      · have hp := fPp8 (F := F) (by omega) g3
        have hwz : w = (fPp F).toNat := by rw [hw, fNc, hp]
        have hr : 0 ≤ fPp F ∧ fPp F ≤ 63 := by
          unfold fPp
          by_cases z : (F 2).toInt = 0
          · rw [if_pos z]
            have := p4 z
            omega
          · rw [if_neg z]
            have := p5 (by omega)
            omega
        rw [← hwz] at p3
        refine ⟨by omega, fun e => ?_, Or.inr ⟨hk1', by omega⟩⟩
        rw [e] at p3
        unfold fOw at how
        omega
    · rw [if_neg c] at hw
      have : w = t := by rw [hw, nI_clamp (by omega)]
      exact ⟨by omega, by omega, Or.inl this⟩
  refine ⟨k, hk, hmk, by omega, hww.1, hww.2.1, hww.2.2, fun i hi => ?_⟩
  by_cases c1 : nI mm &&& 7 = 6 ∧ nI t - nI f = 2
  · have q1 := nk.1.mp c1.1
    have q2 := nd.1.mp c1.2
    have q3 := hk1 (by omega) q2
    have q4 : w = t := hww.2.2.elim id (fun z => by omega)
    rw [fMenS c1]
    by_cases e1 : i = f + 1
    · rw [if_pos e1]; exact Or.inr (Or.inr (Or.inr ⟨by omega, by omega, Or.inl ⟨q2, Or.inl e1⟩, Or.inr rfl⟩))
    · rw [if_neg e1]
      by_cases e2 : i = f + 3
      · rw [if_pos e2]; exact Or.inr (Or.inr (Or.inr ⟨by omega, by omega, Or.inl ⟨q2, Or.inr e2⟩, Or.inl rfl⟩))
      · rw [if_neg e2]
        by_cases e3 : i = t
        · rw [if_pos e3]; exact Or.inr (Or.inl ⟨e3, rfl⟩)
        · rw [if_neg e3]
          by_cases e4 : i = w
          · rw [if_pos e4]; exact Or.inr (Or.inr (Or.inl ⟨e3, Or.inr e4, rfl⟩))
          · rw [if_neg e4]
            by_cases e5 : i = f
            · rw [if_pos e5]; exact Or.inr (Or.inr (Or.inl ⟨e3, Or.inl e5, rfl⟩))
            · rw [if_neg e5]; exact Or.inl ⟨rfl, e5, e3, e4⟩
  · by_cases c2 : nI mm &&& 7 = 6 ∧ nI f - nI t = 2
    · have q1 := nk.1.mp c2.1
      have q2 := nd2.1.mp c2.2
      have q3 := hk2 (by omega) q2
      rw [fMenL c1 c2]
      by_cases e1 : i = f - 1
      · rw [if_pos e1]; exact Or.inr (Or.inr (Or.inr ⟨by omega, by omega, Or.inr ⟨q2, Or.inl e1⟩, Or.inr rfl⟩))
      · rw [if_neg e1]
        by_cases e2 : i = f - 4
        · rw [if_pos e2]; exact Or.inr (Or.inr (Or.inr ⟨by omega, by omega, Or.inr ⟨q2, Or.inr e2⟩, Or.inl rfl⟩))
        · rw [if_neg e2]
          by_cases e3 : i = t
          · rw [if_pos e3]; exact Or.inr (Or.inl ⟨e3, rfl⟩)
          · rw [if_neg e3]
            by_cases e4 : i = w
            · rw [if_pos e4]; exact Or.inr (Or.inr (Or.inl ⟨e3, Or.inr e4, rfl⟩))
            · rw [if_neg e4]
              by_cases e5 : i = f
              · rw [if_pos e5]; exact Or.inr (Or.inr (Or.inl ⟨e3, Or.inl e5, rfl⟩))
              · rw [if_neg e5]; exact Or.inl ⟨rfl, e5, e3, e4⟩
    · rw [fMenN c1 c2]
      by_cases e3 : i = t
      · rw [if_pos e3]; exact Or.inr (Or.inl ⟨e3, rfl⟩)
      · rw [if_neg e3]
        by_cases e4 : i = w
        · rw [if_pos e4]; exact Or.inr (Or.inr (Or.inl ⟨e3, Or.inr e4, rfl⟩))
        · rw [if_neg e4]
          by_cases e5 : i = f
          · rw [if_pos e5]; exact Or.inr (Or.inr (Or.inl ⟨e3, Or.inl e5, rfl⟩))
          · rw [if_neg e5]; exact Or.inl ⟨rfl, e5, e3, e4⟩

