/-! a move keeps a position good: the position behind it -/
theorem fGood_pl0 {men F : Nat → Int32} (hg : fGood men F) {f t b : Nat} (hm : fMv men F f t b) {sd mm w kk : Nat} (hs : sd = (F 2).toNatClampNeg) (hmm : mm = (men f).toNatClampNeg) (hw : w = (bWh men F f t).toNatClampNeg) : fGood (bMen men f t w (bQ mm b) mm sd) (fFw (bF F (bMen men f t w (bQ mm b) mm sd) f t mm kk) (bMen men f t w (bQ mm b) mm sd)) := by
  obtain ⟨k, hk, hmk, hsd, hw64, hwf, hwt, hat⟩ := fMen_ok hg hm hs hmm hw
  obtain ⟨k', hk', how, hf, ht, hb, hft, hbk, hk1, hk2, hk3⟩ := hm
  obtain ⟨g1, g2, g3, g4, g5⟩ := hg
  have hse : sd = (F 2).toInt.toNat := hs
  have hme : mm = (men f).toInt.toNat := hmm
  have hkk : k' = k := by unfold fOw at how; omega
  subst hkk
  have nk := fNk0 ⟨mm, by omega⟩
  dsimp only at nk
  have nd := fNd0 ⟨f, hf⟩ ⟨t, ht⟩
  have nd2 := fNd0 ⟨t, ht⟩ ⟨f, hf⟩
  dsimp only at nd nd2
  have hbq : bQ mm b < 16 ∧ (b = 0 → bQ mm b = mm) ∧ (¬ b = 0 → bQ mm b = 8 * sd + b) := by
    unfold bQ
    split
    · exact ⟨by omega, fun _ => rfl, fun h => absurd ‹b = 0› h⟩
    · exact ⟨by omega, fun h => absurd h ‹¬ b = 0›, fun _ => by omega⟩
  have z0 : (0 : Int32).toInt = 0 := by decide
  have h0f := g5 f hf
  generalize bMen men f t w (bQ mm b) mm sd = M at hat ⊢
  generalize hF : fFw (bF F M f t mm kk) M = F'
  have e12 : ∀ s, s < 2 → F' (12 + s) = bSn fWa s M 64 := by
    intro s hs
    have c2 : s = 0 ∨ s = 1 := by omega
    rcases c2 with rfl | rfl
    · rw [← hF]; rfl
    · rw [← hF]; rfl
  have e2 : F' 2 = F 2 ^^^ 1 := by rw [← hF]; rfl
  have e3 : F' 3 = F 3 &&& (tv_4.getD f 0 &&& tv_4.getD t 0) := by rw [← hF]; rfl
  have e4 : F' 4 = if nI mm &&& 7 = 1 then bPB M F f t else -1 := by rw [← hF]; rfl
  have s2 : (F' 2).toInt = 1 - (F 2).toInt := by rw [e2]; exact fX1 g3
  have kf := fKept0 ⟨f, hf⟩
  have kt := fKept0 ⟨t, ht⟩
  dsimp only at kf kt
  generalize tv_4.getD f 0 = xf at e3 kf
  generalize tv_4.getD t 0 = xt at e3 kt
  have e3i : (F' 3).toInt = (((F 3).toInt.toNat &&& (xf.toInt.toNat &&& xt.toInt.toNat) : Nat) : Int) := by
    have h1 := fAnd kf.1.1 kt.1.1
    rw [e3, fAnd g4.1 (by rw [h1]; omega), h1]
    rfl
  have bits := fBits ⟨(F 3).toInt.toNat, by omega⟩ ⟨xf.toInt.toNat, by omega⟩ ⟨xt.toInt.toNat, by omega⟩
  dsimp only at bits
  generalize (F 3).toInt.toNat &&& (xf.toInt.toNat &&& xt.toInt.toNat) = R at e3i bits
  have r16 : R ≤ 15 := bits.1
  replace bits := fun (_ : Unit) => bits
  replace kf := fun (_ : Unit) => kf
  replace kt := fun (_ : Unit) => kt
  replace nk := fun (_ : Unit) => nk
  replace nd := fun (_ : Unit) => nd
  replace nd2 := fun (_ : Unit) => nd2
  replace hk1 := fun (_ : Unit) => hk1
  replace hk2 := fun (_ : Unit) => hk2
  replace hk3 := fun (_ : Unit) => hk3
  replace hbk := fun (_ : Unit) => hbk
  replace hwt := fun (_ : Unit) => hwt
  replace hbq := fun (_ : Unit) => hbq
  replace g1 := fun (_ : Unit) => g1
  have keep : ∀ (i s v : Nat), s < 2 → i < 64 → ¬ i = f → ¬ i = t → (v = 6 ∧ i = 56 * s + 4 ∨ v = 4 ∧ (i = 56 * s + 7 ∨ i = 56 * s) ∧ ¬ f = 56 * s + 4) → (men i).toInt = 8 * s + v → (M i).toInt = 8 * s + v := by
    intro i s v h1 h2 h3 h4 h5 h6
    rcases hat i h2 with h | h | h | h
    · rw [h.1]; exact h6
    · exact absurd h.1 h4
    · exfalso
      rcases h.2.1 with h7 | h7
      · exact h3 h7
      · rcases hwt () with h8 | h8
        · exact h4 (h7.trans h8)
        · rw [← h7] at h8
          omega
    · exfalso
      omega
  refine ⟨?_, ?_, by omega, by omega, ?_⟩
  · by_cases c : nI mm &&& 7 = 1
    · rw [if_pos c] at e4
      have k1 : k' = 1 := by have := (nk ()).2.mp c; omega
      unfold bPB at e4
      by_cases d : nI t - nI f = 16 ∨ nI f - nI t = 16
      · rw [if_pos d] at e4
        have dd : t = f + 16 ∨ f = t + 16 := d.elim (fun h => Or.inl ((nd ()).2.1.mp h)) (fun h => Or.inr ((nd2 ()).2.1.mp h))
        obtain ⟨b0, m0, r0, r1⟩ := hk3 () k1 dd
        by_cases a : (0 < nI t &&& 7 ∧ M (t - 1) = (1 - F 2) <<< (3 &&& 31) ||| 1) ∨ (nI t &&& 7 < 7 ∧ M (t + 1) = (1 - F 2) <<< (3 &&& 31) ||| 1)
        · rw [if_pos a] at e4
          have p4 : (F' 4).toInt = ((f + t) / 2 : Nat) := by rw [e4]; exact (nd ()).2.2
          right
          have hp : fPp F' = t := by
            unfold fPp
            by_cases z : (F 2).toInt = 0
            · have := r0 z
              rw [if_neg (by omega)]
              omega
            · have := r1 (by omega)
              rw [if_pos (by omega)]
              omega
          refine ⟨by omega, ?_, ?_, fun z => ?_, fun z => ?_⟩
          · rw [show (F' 4).toInt.toNat = (f + t) / 2 by omega]
            rcases hat ((f + t) / 2) (by omega) with h | h | h | h
            · rw [h.1]; exact m0
            · exfalso; omega
            · rw [h.2.2]; exact z0
            · exfalso; omega
          · rw [hp, show ((t : Int).toNat) = t by omega]
            rcases hat t ht with h | h | h | h
            · exfalso; omega
            · rw [h.2, nI_toInt (by have := (hbq ()).1; omega)]
              have := (hbq ()).2.1 b0
              omega
            · exfalso; omega
            · exfalso; omega
          · have := r1 (by omega)
            omega
          · have := r0 (by omega)
            omega
        · rw [if_neg a] at e4
          exact Or.inl (by rw [e4]; decide)
      · rw [if_neg d] at e4
        exact Or.inl (by rw [e4]; decide)
    · rw [if_neg c] at e4
      exact Or.inl (by rw [e4]; decide)
  · intro s hs2
    have g2s := g2 s hs2
    have c2 : s = 0 ∨ s = 1 := by omega
    rcases c2 with rfl | rfl
    · rw [show ((4 ^ 0 : Nat) : Int) = 1 by decide, show ((2 * 4 ^ 0 : Nat) : Int) = 2 by decide] at g2s ⊢
      refine ⟨fun h => ?_, fun h => ?_, e12 0 (by decide)⟩
      · obtain ⟨u1, u2, u3⟩ := (bits ()).2.1 (by omega)
        have v2 := (kf ()).2.1 u2
        have v3 := (kt ()).2.1 u3
        obtain ⟨w1, w2⟩ := g2s.1 (by omega)
        exact ⟨keep 4 0 6 (by decide) (by decide) (by omega) (by omega) (by omega) w1, keep 7 0 4 (by decide) (by decide) (by omega) (by omega) (by omega) w2⟩
      · obtain ⟨u1, u2, u3⟩ := (bits ()).2.2.1 (by omega)
        have v2 := (kf ()).2.2.1 u2
        have v3 := (kt ()).2.2.1 u3
        obtain ⟨w1, w2⟩ := g2s.2.1 (by omega)
        exact ⟨keep 4 0 6 (by decide) (by decide) (by omega) (by omega) (by omega) w1, keep 0 0 4 (by decide) (by decide) (by omega) (by omega) (by omega) w2⟩
    · rw [show ((4 ^ 1 : Nat) : Int) = 4 by decide, show ((2 * 4 ^ 1 : Nat) : Int) = 8 by decide] at g2s ⊢
      refine ⟨fun h => ?_, fun h => ?_, e12 1 (by decide)⟩
      · obtain ⟨u1, u2, u3⟩ := (bits ()).2.2.2.1 (by omega)
        have v2 := (kf ()).2.2.2.1 u2
        have v3 := (kt ()).2.2.2.1 u3
        obtain ⟨w1, w2⟩ := g2s.1 (by omega)
        exact ⟨keep 60 1 6 (by decide) (by decide) (by omega) (by omega) (by omega) w1, keep 63 1 4 (by decide) (by decide) (by omega) (by omega) (by omega) w2⟩
      · obtain ⟨u1, u2, u3⟩ := (bits ()).2.2.2.2 (by omega)
        have v2 := (kf ()).2.2.2.2 u2
        have v3 := (kt ()).2.2.2.2 u3
        obtain ⟨w1, w2⟩ := g2s.2.1 (by omega)
        exact ⟨keep 60 1 6 (by decide) (by decide) (by omega) (by omega) (by omega) w1, keep 56 1 4 (by decide) (by decide) (by omega) (by omega) (by omega) w2⟩
  · intro i hi
    rcases hat i hi with h | h | h | h
    · rw [h.1]; exact g5 i hi
    · rw [h.2, nI_toInt (by have := (hbq ()).1; omega)]
      by_cases c : b = 0
      · have := (hbq ()).2.1 c
        by_cases c1 : k' = 1
        · have := (hbk ()).2 c1 c
          omega
        · omega
      · have := (hbq ()).2.2 c
        have := (hbk ()).1 c
        omega
    · rw [h.2.2, z0]; omega
    · rcases h.2.2.2 with h | h
      · rw [h, z0]; omega
      · rw [h, nI_toInt (by omega)]; omega
theorem fGood_pl {men F : Nat → Int32} {m : Int32} (hg : fGood men F) (hm : fM men F m) : fGood (fPl (men, F) m).1 (fPl (men, F) m).2 := fGood_pl0 hg hm rfl rfl rfl

