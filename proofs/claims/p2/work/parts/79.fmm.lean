/-! make, in the form of the check -/
theorem fRel {K : Nat → Nat} {n : Nat} {σ : Nat → jcell} (hH : aH fa_T K n σ) (hX : fJX K n σ) {a : Nat} {men F : Nat → Int32} (h0 : fAt K n σ a men F) : ∃ (n0 : Nat) (F0 : Nat → Int32) (A : Nat → Nat → Int32) (L : Nat → Nat → Int64), fLay K n σ a n0 ∧ σ = bdP σ a n0 F0 A L ∧ F0 2 = F 2 ∧ F0 3 = F 3 ∧ F0 4 = F 4 ∧ F0 5 = F 5 ∧ (∀ i, i < 64 → A 0 i = men i) ∧ kOK (A 1) := by
  obtain ⟨n0, hl⟩ := hX.2.2 a h0.1 h0.2.1
  obtain ⟨F0, A, L, hσ⟩ := fBd_in hH h0.1 h0.2.1 hl
  have hsa : σ a = .inr (10, bd_fl n0 F0) := (congrFun hσ a).trans fBd_a
  have hF := fAt_of h0 hsa
  obtain ⟨g, r1, r2⟩ := hF.1 n0 rfl
  have r3 : σ (n0 + 0) = bd_c A L 0 := (congrFun hσ (n0 + 0)).trans (fBd_r hl.1 (by decide))
  have r4 : (.inl (.int, 64, .inl g) : jcell) = .inl (.int, 64, .inl (A 0)) := r1.symm.trans r3
  cases r4
  refine ⟨n0, F0, A, L, hl, hσ, hF.2.1 _ rfl, hF.2.2.1 _ rfl, hF.2.2.2.1 _ rfl, hF.2.2.2.2 _ rfl, r2, fun i hi => ?_⟩
  have k1 : σ (n0 + 1) = bd_c A L 1 := (congrFun hσ (n0 + 1)).trans (fBd_r hl.1 (by decide))
  have k2 := hH (n0 + 1) (by have := hl.2.1; omega) _ (show fa_T[K (n0 + 1)]? = some _ by rw [hl.2.2.1 1 (by decide)]; rfl)
  rw [k1] at k2
  obtain ⟨-, -, -, k3⟩ := k2
  have k4 := (k3 i hi).1
  have k5 : 0 ≤ (A 1 i).toInt ∧ (A 1 i).toInt ≤ 63 := k4
  exact ⟨(A 1 i).toNatClampNeg, by rw [fNc]; omega, fNi k5.1⟩
theorem fMen_cg {m1 m2 : Nat → Int32} (h : ∀ i, i < 64 → m1 i = m2 i) {f t w q mm sd : Nat} : ∀ i, i < 64 → bMen m1 f t w q mm sd i = bMen m2 f t w q mm sd i := by
  intro i hi
  have e := h i hi
  unfold bMen
  split
  · simp only [upd, e]
  · split
    · simp only [upd, e]
    · simp only [upd, e]
theorem fPB_cg {m1 m2 F1 F2 : Nat → Int32} (h : ∀ i, i < 64 → m1 i = m2 i) (hF : F1 2 = F2 2) {f t : Nat} (ht : t < 64) : bPB m1 F1 f t = bPB m2 F2 f t := by
  unfold bPB
  rw [hF, h (t - 1) (by omega)]
  by_cases h7 : t + 1 < 64
  · rw [h (t + 1) h7]
  · obtain rfl : t = 63 := by omega
    have e : ¬ (nI 63 &&& 7 < 7) := by decide
    simp only [e, false_and, or_false]
theorem fWh_cg {m1 m2 F1 F2 : Nat → Int32} {f t : Nat} (h : m1 f = m2 f) (h2 : F1 2 = F2 2) (h4 : F1 4 = F2 4) : bWh m1 F1 f t = bWh m2 F2 f t := by
  unfold bWh bPP
  rw [h, h2, h4]
theorem fMvNi {m : Int32} (h : 0 ≤ m.toInt) : m >>> (9 &&& 31) = nI (fMf m) ∧ m >>> (3 &&& 31) &&& 63 = nI (fMt m) ∧ m &&& 7 = nI (fMb m) := by
  obtain ⟨c, e1, -⟩ := aShr_l m 9
  obtain ⟨d, e3, -⟩ := aShr_l m 3
  have h1 : 0 ≤ (m >>> (9 &&& 31)).toInt := by rw [e1]; exact Int.ediv_nonneg h (Int.pow_nonneg (by decide))
  have h3 : 0 ≤ (m >>> (3 &&& 31)).toInt := by rw [e3]; exact Int.ediv_nonneg h (Int.pow_nonneg (by decide))
  exact ⟨fNi h1, fNi (by rw [fAnd h3 (by decide)]; omega), fNi (by rw [fAnd h (by decide)]; omega)⟩
/-- what make needs, out of a good position and a move that fits it -/
theorem fMk_pre {men F m1 F1 : Nat → Int32} (hg : fGood men F) {m : Int32} (hm : fM men F m) (h0 : 0 ≤ m.toInt) (hA : ∀ i, i < 64 → m1 i = men i) (h2 : F1 2 = F 2) (h4 : F1 4 = F 4) : ∃ w mm k sd : Nat, sd = (F 2).toNatClampNeg ∧ mm = (men (fMf m)).toNatClampNeg ∧ w = (bWh men F (fMf m) (fMt m)).toNatClampNeg ∧ k = (men w).toNatClampNeg ∧ fMf m < 64 ∧ fMt m < 64 ∧ fMb m < 8 ∧ w < 64 ∧ mm < 16 ∧ k < 16 ∧ sd < 2 ∧ menOK m1 ∧ m1 (fMf m) = nI mm ∧ m1 w = nI k ∧ F1 2 = nI sd ∧ bWh m1 F1 (fMf m) (fMt m) = nI w ∧ (nI mm &&& 7 = 6 → nI (fMt m) - nI (fMf m) = 2 → fMf m + 3 < 64) ∧ (nI mm &&& 7 = 6 → nI (fMf m) - nI (fMt m) = 2 → 4 ≤ fMf m) := by
  obtain ⟨k, hk, hmk, hsd, hw64, hwf, hwt, -⟩ := fMen_ok hg hm rfl rfl rfl
  obtain ⟨k', hk', how, hf, ht, hb, hft, hbk, hk1, hk2, hk3⟩ := hm
  obtain ⟨g1, g2, g3, g4, g5⟩ := hg
  have q1 := g5 _ hf
  have q2 := g5 _ hw64
  have emm : (men (fMf m)).toNatClampNeg = (men (fMf m)).toInt.toNat := rfl
  have ekk : (men (bWh men F (fMf m) (fMt m)).toNatClampNeg).toNatClampNeg = (men (bWh men F (fMf m) (fMt m)).toNatClampNeg).toInt.toNat := rfl
  have esd : (F 2).toNatClampNeg = (F 2).toInt.toNat := rfl
  have hkk : k' = k := by unfold fOw at how; omega
  subst hkk
  have nk := fNk0 ⟨(men (fMf m)).toNatClampNeg, by omega⟩
  have nd := fNd0 ⟨fMf m, hf⟩ ⟨fMt m, ht⟩
  have nd2 := fNd0 ⟨fMt m, ht⟩ ⟨fMf m, hf⟩
  dsimp only at nk nd nd2
  have hwn : 0 ≤ (bWh men F (fMf m) (fMt m)).toInt := by
    unfold bWh
    split
    next c =>
      have e4 : (F 4).toInt = fMt m := by rw [← c.2, nI_toInt (by omega)]
      rcases g1 with g1 | ⟨p1, p2, p3, p4, p5⟩
      · omega
      · rw [fPp8 (by omega) g3]
        unfold fPp
        split
        next z => have := p4 z; omega
        next z => omega
    next => rw [nI_toInt (by omega)]; omega
  refine ⟨_, _, _, _, rfl, rfl, rfl, rfl, hf, ht, hb, hw64, by omega, by omega, hsd, fun i hi => ?_, ?_, ?_, ?_, ?_, fun c1 c2 => ?_, fun c1 c2 => ?_⟩
  · have := g5 i hi
    exact ⟨(men i).toNatClampNeg, by rw [fNc]; omega, by rw [hA i hi]; exact fNi this.1⟩
  · rw [hA _ hf]; exact fNi q1.1
  · rw [hA _ hw64]; exact fNi q2.1
  · rw [h2]; exact fNi g3.1
  · rw [fWh_cg (hA _ hf) h2 h4]; exact fNi hwn
  · have a1 := nk.1.mp c1
    have a2 := nd.1.mp c2
    have a3 := (hk1 (by omega) a2).1
    omega
  · have a1 := nk.1.mp c1
    have a2 := nd2.1.mp c2
    have a3 := (hk2 (by omega) a2).1
    omega

