/-! make, in the form of the check -/
theorem fRel {K : Nat → Nat} {n : Nat} {σ : Nat → jcell} (hH : aH fa_T K n σ) (hX : fJX K n σ) {a : Nat} {men F : Nat → Int32} (h0 : fAt K n σ a men F) : ∃ (n0 : Nat) (F0 : Nat → Int32) (A : Nat → Nat → Int32) (L : Nat → Nat → Int64), fLay K n σ a n0 ∧ σ = bdP σ a n0 F0 A L ∧ F0 2 = F 2 ∧ F0 3 = F 3 ∧ F0 4 = F 4 ∧ F0 5 = F 5 ∧ (∀ i, i < 64 → A 0 i = men i) ∧ kOK (A 1) ∧ (A 3 0 = F 12 ∧ A 3 1 = F 13) ∧ (∀ j, 64 ≤ j → j < 960 → A 6 j = fWa j) := by
  obtain ⟨n0, hl⟩ := hX.2.2.1 a h0.1 h0.2.1
  obtain ⟨F0, A, L, hσ⟩ := fBd_in hH h0.1 h0.2.1 hl
  have hsa : σ a = .inr (10, bd_fl n0 F0) := (congrFun hσ a).trans fBd_a
  have hF := fAt_of h0 hsa
  obtain ⟨g, r1, r2⟩ := hF.1 n0 rfl
  have r3 : σ (n0 + 0) = bd_c A L 0 := (congrFun hσ (n0 + 0)).trans (fBd_r hl.1 (by decide))
  have r4 : (.inl (.int, 64, .inl g) : jcell) = .inl (.int, 64, .inl (A 0)) := r1.symm.trans r3
  cases r4
  obtain ⟨gw, u1, u2⟩ := fAt_w h0 hsa (r := n0 + 3) rfl
  have u3 : σ (n0 + 3) = bd_c A L 3 := (congrFun hσ (n0 + 3)).trans (fBd_r hl.1 (by decide))
  have u4 : (.inl (.int, 2, .inl gw) : jcell) = .inl (.int, 2, .inl (A 3)) := u1.symm.trans u3
  cases u4
  obtain ⟨g6, t1, t2⟩ := hX.2.2.2 (n0 + 6) (by have := hl.2.1; omega) (hl.2.2.1 6 (by decide))
  have t3 : σ (n0 + 6) = bd_c A L 6 := (congrFun hσ (n0 + 6)).trans (fBd_r hl.1 (by decide))
  have t4 : (.inl (.int, 1024, .inl g6) : jcell) = .inl (.int, 1024, .inl (A 6)) := t1.symm.trans t3
  cases t4
  refine ⟨n0, F0, A, L, hl, hσ, hF.2.1 _ rfl, hF.2.2.1 _ rfl, hF.2.2.2.1 _ rfl, hF.2.2.2.2 _ rfl, r2, fun i hi => ?_, u2, t2⟩
  have k1 : σ (n0 + 1) = bd_c A L 1 := (congrFun hσ (n0 + 1)).trans (fBd_r hl.1 (by decide))
  have k2 := hH (n0 + 1) (by have := hl.2.1; omega) _ (show fa_T[K (n0 + 1)]? = some _ by rw [hl.2.2.1 1 (by decide)]; rfl)
  rw [k1] at k2
  obtain ⟨-, -, -, k3⟩ := k2
  have k4 := (k3 i hi).1
  have k5 : 0 ≤ (A 1 i).toInt ∧ (A 1 i).toInt ≤ 63 := k4
  exact ⟨(A 1 i).toNatClampNeg, by rw [fNc]; omega, fNi k5.1⟩
/-- the worth of the men, by the table in the picture and by the one on paper -/
theorem fBw {W m1 men : Nat → Int32} {c : Nat} (hW : ∀ j, 64 ≤ j → j < 960 → W j = fWa j) (h : ∀ i, i < 64 → m1 i = men i) (hr : ∀ i, i < 64 → 0 ≤ (men i).toInt ∧ (men i).toInt ≤ 14) : ∀ k, k ≤ 64 → bSn W c m1 k = bSn fWa c men k
  | 0, _ => rfl
  | k + 1, hk => by
    show bSn W c m1 k + bW W c (m1 k) k = bSn fWa c men k + bW fWa c (men k) k
    rw [fBw hW h hr k (by omega), h k (by omega)]
    have r := hr k (by omega)
    unfold bW
    by_cases z : (men k).toNatClampNeg = 0
    · rw [if_pos z, if_pos z]
    · rw [if_neg z, if_neg z]
      have e : (men k).toNatClampNeg = (men k).toInt.toNat := rfl
      rw [hW _ (by omega) (by omega)]
theorem fMen_cg {m1 m2 : Nat → Int32} (h : ∀ i, i < 64 → m1 i = m2 i) {f t w q mm sd : Nat} : ∀ i, i < 64 → bMen m1 f t w q mm sd i = bMen m2 f t w q mm sd i := by
  intro i hi
  have e := h i hi
  unfold bMen
  split
  · simp only [upd, e]
  · split
    · simp only [upd, e]
    · simp only [upd, e]
theorem fPB_cg {m1 m2 F1 F2 : Nat → Int32} (h : ∀ i, i < 64 → m1 i = m2 i) (hF : F1 2 = F2 2) {f t : Nat} (ht : t < 64) : bPB m1 F1 f t = bPB m2 F2 f t := by
  unfold bPB
  rw [hF, h (t - 1) (by omega)]
  by_cases h7 : t + 1 < 64
  · rw [h (t + 1) h7]
  · obtain rfl : t = 63 := by omega
    have e : ¬ (nI 63 &&& 7 < 7) := by decide
    simp only [e, false_and, or_false]
theorem fWh_cg {m1 m2 F1 F2 : Nat → Int32} {f t : Nat} (h : m1 f = m2 f) (h2 : F1 2 = F2 2) (h4 : F1 4 = F2 4) : bWh m1 F1 f t = bWh m2 F2 f t := by
  unfold bWh bPP
  rw [h, h2, h4]
theorem fMvNi {m : Int32} (h : 0 ≤ m.toInt) : m >>> (9 &&& 31) = nI (fMf m) ∧ m >>> (3 &&& 31) &&& 63 = nI (fMt m) ∧ m &&& 7 = nI (fMb m) := by
  obtain ⟨c, e1, -⟩ := aShr_l m 9
  obtain ⟨d, e3, -⟩ := aShr_l m 3
  have h1 : 0 ≤ (m >>> (9 &&& 31)).toInt := by rw [e1]; exact Int.ediv_nonneg h (Int.pow_nonneg (by decide))
  have h3 : 0 ≤ (m >>> (3 &&& 31)).toInt := by rw [e3]; exact Int.ediv_nonneg h (Int.pow_nonneg (by decide))
  exact ⟨fNi h1, fNi (by rw [fAnd h3 (by decide)]; omega), fNi (by rw [fAnd h (by decide)]; omega)⟩
/-- what make needs, out of a good position and a move that fits it -/
theorem fMk_pre {men F m1 F1 : Nat → Int32} (hg : fGood men F) {m : Int32} (hm : fM men F m) (h0 : 0 ≤ m.toInt) (hA : ∀ i, i < 64 → m1 i = men i) (h2 : F1 2 = F 2) (h4 : F1 4 = F 4) : ∃ w mm k sd : Nat, sd = (F 2).toNatClampNeg ∧ mm = (men (fMf m)).toNatClampNeg ∧ w = (bWh men F (fMf m) (fMt m)).toNatClampNeg ∧ k = (men w).toNatClampNeg ∧ fMf m < 64 ∧ fMt m < 64 ∧ fMb m < 8 ∧ w < 64 ∧ mm < 16 ∧ k < 16 ∧ sd < 2 ∧ menOK m1 ∧ m1 (fMf m) = nI mm ∧ m1 w = nI k ∧ F1 2 = nI sd ∧ bWh m1 F1 (fMf m) (fMt m) = nI w ∧ (nI mm &&& 7 = 6 → nI (fMt m) - nI (fMf m) = 2 → fMf m + 3 < 64) ∧ (nI mm &&& 7 = 6 → nI (fMf m) - nI (fMt m) = 2 → 4 ≤ fMf m) := by
  obtain ⟨k, hk, hmk, hsd, hw64, hwf, hwt, -⟩ := fMen_ok hg hm rfl rfl rfl
  obtain ⟨k', hk', how, hf, ht, hb, hft, hbk, hk1, hk2, hk3⟩ := hm
  obtain ⟨g1, g2, g3, g4, g5⟩ := hg
  have q1 := g5 _ hf
  have q2 := g5 _ hw64
  have emm : (men (fMf m)).toNatClampNeg = (men (fMf m)).toInt.toNat := rfl
  have ekk : (men (bWh men F (fMf m) (fMt m)).toNatClampNeg).toNatClampNeg = (men (bWh men F (fMf m) (fMt m)).toNatClampNeg).toInt.toNat := rfl
  have esd : (F 2).toNatClampNeg = (F 2).toInt.toNat := rfl
  have hkk : k' = k := by unfold fOw at how; omega
  subst hkk
  have nk := fNk0 ⟨(men (fMf m)).toNatClampNeg, by omega⟩
  have nd := fNd0 ⟨fMf m, hf⟩ ⟨fMt m, ht⟩
  have nd2 := fNd0 ⟨fMt m, ht⟩ ⟨fMf m, hf⟩
  dsimp only at nk nd nd2
  have hwn : 0 ≤ (bWh men F (fMf m) (fMt m)).toInt := by
    unfold bWh
    split
    next c =>
      have e4 : (F 4).toInt = fMt m := by rw [← c.2, nI_toInt (by omega)]
      rcases g1 with g1 | ⟨p1, p2, p3, p4, p5⟩
      · omega
      · rw [fPp8 (by omega) g3]
        unfold fPp
        split
        next z => have := p4 z; omega
        next z => omega
    next => rw [nI_toInt (by omega)]; omega
  refine ⟨_, _, _, _, rfl, rfl, rfl, rfl, hf, ht, hb, hw64, by omega, by omega, hsd, fun i hi => ?_, ?_, ?_, ?_, ?_, fun c1 c2 => ?_, fun c1 c2 => ?_⟩
  · have := g5 i hi
    exact ⟨(men i).toNatClampNeg, by rw [fNc]; omega, by rw [hA i hi]; exact fNi this.1⟩
  · rw [hA _ hf]; exact fNi q1.1
  · rw [hA _ hw64]; exact fNi q2.1
  · rw [h2]; exact fNi g3.1
  · rw [fWh_cg (hA _ hf) h2 h4]; exact fNi hwn
  · have a1 := nk.1.mp c1
    have a2 := nd.1.mp c2
    have a3 := (hk1 (by omega) a2).1
    omega
  · have a1 := nk.1.mp c1
    have a2 := nd2.1.mp c2
    have a3 := (hk2 (by omega) a2).1
    omega
/-- what unmake needs beyond make -/
theorem fUk_pre {men F m1 : Nat → Int32} (hg : fGood men F) {m : Int32} (hm : fM men F m) (hA : ∀ i, i < 64 → m1 i = men i) {w mm k sd : Nat} (es : sd = (F 2).toNatClampNeg) (em : mm = (men (fMf m)).toNatClampNeg) (ew : w = (bWh men F (fMf m) (fMt m)).toNatClampNeg) (ek : k = (men w).toNatClampNeg) : ¬ fMf m = fMt m ∧ ¬ w = fMf m ∧ (w = fMt m ∨ m1 (fMt m) = 0) ∧ (¬ nI (fMb m) = 0 → mm = sd * 8 + 1) ∧ (nI mm &&& 7 = 6 → nI (fMt m) - nI (fMf m) = 2 → fMt m = fMf m + 2 ∧ fMf m + 3 < 64 ∧ w = fMt m ∧ k = 0 ∧ m1 (fMf m + 3) = nI (sd * 8 + 4) ∧ m1 (fMf m + 1) = 0) ∧ (nI mm &&& 7 = 6 → nI (fMf m) - nI (fMt m) = 2 → fMf m = fMt m + 2 ∧ 4 ≤ fMf m ∧ w = fMt m ∧ k = 0 ∧ m1 (fMf m - 4) = nI (sd * 8 + 4) ∧ m1 (fMf m - 1) = 0) := by
  obtain ⟨kd, hk, hmk, hsd, hw64, hwf, hwt, -⟩ := fMen_ok hg hm es em ew
  obtain ⟨k', hk', how, hf, ht, hb, hft, hbk, hk1, hk2, hk3⟩ := hm
  obtain ⟨g1, g2, g3, g4, g5⟩ := hg
  have q1 := g5 _ hf
  have ese : sd = (F 2).toInt.toNat := es
  have eme : mm = (men (fMf m)).toInt.toNat := em
  have eke : k = (men w).toInt.toNat := ek
  have hkk : k' = kd := by unfold fOw at how; omega
  subst hkk
  have nk := fNk0 ⟨mm, by omega⟩
  have nd := fNd0 ⟨fMf m, hf⟩ ⟨fMt m, ht⟩
  have nd2 := fNd0 ⟨fMt m, ht⟩ ⟨fMf m, hf⟩
  dsimp only at nk nd nd2
  have z : ∀ i, i < 64 → (men i).toInt = 0 → m1 i = 0 := fun i hi h => by
    rw [hA i hi]
    exact Int32.toInt_inj.mp (by rw [h]; decide)
  have ro : ∀ i, i < 64 → (men i).toInt = 8 * (F 2).toInt + 4 → m1 i = nI (sd * 8 + 4) := fun i hi h => by
    rw [hA i hi]
    apply Int32.toInt_inj.mp
    rw [nI_toInt (by omega), h]
    omega
  have wt : k' = 6 → w = fMt m := fun h => hwt.elim id (fun y => by omega)
  refine ⟨hft, hwf, ?_, fun h => ?_, fun c1 c2 => ?_, fun c1 c2 => ?_⟩
  · unfold bWh at ew
    by_cases c : men (fMf m) &&& 7 = 1 ∧ nI (fMt m) = F 4
    · right
      have e4 : (F 4).toInt = fMt m := by rw [← c.2, nI_toInt (by omega)]
      rcases g1 with g1 | ⟨p1, p2, -⟩
      · omega
      · apply z _ ht
        rw [e4] at p2
        exact p2
    · left
      rw [if_neg c] at ew
      rw [ew, nI_clamp (by omega)]
  · have b0 : ¬ fMb m = 0 := fun e => h (by rw [e]; decide)
    have := hbk.1 b0
    omega
  · have a1 := nk.1.mp c1
    have a2 := nd.1.mp c2
    obtain ⟨b1, b2, b3, b4⟩ := hk1 (by omega) a2
    have b5 := wt (by omega)
    have b6 : k = 0 := by
      rw [b5, a2] at eke
      rw [b3] at eke
      exact eke
    exact ⟨a2, by omega, b5, b6, ro _ (by omega) b4, z _ (by omega) b2⟩
  · have a1 := nk.1.mp c1
    have a2 := nd2.1.mp c2
    obtain ⟨b1, b2, b3, b4⟩ := hk2 (by omega) a2
    have b5 := wt (by omega)
    have b6 : k = 0 := by
      rw [b5, show fMt m = fMf m - 2 by omega] at eke
      rw [b3] at eke
      exact eke
    exact ⟨a2, by omega, b5, b6, ro _ (by omega) b4, z _ (by omega) b2⟩

