/-! unmake keeps its contract -/
theorem ud_16b (l : Nat) (hl : l < 65536) (c : BitVec 32) : ((BitVec.ofNat 64 l ||| (c.signExtend 64) <<< 16).sshiftRight 16).signExtend 32 = c := by
  apply BitVec.eq_of_getLsbD_eq
  intro i hi
  have h1 : i < 64 := by omega
  have h2 : 16 + i < 64 := by omega
  have h4 : ¬ 64 ≤ i := by omega
  have ht : l.testBit (16 + i) = false := Nat.testBit_lt_two_pow (Nat.lt_of_lt_of_le hl (by rw [show (65536 : Nat) = 2 ^ 16 by decide]; exact Nat.pow_le_pow_right (by decide) (by omega)))
  rw [BitVec.getLsbD_signExtend, BitVec.getLsbD_sshiftRight, BitVec.getLsbD_or, BitVec.getLsbD_ofNat, BitVec.getLsbD_shiftLeft, BitVec.getLsbD_signExtend]
  simp [hi, h1, h2, h4, ht]
theorem ud_16 (l : Nat) (hl : l < 65536) (c : Int32) : (ud64 l c >>> (Int32.toInt64 16 &&& 63)).toInt32 = c := by
  apply Int32.toBitVec_inj.mp
  have h := ud_16b l hl c.toBitVec
  simpa [ud64, lN] using h
theorem bUd_0 : ∀ (k r : Fin 16) (q : Fin 65), ((nI k.val ||| nI r.val <<< (4 &&& 31)) ||| nI q.val <<< (8 &&& 31)).toInt64 = lN (k.val + 16 * r.val + 256 * q.val) := by decide +kernel
theorem bUd_64 {F : Nat → Int32} {k : Nat} (hk : k < 16) (h3 : 0 ≤ (F 3).toInt ∧ (F 3).toInt ≤ 15) (h4 : -1 ≤ (F 4).toInt ∧ (F 4).toInt ≤ 63) : bUd F k = ud64 (k + 16 * (F 3).toInt.toNat + 256 * ((F 4).toInt + 1).toNat) (F 5) := by
  have e := bUd_0 ⟨k, hk⟩ ⟨(F 3).toInt.toNat, by omega⟩ ⟨((F 4).toInt + 1).toNat, by omega⟩
  dsimp only at e
  have e3 : nI (F 3).toInt.toNat = F 3 := (fNi h3.1).symm
  have e4 : nI ((F 4).toInt + 1).toNat = F 4 + 1 := by
    apply Int32.toInt_inj.mp
    rw [nI_toInt (by omega), Int32.toInt_add, show (1 : Int32).toInt = 1 by decide, Int.bmod_eq_of_le (by omega) (by omega)]
    omega
  rw [e3, e4] at e
  unfold bUd ud64
  rw [e]
theorem fMen_hi {men : Nat → Int32} {f t w q mm sd i : Nat} (hi : 64 ≤ i) (hf : f < 64) (ht : t < 64) (hw : w < 64) (hc : nI mm &&& 7 = 6 → nI t - nI f = 2 → f + 3 < 64) : bMen men f t w q mm sd i = men i := by
  by_cases c1 : nI mm &&& 7 = 6 ∧ nI t - nI f = 2
  · have := hc c1.1 c1.2
    rw [fMenS c1, if_neg (by omega), if_neg (by omega), if_neg (by omega), if_neg (by omega), if_neg (by omega)]
  · by_cases c2 : nI mm &&& 7 = 6 ∧ nI f - nI t = 2
    · rw [fMenL c1 c2, if_neg (by omega), if_neg (by omega), if_neg (by omega), if_neg (by omega), if_neg (by omega)]
    · rw [fMenN c1 c2, if_neg (by omega), if_neg (by omega), if_neg (by omega)]
/-- what unmake needs beyond make -/
theorem fUk_pre {men F m1 : Nat → Int32} (hg : fGood men F) {m : Int32} (hm : fM men F m) (hA : ∀ i, i < 64 → m1 i = men i) {w mm k sd : Nat} (es : sd = (F 2).toNatClampNeg) (em : mm = (men (fMf m)).toNatClampNeg) (ew : w = (bWh men F (fMf m) (fMt m)).toNatClampNeg) (ek : k = (men w).toNatClampNeg) : ¬ fMf m = fMt m ∧ ¬ w = fMf m ∧ (w = fMt m ∨ m1 (fMt m) = 0) ∧ (¬ nI (fMb m) = 0 → mm = sd * 8 + 1) ∧ (nI mm &&& 7 = 6 → nI (fMt m) - nI (fMf m) = 2 → fMt m = fMf m + 2 ∧ fMf m + 3 < 64 ∧ w = fMt m ∧ k = 0 ∧ m1 (fMf m + 3) = nI (sd * 8 + 4) ∧ m1 (fMf m + 1) = 0) ∧ (nI mm &&& 7 = 6 → nI (fMf m) - nI (fMt m) = 2 → fMf m = fMt m + 2 ∧ 4 ≤ fMf m ∧ w = fMt m ∧ k = 0 ∧ m1 (fMf m - 4) = nI (sd * 8 + 4) ∧ m1 (fMf m - 1) = 0) := by
  obtain ⟨kd, hk, hmk, hsd, hw64, hwf, hwt, -⟩ := fMen_ok hg hm es em ew
  obtain ⟨k', hk', how, hf, ht, hb, hft, hbk, hk1, hk2, hk3⟩ := hm
  obtain ⟨g1, g2, g3, g4, g5⟩ := hg
  have q1 := g5 _ hf
  have ese : sd = (F 2).toInt.toNat := es
  have eme : mm = (men (fMf m)).toInt.toNat := em
  have eke : k = (men w).toInt.toNat := ek
  have hkk : k' = kd := by unfold fOw at how; omega
  subst hkk
  have nk := fNk0 ⟨mm, by omega⟩
  have nd := fNd0 ⟨fMf m, hf⟩ ⟨fMt m, ht⟩
  have nd2 := fNd0 ⟨fMt m, ht⟩ ⟨fMf m, hf⟩
  dsimp only at nk nd nd2
  have z : ∀ i, i < 64 → (men i).toInt = 0 → m1 i = 0 := fun i hi h => by
    rw [hA i hi]
    exact Int32.toInt_inj.mp (by rw [h]; decide)
  have ro : ∀ i, i < 64 → (men i).toInt = 8 * (F 2).toInt + 4 → m1 i = nI (sd * 8 + 4) := fun i hi h => by
    rw [hA i hi]
    apply Int32.toInt_inj.mp
    rw [nI_toInt (by omega), h]
    omega
  have wt : k' = 6 → w = fMt m := fun h => hwt.elim id (fun y => by omega)
  refine ⟨hft, hwf, ?_, fun h => ?_, fun c1 c2 => ?_, fun c1 c2 => ?_⟩
  · unfold bWh at ew
    by_cases c : men (fMf m) &&& 7 = 1 ∧ nI (fMt m) = F 4
    · right
      have e4 : (F 4).toInt = fMt m := by rw [← c.2, nI_toInt (by omega)]
      rcases g1 with g1 | ⟨p1, p2, -⟩
      · omega
      · apply z _ ht
        rw [e4] at p2
        exact p2
    · left
      rw [if_neg c] at ew
      rw [ew, nI_clamp (by omega)]
  · have b0 : ¬ fMb m = 0 := fun e => h (by rw [e]; decide)
    have := hbk b0
    omega
  · have a1 := nk.1.mp c1
    have a2 := nd.1.mp c2
    obtain ⟨b1, b2, b3, b4⟩ := hk1 (by omega) a2
    have b5 := wt (by omega)
    have b6 : k = 0 := by
      rw [b5, a2] at eke
      rw [b3] at eke
      exact eke
    exact ⟨a2, by omega, b5, b6, ro _ (by omega) b4, z _ (by omega) b2⟩
  · have a1 := nk.1.mp c1
    have a2 := nd2.1.mp c2
    obtain ⟨b1, b2, b3, b4⟩ := hk2 (by omega) a2
    have b5 := wt (by omega)
    have b6 : k = 0 := by
      rw [b5, show fMt m = fMf m - 2 by omega] at eke
      rw [b3] at eke
      exact eke
    exact ⟨a2, by omega, b5, b6, ro _ (by omega) b4, z _ (by omega) b2⟩
theorem fX11 : ∀ sd, sd < 2 → (nI sd ^^^ 1) ^^^ 1 = nI sd := by decide
theorem ae_BOunmake {l : Launch} {E : jE} {K : Nat → Nat} {n : Nat} : aMe (fF K n) l E jcl jtb lw_tbl fa_T K n (fJX K n) ag_BOunmake := by
  intro p σ ρ hH hX hA hM
  have hG := aAG_of hA.1 (fun i e v he hv => (hA.2 i e v he hv).1)
  clear hA
  obtain ⟨v0, v1, v2, rfl, g0, g1, g2⟩ := fA_3 hG
  clear hG
  obtain ⟨a, rfl, ha, hka⟩ := fG_ref (by decide) g0
  obtain ⟨m, rfl, bm, dm⟩ := aG_int g1
  obtain ⟨u, rfl⟩ := aG_lng g2
  dsimp only at bm dm
  obtain ⟨-, -, -, m4⟩ := hM
  have f0 : fB K n (fSh p [fI m]) 1 [fR a] σ := by
    obtain ⟨w, e6, e7⟩ := m4 (17, [0, 1]) (List.mem_of_getElem? (i := 0) rfl)
    obtain rfl : [fR a, fI m] = w := Option.some.inj (show some [fR a, fI m] = some w from e6)
    unfold fF at e7
    rw [if_pos (by decide)] at e7
    exact e7
  have f1 : fB K n p 3 [fI m] σ := by
    obtain ⟨w, e6, e7⟩ := m4 (49, [1]) (List.mem_of_getElem? (i := 1) rfl)
    obtain rfl : [fI m] = w := Option.some.inj (show some [fI m] = some w from e6)
    exact (fF_b (r := 49) (by decide) rfl).mp e7
  have f2 : fB K n p 4 [fI m, .inr (.inl u)] σ := by
    obtain ⟨w, e6, e7⟩ := m4 (66, [1, 2]) (List.mem_of_getElem? (i := 2) rfl)
    obtain rfl : [fI m, .inr (.inl u)] = w := Option.some.inj (show some [fI m, .inr (.inl u)] = some w from e6)
    exact (fF_b (r := 66) (by decide) rfl).mp e7
  clear m4
  obtain ⟨m9, u9, e, hu, h5, hg, q, rfl⟩ := f2
  cases e
  obtain ⟨m9, e, hm⟩ := f1
  cases e
  obtain ⟨a9, e, h0, -⟩ := f0
  cases e
  obtain ⟨men, F⟩ := q
  replace h5 : 0 ≤ (F 5).toInt := h5
  replace hg : fGood men F := hg
  replace hm : fM men F m := hm
  replace h0 : fAt K n σ a (fPl (men, F) m).1 (fPl (men, F) m).2 := h0
  replace hu : u = bUd F (men (bWh men F (fMf m) (fMt m)).toNatClampNeg).toNatClampNeg := hu
  obtain ⟨n0, Fc, A, L, hl, hσ, r2, r3, r4, r5, rm, rk⟩ := fRel hH hX h0
  obtain ⟨w, mm, k, sd, es, em, ew, ek, hf, ht, hb, hw, hmm, hk, hsd, hOK, hman, htk, hs2, hwh, hc1, hc2⟩ := fMk_pre (m1 := fun i => if i < 64 then men i else A 0 i) (F1 := F) hg hm bm (fun i hi => if_pos hi) rfl rfl
  obtain ⟨i1, i2, i3⟩ := fMvNi bm
  obtain ⟨o1, o2, o3, o4, o5, o6⟩ := fUk_pre (m1 := fun i => if i < 64 then men i else A 0 i) hg hm (fun i hi => if_pos hi) es em ew ek
  have hp' : fPl (men, F) m = (bMen men (fMf m) (fMt m) w (bQ mm (fMb m)) mm sd, bF F (bMen men (fMf m) (fMt m) w (bQ mm (fMb m)) mm sd) (fMf m) (fMt m) mm k) := by
    rw [ek, es, em, ew]
    rfl
  have hAA : A 0 = bMen (fun i => if i < 64 then men i else A 0 i) (fMf m) (fMt m) w (bQ mm (fMb m)) mm sd := by
    funext i
    by_cases hi : i < 64
    · rw [rm i hi, hp']
      exact (fMen_cg (fun j hj => if_pos hj) i hi).symm
    · rw [fMen_hi (by omega) hf ht hw hc1, if_neg hi]
  have hu2 : u = bUd F k := by rw [hu, ← ew, ← ek]
  have g3 := hg.2.2.2.1
  have g4 : -1 ≤ (F 4).toInt ∧ (F 4).toInt ≤ 63 := by
    rcases hg.1 with z | ⟨z1, z2, z3, z4, z5⟩
    · omega
    · have y := hg.2.2.1
      by_cases x : (F 2).toInt = 0
      · have := z4 x
        omega
      · have := z5 (by omega)
        omega
  have hu3 := bUd_64 (F := F) hk g3 g4
  rw [← hu2] at hu3
  have p2 : Fc 2 ^^^ 1 = nI sd := by
    rw [r2, hp']
    show (F 2 ^^^ 1) ^^^ 1 = nI sd
    rw [hs2]
    exact fX11 sd hsd
  have pk : u.toInt32 &&& 15 = nI k := by
    rw [hu3, ud_0]
    congr 1
    omega
  have pr : (u >>> (Int32.toInt64 4 &&& 63)).toInt32 &&& 15 = F 3 := by
    rw [hu3, ud_4, show (k + 16 * (F 3).toInt.toNat + 256 * ((F 4).toInt + 1).toNat) / 16 % 16 = (F 3).toNatClampNeg by rw [fNc]; omega]
    exact (fNi g3.1).symm
  have pp : ((u >>> (Int32.toInt64 8 &&& 63)).toInt32 &&& 127) - 1 = F 4 := by
    rw [hu3, ud_8]
    apply Int32.toInt_inj.mp
    rw [Int32.toInt_sub, nI_toInt (by omega), show (1 : Int32).toInt = 1 by decide, Int.bmod_eq_of_le (by omega) (by omega)]
    omega
  have pc : (u >>> (Int32.toInt64 16 &&& 63)).toInt32 = F 5 := by
    rw [hu3]
    exact ud_16 _ (by omega) _
  have hj := c_BO_unmake l E σ n a n0 hl.1 hl.2.1 Fc A L m u (fMf m) (fMt m) (fMb m) w mm k sd (fun i => if i < 64 then men i else A 0 i) F hf ht hb hw hmm hk hsd i1 i2 i3 hOK hAA p2 pk pr pp hs2 hman htk hwh o1 o2 o3 o4 o5 o6
  rw [← hσ] at hj
  refine jMet_post hj (fun r σ' n' hp => ?_)
  obtain ⟨F', A', L', rfl, rfl, rfl, hbk, hA', hK', q2, q3, q4, q5, q16⟩ := hp
  clear hj
  rw [pc] at q5
  have cm : ∀ i, i < 64 → A' 0 i = men i := fun i hi => by rw [hA']; exact if_pos hi
  have hmk : menOK (A' 0) := by rw [hA']; exact hOK
  refine ⟨rfl, fBd_out hH ha hka hl hσ hmk (hK' rk) hbk (by rw [q2]; exact hg.2.2.1) (by rw [q3]; exact g3) (by rw [q4]; exact g4) ⟨by rw [q5]; exact h5, by rw [q5]; have := Int32.toInt_lt (F 5); dsimp only; omega⟩ q16, fBd_jx hH ha hka hl hσ hbk hX, fBd_fr hH ha hka hl hσ q16, fBd_fa hH ha hka hl hσ hbk _, rfl, [], ?_, ?_, [], List.mem_cons_self, fun f h => (by cases h)⟩
  · refine ⟨rfl, fun i e v he hv => ?_⟩
    match i, he, hv with
    | 0, he, hv => obtain rfl := Option.some.inj he; obtain rfl := Option.some.inj hv; exact ⟨⟨ha, Or.inl hka⟩, trivial⟩
    | 1, he, hv => obtain rfl := Option.some.inj he; obtain rfl := Option.some.inj hv; exact ⟨⟨bm, dm⟩, trivial⟩
    | 2, he, hv => obtain rfl := Option.some.inj he; obtain rfl := Option.some.inj hv; exact ⟨trivial, trivial⟩
    | k + 3, he, hv => simp [aPe, ag_BOunmake] at he
  · refine ⟨fun q h => (by cases h), fun q h => (by cases h), fun q h => (by cases h), aAllc ⟨_, rfl, (fF_b (r := 17) (by decide) rfl).mpr ?_⟩ (fun f h => by cases h)⟩
    exact ⟨a, rfl, ⟨ha, hka, bd_fl n0 F', n0, A' 0, fBd_a, rfl, by have := hl.2.1; omega, hl.2.2.1 0 (by decide), fBd_r (j := 0) hl.1 (by decide), cm, (show some (fI (F' 2)) = some (fI (F 2)) from by rw [q2]), (show some (fI (F' 3)) = some (fI (F 3)) from by rw [q3]), (show some (fI (F' 4)) = some (fI (F 4)) from by rw [q4]), (show some (fI (F' 5)) = some (fI (F 5)) from by rw [q5])⟩, hg, _, rfl⟩

