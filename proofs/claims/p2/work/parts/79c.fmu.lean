/-! unmake keeps its contract -/
theorem ud_16b (l : Nat) (hl : l < 65536) (c : BitVec 32) : ((BitVec.ofNat 64 l ||| (c.signExtend 64) <<< 16).sshiftRight 16).signExtend 32 = c := by
  apply BitVec.eq_of_getLsbD_eq
  intro i hi
  have h1 : i < 64 := by omega
  have h2 : 16 + i < 64 := by omega
  have h4 : ¬ 64 ≤ i := by omega
  have ht : l.testBit (16 + i) = false := Nat.testBit_lt_two_pow (Nat.lt_of_lt_of_le hl (by rw [show (65536 : Nat) = 2 ^ 16 by decide]; exact Nat.pow_le_pow_right (by decide) (by omega)))
  rw [BitVec.getLsbD_signExtend, BitVec.getLsbD_sshiftRight, BitVec.getLsbD_or, BitVec.getLsbD_ofNat, BitVec.getLsbD_shiftLeft, BitVec.getLsbD_signExtend]
  simp [hi, h1, h2, h4, ht]
theorem ud_16 (l : Nat) (hl : l < 65536) (c : Int32) : (ud64 l c >>> (Int32.toInt64 16 &&& 63)).toInt32 = c := by
  apply Int32.toBitVec_inj.mp
  have h := ud_16b l hl c.toBitVec
  simpa [ud64, lN] using h
theorem bUd_0 : ∀ (k r : Fin 16) (q : Fin 65), ((nI k.val ||| nI r.val <<< (4 &&& 31)) ||| nI q.val <<< (8 &&& 31)).toInt64 = lN (k.val + 16 * r.val + 256 * q.val) := by decide +kernel
theorem bUd_64 {F : Nat → Int32} {k : Nat} (hk : k < 16) (h3 : 0 ≤ (F 3).toInt ∧ (F 3).toInt ≤ 15) (h4 : -1 ≤ (F 4).toInt ∧ (F 4).toInt ≤ 63) : bUd F k = ud64 (k + 16 * (F 3).toInt.toNat + 256 * ((F 4).toInt + 1).toNat) (F 5) := by
  have e := bUd_0 ⟨k, hk⟩ ⟨(F 3).toInt.toNat, by omega⟩ ⟨((F 4).toInt + 1).toNat, by omega⟩
  dsimp only at e
  have e3 : nI (F 3).toInt.toNat = F 3 := (fNi h3.1).symm
  have e4 : nI ((F 4).toInt + 1).toNat = F 4 + 1 := by
    apply Int32.toInt_inj.mp
    rw [nI_toInt (by omega), Int32.toInt_add, show (1 : Int32).toInt = 1 by decide, Int.bmod_eq_of_le (by omega) (by omega)]
    omega
  rw [e3, e4] at e
  unfold bUd ud64
  rw [e]
theorem fMen_hi {men : Nat → Int32} {f t w q mm sd i : Nat} (hi : 64 ≤ i) (hf : f < 64) (ht : t < 64) (hw : w < 64) (hc : nI mm &&& 7 = 6 → nI t - nI f = 2 → f + 3 < 64) : bMen men f t w q mm sd i = men i := by
  by_cases c1 : nI mm &&& 7 = 6 ∧ nI t - nI f = 2
  · have := hc c1.1 c1.2
    rw [fMenS c1, if_neg (by omega), if_neg (by omega), if_neg (by omega), if_neg (by omega), if_neg (by omega)]
  · by_cases c2 : nI mm &&& 7 = 6 ∧ nI f - nI t = 2
    · rw [fMenL c1 c2, if_neg (by omega), if_neg (by omega), if_neg (by omega), if_neg (by omega), if_neg (by omega)]
    · rw [fMenN c1 c2, if_neg (by omega), if_neg (by omega), if_neg (by omega)]
theorem fX11 : ∀ sd, sd < 2 → (nI sd ^^^ 1) ^^^ 1 = nI sd := by decide
theorem ae_BOunmake {l : Launch} {E : jE} {K : Nat → Nat} {n : Nat} : aMe (fF K n) l E jcl jtb lw_tbl fa_T K n (fJX K n) ag_BOunmake := by
  intro p σ ρ hH hX hA hM
  have hG := aAG_of hA.1 (fun i e v he hv => (hA.2 i e v he hv).1)
  clear hA
  obtain ⟨v0, v1, v2, rfl, g0, g1, g2⟩ := fA_3 hG
  clear hG
  obtain ⟨a, rfl, ha, hka⟩ := fG_ref (by decide) g0
  obtain ⟨m, rfl, bm, dm⟩ := aG_int g1
  obtain ⟨u, rfl⟩ := aG_lng g2
  dsimp only at bm dm
  obtain ⟨-, -, -, m4⟩ := hM
  have f0 : fB K n (fSh p [fI m]) 1 [fR a] σ := by
    obtain ⟨w, e6, e7⟩ := m4 (17, [0, 1]) (List.mem_of_getElem? (i := 0) rfl)
    obtain rfl : [fR a, fI m] = w := Option.some.inj (show some [fR a, fI m] = some w from e6)
    unfold fF at e7
    rw [if_pos (by decide)] at e7
    exact e7
  have f1 : fB K n p 3 [fI m] σ := by
    obtain ⟨w, e6, e7⟩ := m4 (49, [1]) (List.mem_of_getElem? (i := 1) rfl)
    obtain rfl : [fI m] = w := Option.some.inj (show some [fI m] = some w from e6)
    exact (fF_b (r := 49) (by decide) rfl).mp e7
  have f2 : fB K n p 4 [fI m, .inr (.inl u)] σ := by
    obtain ⟨w, e6, e7⟩ := m4 (66, [1, 2]) (List.mem_of_getElem? (i := 2) rfl)
    obtain rfl : [fI m, .inr (.inl u)] = w := Option.some.inj (show some [fI m, .inr (.inl u)] = some w from e6)
    exact (fF_b (r := 66) (by decide) rfl).mp e7
  clear m4
  obtain ⟨m9, u9, e, hu, h5, hg, q, rfl⟩ := f2
  cases e
  obtain ⟨m9, e, hm⟩ := f1
  cases e
  obtain ⟨a9, e, h0, -⟩ := f0
  cases e
  obtain ⟨men, F⟩ := q
  replace h5 : 0 ≤ (F 5).toInt := h5
  replace hg : fGood men F := hg
  replace hm : fM men F m := hm
  replace h0 : fAt K n σ a (fPl (men, F) m).1 (fPl (men, F) m).2 := h0
  replace hu : u = bUd F (men (bWh men F (fMf m) (fMt m)).toNatClampNeg).toNatClampNeg := hu
  obtain ⟨n0, Fc, A, L, hl, hσ, r2, r3, r4, r5, rm, rk, r12, r6⟩ := fRel hH hX h0
  obtain ⟨w, mm, k, sd, es, em, ew, ek, hf, ht, hb, hw, hmm, hk, hsd, hOK, hman, htk, hs2, hwh, hc1, hc2⟩ := fMk_pre (m1 := fun i => if i < 64 then men i else A 0 i) (F1 := F) hg hm bm (fun i hi => if_pos hi) rfl rfl
  obtain ⟨i1, i2, i3⟩ := fMvNi bm
  obtain ⟨o1, o2, o3, o4, o5, o6⟩ := fUk_pre (m1 := fun i => if i < 64 then men i else A 0 i) hg hm (fun i hi => if_pos hi) es em ew ek
  have hp' : fPl (men, F) m = (bMen men (fMf m) (fMt m) w (bQ mm (fMb m)) mm sd, fFw (bF F (bMen men (fMf m) (fMt m) w (bQ mm (fMb m)) mm sd) (fMf m) (fMt m) mm k) (bMen men (fMf m) (fMt m) w (bQ mm (fMb m)) mm sd)) := by
    rw [ek, es, em, ew]
    rfl
  have hAA : A 0 = bMen (fun i => if i < 64 then men i else A 0 i) (fMf m) (fMt m) w (bQ mm (fMb m)) mm sd := by
    funext i
    by_cases hi : i < 64
    · rw [rm i hi, hp']
      exact (fMen_cg (fun j hj => if_pos hj) i hi).symm
    · rw [fMen_hi (by omega) hf ht hw hc1, if_neg hi]
  have hu2 : u = bUd F k := by rw [hu, ← ew, ← ek]
  have g3 := hg.2.2.2.1
  have g4 : -1 ≤ (F 4).toInt ∧ (F 4).toInt ≤ 63 := by
    rcases hg.1 with z | ⟨z1, z2, z3, z4, z5⟩
    · omega
    · have y := hg.2.2.1
      by_cases x : (F 2).toInt = 0
      · have := z4 x
        omega
      · have := z5 (by omega)
        omega
  have hu3 := bUd_64 (F := F) hk g3 g4
  rw [← hu2] at hu3
  have p2 : Fc 2 ^^^ 1 = nI sd := by
    rw [r2, hp']
    show (F 2 ^^^ 1) ^^^ 1 = nI sd
    rw [hs2]
    exact fX11 sd hsd
  have pk : u.toInt32 &&& 15 = nI k := by
    rw [hu3, ud_0]
    congr 1
    omega
  have pr : (u >>> (Int32.toInt64 4 &&& 63)).toInt32 &&& 15 = F 3 := by
    rw [hu3, ud_4, show (k + 16 * (F 3).toInt.toNat + 256 * ((F 4).toInt + 1).toNat) / 16 % 16 = (F 3).toNatClampNeg by rw [fNc]; omega]
    exact (fNi g3.1).symm
  have pp : ((u >>> (Int32.toInt64 8 &&& 63)).toInt32 &&& 127) - 1 = F 4 := by
    rw [hu3, ud_8]
    apply Int32.toInt_inj.mp
    rw [Int32.toInt_sub, nI_toInt (by omega), show (1 : Int32).toInt = 1 by decide, Int.bmod_eq_of_le (by omega) (by omega)]
    omega
  have pc : (u >>> (Int32.toInt64 16 &&& 63)).toInt32 = F 5 := by
    rw [hu3]
    exact ud_16 _ (by omega) _
  have hj := c_BO_unmake l E σ n a n0 hl.1 hl.2.1 Fc A L m u (fMf m) (fMt m) (fMb m) w mm k sd (fun i => if i < 64 then men i else A 0 i) F hf ht hb hw hmm hk hsd i1 i2 i3 hOK hAA p2 pk pr pp hs2 hman htk hwh o1 o2 o3 o4 o5 o6 (by obtain ⟨kd, x1, x2, -⟩ := fMen_ok hg hm es em ew; omega)
  rw [← hσ] at hj
  refine jMet_post hj (fun r σ' n' hp => ?_)
  obtain ⟨F', A', L', rfl, rfl, rfl, hbk, hA', hK', hW', q2, q3, q4, q5, q16⟩ := hp
  clear hj
  rw [pc] at q5
  have cm : ∀ i, i < 64 → A' 0 i = men i := fun i hi => by rw [hA']; exact if_pos hi
  have hmk : menOK (A' 0) := by rw [hA']; exact hOK
  have hgp := fGood_pl hg hm
  have hws : bWs A := fun c hc => by
    have h1 : A 3 c = (fPl (men, F) m).2 (12 + c) := by
      have c2 : c = 0 ∨ c = 1 := by omega
      rcases c2 with rfl | rfl
      · exact r12.1
      · exact r12.2
    rw [h1, (hgp.2.1 c hc).2.2]
    exact (fBw r6 rm (fun i hi => ⟨(hgp.2.2.2.2 i hi).1, (hgp.2.2.2.2 i hi).2.1⟩) 64 (Nat.le_refl _)).symm
  have cw : ∀ c, c < 2 → A' 3 c = F (12 + c) := fun c hc => by
    rw [hW' hws c hc, hbk.1, (hg.2.1 c hc).2.2]
    exact fBw r6 cm (fun i hi => ⟨(hg.2.2.2.2 i hi).1, (hg.2.2.2.2 i hi).2.1⟩) 64 (Nat.le_refl _)
  refine ⟨rfl, fBd_out hH ha hka hl hσ hmk (hK' rk) hbk (by rw [q2]; exact hg.2.2.1) (by rw [q3]; exact g3) (by rw [q4]; exact g4) ⟨by rw [q5]; exact h5, by rw [q5]; have := Int32.toInt_lt (F 5); dsimp only; omega⟩ q16, fBd_jx hH ha hka hl hσ hbk hX, fBd_fr hH ha hka hl hσ q16, fBd_fa hH ha hka hl hσ hbk _, rfl, [], ?_, ?_, [], List.mem_cons_self, fun f h => (by cases h)⟩
  · refine ⟨rfl, fun i e v he hv => ?_⟩
    match i, he, hv with
    | 0, he, hv => obtain rfl := Option.some.inj he; obtain rfl := Option.some.inj hv; exact ⟨⟨ha, Or.inl hka⟩, trivial⟩
    | 1, he, hv => obtain rfl := Option.some.inj he; obtain rfl := Option.some.inj hv; exact ⟨⟨bm, dm⟩, trivial⟩
    | 2, he, hv => obtain rfl := Option.some.inj he; obtain rfl := Option.some.inj hv; exact ⟨trivial, trivial⟩
    | k + 3, he, hv => simp [aPe, ag_BOunmake] at he
  · refine ⟨fun q h => (by cases h), fun q h => (by cases h), fun q h => (by cases h), aAllc ⟨_, rfl, (fF_b (r := 17) (by decide) rfl).mpr ?_⟩ (fun f h => by cases h)⟩
    exact ⟨a, rfl, ⟨ha, hka, bd_fl n0 F', n0, A' 0, fBd_a, rfl, by have := hl.2.1; omega, hl.2.2.1 0 (by decide), fBd_r (j := 0) hl.1 (by decide), cm, (show some (fI (F' 2)) = some (fI (F 2)) from by rw [q2]), (show some (fI (F' 3)) = some (fI (F 3)) from by rw [q3]), (show some (fI (F' 4)) = some (fI (F 4)) from by rw [q4]), (show some (fI (F' 5)) = some (fI (F 5)) from by rw [q5]), n0 + 3, A' 3, rfl, by have := hl.2.1; omega, hl.2.2.1 3 (by decide), fBd_r (j := 3) hl.1 (by decide), cw 0 (by decide), cw 1 (by decide)⟩, hg, _, rfl⟩

