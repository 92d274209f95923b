/-! make keeps its contract -/
theorem fR_inj {a b : Nat} (h : some (fR a) = some (fR b)) : a = b := Sum.inl.inj (Option.some.inj (Sum.inr.inj (Sum.inr.inj (Option.some.inj h))))
theorem ae_BOmake {l : Launch} {E : jE} {K : Nat → Nat} {n : Nat} : aMe (fF K n) l E jcl jtb lw_tbl fa_T K n (fJX K n) ag_BOmake := by
  intro p σ ρ hH hX hA hM
  have hG := aAG_of hA.1 (fun i e v he hv => (hA.2 i e v he hv).1)
  clear hA
  obtain ⟨v0, v1, v2, rfl, g0, g1, g2⟩ := fA_3 hG
  clear hG
  obtain ⟨a, rfl, ha, hka⟩ := fG_ref (by decide) g0
  obtain ⟨m, rfl, bm, dm⟩ := aG_int g1
  obtain ⟨c, rfl, bc, dc⟩ := aG_int g2
  dsimp only at bm dm bc dc
  obtain ⟨m1, -, -, m4⟩ := hM
  obtain ⟨a', c', fs, w', e1, s0, t0, e4⟩ := m1 (0, 5, 2) (List.mem_of_getElem? (i := 0) rfl)
  obtain rfl : a = a' := fR_inj e1
  obtain rfl : fI c = w' := Option.some.inj (show some (fI c) = some _ from e4)
  have f0 : fB K n p 1 [fR a] σ := by
    obtain ⟨w, e6, e7⟩ := m4 (17, [0]) (List.mem_of_getElem? (i := 0) rfl)
    obtain rfl : [fR a] = w := Option.some.inj (show some [fR a] = some w from e6)
    exact (fF_b (r := 17) (by decide) rfl).mp e7
  have f1 : fB K n p 3 [fI m] σ := by
    obtain ⟨w, e6, e7⟩ := m4 (49, [1]) (List.mem_of_getElem? (i := 1) rfl)
    obtain rfl : [fI m] = w := Option.some.inj (show some [fI m] = some w from e6)
    exact (fF_b (r := 49) (by decide) rfl).mp e7
  clear m1 m4
  obtain ⟨a9, e, h0, hg, q, rfl⟩ := f0
  cases e
  obtain ⟨m9, e, hm⟩ := f1
  cases e
  obtain ⟨men, F⟩ := q
  replace hg : fGood men F := hg
  replace hm : fM men F m := hm
  replace h0 : fAt K n σ a men F := h0
  have hcl : c = F 5 := (fAt_of h0 s0).2.2.2.2 c t0
  obtain ⟨n0, F0, A, L, hl, hσ, r2, r3, r4, r5, rm, rk, r12, r6⟩ := fRel hH hX h0
  obtain ⟨w, mm, k, sd, es, em, ew, ek, hf, ht, hb, hw, hmm, hk, hsd, hOK, hman, htk, hs2, hwh, hc1, hc2⟩ := fMk_pre hg hm bm rm r2 r4
  obtain ⟨i1, i2, i3⟩ := fMvNi bm
  obtain ⟨o1, o2, o3, o4, o5, o6⟩ := fUk_pre hg hm rm es em ew ek
  have hj := c_BO_make l E σ n a n0 hl.1 hl.2.1 F0 A L m (fMf m) (fMt m) (fMb m) w mm k sd hf ht hb hw hmm hk hsd i1 i2 i3 hOK hman htk hs2 hwh hc1 hc2 (by obtain ⟨kd, x1, x2, -⟩ := fMen_ok hg hm es em ew; omega) o2 o3 o5 o6
  rw [← hσ] at hj
  refine jMet_post hj (fun r σ' n' hp => ?_)
  obtain ⟨F', A', L', rfl, rfl, rfl, hbk, hA', hK', hW', hF'⟩ := hp
  clear hj
  have hp' : fPl (men, F) m = (bMen men (fMf m) (fMt m) w (bQ mm (fMb m)) mm sd, fFw (bF F (bMen men (fMf m) (fMt m) w (bQ mm (fMb m)) mm sd) (fMf m) (fMt m) mm k) (bMen men (fMf m) (fMt m) w (bQ mm (fMb m)) mm sd)) := by
    rw [ek, es, em, ew]
    rfl
  have hgd := fGood_pl hg hm
  have cm : ∀ i, i < 64 → A' 0 i = (fPl (men, F) m).1 i := by
    rw [hA', hp']
    exact fMen_cg rm
  have cF2 : F' 2 = (fPl (men, F) m).2 2 := by
    rw [hF', hp']
    show F0 2 ^^^ 1 = F 2 ^^^ 1
    rw [r2]
  have cF3 : F' 3 = (fPl (men, F) m).2 3 := by
    rw [hF', hp']
    show F0 3 &&& _ = F 3 &&& _
    rw [r3]
  have cF4 : F' 4 = (fPl (men, F) m).2 4 := by
    rw [hp'] at cm
    rw [hF', hp']
    show (if nI mm &&& 7 = 1 then bPB (A' 0) F0 (fMf m) (fMt m) else -1) = (if nI mm &&& 7 = 1 then bPB _ F (fMf m) (fMt m) else -1)
    rw [fPB_cg cm r2 ht]
  have cF5 : F' 5 = (fPl (men, F) m).2 5 := by
    rw [hF', hp']
    show (if nI mm &&& 7 = 1 ∨ ¬ nI k = 0 then 0 else F0 5 + 1) = (if nI mm &&& 7 = 1 ∨ ¬ nI k = 0 then 0 else F 5 + 1)
    rw [r5]
  have h5 : 0 ≤ (F' 5).toInt ∧ (F' 5).toInt ≤ c.toInt + 1 := by
    rw [cF5, hp']
    show 0 ≤ (if nI mm &&& 7 = 1 ∨ ¬ nI k = 0 then 0 else F 5 + 1).toInt ∧ (if nI mm &&& 7 = 1 ∨ ¬ nI k = 0 then 0 else F 5 + 1).toInt ≤ c.toInt + 1
    split
    · rw [show (0 : Int32).toInt = 0 by decide]; omega
    · have e : (F 5 + 1).toInt = (F 5).toInt + 1 := by
        rw [Int32.toInt_add, show (1 : Int32).toInt = 1 by decide]
        exact Int.bmod_eq_of_le (by rw [← hcl]; omega) (by rw [← hcl]; omega)
      rw [e, ← hcl]
      omega
  have hws : bWs A := fun c hc => by
    have h1 : A 3 c = F (12 + c) := by
      have c2 : c = 0 ∨ c = 1 := by omega
      rcases c2 with rfl | rfl
      · exact r12.1
      · exact r12.2
    rw [h1, (hg.2.1 c hc).2.2]
    exact (fBw r6 rm (fun i hi => ⟨(hg.2.2.2.2 i hi).1, (hg.2.2.2.2 i hi).2.1⟩) 64 (Nat.le_refl _)).symm
  have cw : ∀ c, c < 2 → A' 3 c = (fPl (men, F) m).2 (12 + c) := fun c hc => by
    rw [hW' hws c hc, hbk.1, (hgd.2.1 c hc).2.2]
    exact fBw r6 cm (fun i hi => ⟨(hgd.2.2.2.2 i hi).1, (hgd.2.2.2.2 i hi).2.1⟩) 64 (Nat.le_refl _)
  have q16 : F' 16 = F0 16 := by rw [hF']; rfl
  clear hF' hA'
  have q4 : aIn (-1, 63) (F' 4) := by
    rw [cF4]
    rcases hgd.1 with z | ⟨z1, z2, z3, z4, z5⟩
    · exact ⟨by dsimp only; omega, by dsimp only; omega⟩
    · have y := hgd.2.2.1
      by_cases x : ((fPl (men, F) m).2 2).toInt = 0
      · have := z4 x
        exact ⟨by dsimp only; omega, by dsimp only; omega⟩
      · have := z5 (by omega)
        exact ⟨by dsimp only; omega, by dsimp only; omega⟩
  have hmk : menOK (A' 0) := fun i hi => by
    have y := hgd.2.2.2.2 i hi
    rw [← cm i hi] at y
    exact ⟨(A' 0 i).toNatClampNeg, by rw [fNc]; omega, fNi y.1⟩
  refine ⟨rfl, fBd_out hH ha hka hl hσ hmk (hK' rk) hbk (by rw [cF2]; exact hgd.2.2.1) (by rw [cF3]; exact hgd.2.2.2.1) q4 ⟨h5.1, by dsimp only; omega⟩ q16, fBd_jx hH ha hka hl hσ hbk hX, fBd_fr hH ha hka hl hσ q16, fBd_fa hH ha hka hl hσ hbk _, rfl, [fI (F' 5)], ?_, ?_, [], List.mem_cons_self, fun f h => (by cases h)⟩
  · refine ⟨rfl, fun i e v he hv => ?_⟩
    match i, he, hv with
    | 0, he, hv => obtain rfl := Option.some.inj he; obtain rfl := Option.some.inj hv; exact ⟨⟨ha, Or.inl hka⟩, trivial⟩
    | 1, he, hv => obtain rfl := Option.some.inj he; obtain rfl := Option.some.inj hv; exact ⟨⟨bm, dm⟩, trivial⟩
    | 2, he, hv => obtain rfl := Option.some.inj he; obtain rfl := Option.some.inj hv; exact ⟨⟨bc, dc⟩, trivial⟩
    | 3, he, hv => obtain rfl := Option.some.inj he; obtain rfl := Option.some.inj hv; exact ⟨trivial, trivial⟩
    | 4, he, hv => obtain rfl := Option.some.inj he; obtain rfl := Option.some.inj hv; exact ⟨⟨h5.1, by dsimp only; omega⟩, trivial⟩
    | k + 5, he, hv => simp [aPe, ag_BOmake] at he
  · refine ⟨aAllc ⟨a, 10, bd_fl n0 F', fI (F' 5), rfl, fBd_a, rfl, rfl⟩ (fun q h => by cases h), fun q h => (by cases h), aAllc ⟨_, rfl, (show 0 ≤ (1 * c.toInt + (-1 * (F' 5).toInt + 0)) + 1 by omega)⟩ (fun f h => by cases h), aAllc ⟨_, rfl, ?_⟩ (aAllc ⟨_, rfl, (fF_b (r := 66) (by decide) rfl).mpr ?_⟩ (fun f h => by cases h))⟩
    · unfold fF
      rw [if_pos (by decide)]
      show fB K _ (.inl (fPl (men, F) m)) 1 [fR a] _
      exact ⟨a, rfl, ⟨ha, hka, bd_fl n0 F', n0, A' 0, fBd_a, rfl, by have := hl.2.1; omega, hl.2.2.1 0 (by decide), fBd_r (j := 0) hl.1 (by decide), cm, (show some (fI (F' 2)) = some (fI ((fPl (men, F) m).2 2)) from by rw [cF2]), (show some (fI (F' 3)) = some (fI ((fPl (men, F) m).2 3)) from by rw [cF3]), (show some (fI (F' 4)) = some (fI ((fPl (men, F) m).2 4)) from by rw [cF4]), (show some (fI (F' 5)) = some (fI ((fPl (men, F) m).2 5)) from by rw [cF5]), n0 + 3, A' 3, rfl, by have := hl.2.1; omega, hl.2.2.1 3 (by decide), fBd_r (j := 3) hl.1 (by decide), cw 0 (by decide), cw 1 (by decide)⟩, hgd, _, rfl⟩
    · refine ⟨m, _, rfl, ?_, (show 0 ≤ (F 5).toInt from by rw [← hcl]; exact bc), hg, _, rfl⟩
      show bUd F0 k = bUd F (men (bWh men F (fMf m) (fMt m)).toNatClampNeg).toNatClampNeg
      rw [← ew, ← ek]
      unfold bUd
      rw [r3, r4, r5]

