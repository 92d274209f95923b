section
/-! rules of search and problems -/
theorem fWo_le (m s : Nat) (hs : s < 64) : fWo m s ≤ 1000 := by
  have h1 : fMid s ≤ 6 := by
    unfold fMid
    split <;> split <;> omega
  unfold fWo
  (repeat' split) <;> omega
theorem fWa_bd (j : Nat) : 0 ≤ (fWa j).toInt ∧ (fWa j).toInt ≤ 1000 := by
  have h := fWo_le (j / 64) (j % 64) (by omega)
  unfold fWa
  rw [nI_toInt (by omega)]
  omega
theorem bW_bd (c : Nat) (m : Int32) (i : Nat) : 0 ≤ (bW fWa c m i).toInt ∧ (bW fWa c m i).toInt ≤ 1000 := by
  unfold bW
  split
  · decide
  · split
    · exact fWa_bd _
    · decide
theorem bSn_bd (c : Nat) (men : Nat → Int32) : ∀ k : Nat, k ≤ 64 → 0 ≤ (bSn fWa c men k).toInt ∧ (bSn fWa c men k).toInt ≤ 1000 * k
  | 0, _ => by
    show 0 ≤ (0 : Int32).toInt ∧ (0 : Int32).toInt ≤ 1000 * ((0 : Nat) : Int)
    decide
  | k + 1, hk => by
    have h1 := bSn_bd c men k (by omega)
    have h2 := bW_bd c (men k) k
    show 0 ≤ (bSn fWa c men k + bW fWa c (men k) k).toInt ∧ (bSn fWa c men k + bW fWa c (men k) k).toInt ≤ 1000 * ((k + 1 : Nat) : Int)
    rw [Int32.toInt_add, Int.bmod_eq_of_le (by omega) (by omega)]
    omega
set_option maxRecDepth 8192 in
theorem rw_ruWRT {K : Nat → Nat} {n : Nat} : aGho (fF K n) fa_T K n (fJX K n) ag_ruWRT := by
  refine aGho_of ⟨rfl, rfl⟩ ?_
  intro p σ ρ hH hX hA hM
  have hG := aAG_of hA.1 (fun i e v he hv => (hA.2 i e v he hv).1)
  clear hA
  obtain ⟨v0, v1, v2, v3, rfl, g0, g1, g2, g3⟩ := fA_4 hG
  clear hG
  obtain ⟨x0, rfl, b0, d0⟩ := fG_ref (by decide) g0
  obtain ⟨x1, rfl, b1, d1⟩ := aG_int g1
  dsimp only at b1 d1
  obtain ⟨x2, rfl, b2, d2⟩ := aG_int g2
  dsimp only at b2 d2
  obtain ⟨x3, rfl, b3, d3⟩ := fG_ref (by decide) g3
  obtain ⟨m1, m2, m3, m4⟩ := hM
  obtain ⟨a0, c0, fs0, w0, e1, s0, t0, e4⟩ := m1 (0, 8, 3) (List.mem_of_getElem? (i := 0) rfl)
  obtain rfl : x0 = a0 := Sum.inl.inj (Option.some.inj (Sum.inr.inj (Sum.inr.inj (Option.some.inj (show some (fR x0) = some _ from e1)))))
  obtain rfl : fR x3 = w0 := Option.some.inj (show some (fR x3) = some w0 from e4)
  clear e1 e4
  obtain ⟨a, mc0, ty0, gc0, ic0, e1, sc0, jc0, e4, e5⟩ := m2 (3, ([(1, 1)], 0), 2) (List.mem_of_getElem? (i := 0) rfl)
  obtain rfl : x3 = a := Sum.inl.inj (Option.some.inj (Sum.inr.inj (Sum.inr.inj (Option.some.inj (show some (fR x3) = some _ from e1)))))
  obtain ⟨gc0, rfl⟩ : ∃ g, gc0 = .inl g := by
    rcases gc0 with g | g
    · exact ⟨g, rfl⟩
    · exact absurd (show some (fI x2) = some (.inr (.inl (g ic0))) from e5) (fun h => by cases h)
  have sc0 : σ x3 = .inl (ty0, mc0, .inl gc0) := sc0
  have ec0 : x2 = gc0 ic0 := Sum.inl.inj (Option.some.inj (show some (fI x2) = some _ from e5))
  have kc0 : (ic0 : Int) = (1 * x1.toInt + 0) + 0 := by
    obtain ⟨z, e6, e7⟩ := e4
    obtain rfl : (1 * x1.toInt + 0) = z := Option.some.inj (show some (1 * x1.toInt + 0) = some z from e6)
    exact e7
  clear e1 e4 e5
  obtain rfl : ic0 = x1.toInt.toNat := by omega
  have f0 : fB K n p 1 [fR x0] σ := by
    obtain ⟨w, e6, e7⟩ := m4 (17, [0]) (List.mem_of_getElem? (i := 0) rfl)
    obtain rfl : [fR x0] = w := Option.some.inj (show some [fR x0] = some w from e6)
    exact (fF_b (r := 17) (by decide) rfl).mp e7
  clear m1 m2 m3 m4
  obtain ⟨a9, e9, h0, g0⟩ := f0
  cases e9
  obtain ⟨gw, w1, w2, w3⟩ := fAt_w h0 s0 t0
  rw [w1] at sc0
  cases sc0
  have hb : 0 ≤ x2.toInt ∧ x2.toInt ≤ 64000 := by
    have hx : x1.toInt.toNat = 0 ∨ x1.toInt.toNat = 1 := by omega
    rw [ec0]
    rcases hx with hx | hx
    · have h9 : (fq p).2 12 = bSn fWa 0 (fq p).1 64 := (g0.1.2.1 0 (by decide)).2.2
      rw [hx, w2, h9]
      exact bSn_bd 0 (fq p).1 64 (by decide)
    · have h9 : (fq p).2 13 = bSn fWa 1 (fq p).1 64 := (g0.1.2.1 1 (by decide)).2.2
      rw [hx, w3, h9]
      exact bSn_bd 1 (fq p).1 64 (by decide)
  have r0 : 0 ≤ (1 * x2.toInt + 0) + 0 := by
    omega
  have r1 : 0 ≤ (-1 * x2.toInt + 0) + 64000 := by
    omega
  exact ⟨p, fun _ => rfl, ⟨(fun q h => by cases h), fun q h => (by cases h), (aAllc ⟨_, rfl, r0⟩ (aAllc ⟨_, rfl, r1⟩ (fun f h => by cases h))), (fun f h => by cases h)⟩, [], List.mem_cons_self, fun f h => (by cases h)⟩
theorem rw_ruLMlSE {K : Nat → Nat} {n : Nat} : aGho (fF K n) fa_T K n (fJX K n) ag_ruLMlSE := by
  refine aGho_of ⟨rfl, rfl⟩ ?_
  intro p σ ρ hH hX hA hM
  have hG := aAG_of hA.1 (fun i e v he hv => (hA.2 i e v he hv).1)
  clear hA
  obtain ⟨v0, v1, v2, v3, v4, rfl, g0, g1, g2, g3, g4⟩ := fA_5 hG
  clear hG
  obtain ⟨x0, rfl, b0, d0⟩ := fG_ref (by decide) g0
  obtain ⟨x1, rfl, b1, d1⟩ := aG_int g1
  dsimp only at b1 d1
  obtain ⟨x2, rfl, b2, d2⟩ := aG_int g2
  dsimp only at b2 d2
  obtain ⟨x3, rfl, b3, d3⟩ := aG_int g3
  dsimp only at b3 d3
  obtain ⟨x4, rfl, b4, d4⟩ := aG_int g4
  dsimp only at b4 d4
  obtain ⟨m1, m2, m3, m4⟩ := hM
  obtain ⟨a, mc0, ty0, gc0, ic0, e1, sc0, jc0, e4, e5⟩ := m2 (0, ([(3, 1)], 0), 4) (List.mem_of_getElem? (i := 0) rfl)
  obtain rfl : x0 = a := Sum.inl.inj (Option.some.inj (Sum.inr.inj (Sum.inr.inj (Option.some.inj (show some (fR x0) = some _ from e1)))))
  obtain ⟨gc0, rfl⟩ : ∃ g, gc0 = .inl g := by
    rcases gc0 with g | g
    · exact ⟨g, rfl⟩
    · exact absurd (show some (fI x4) = some (.inr (.inl (g ic0))) from e5) (fun h => by cases h)
  have sc0 : σ x0 = .inl (ty0, mc0, .inl gc0) := sc0
  have ec0 : x4 = gc0 ic0 := Sum.inl.inj (Option.some.inj (show some (fI x4) = some _ from e5))
  have kc0 : (ic0 : Int) = (1 * x3.toInt + 0) + 0 := by
    obtain ⟨z, e6, e7⟩ := e4
    obtain rfl : (1 * x3.toInt + 0) = z := Option.some.inj (show some (1 * x3.toInt + 0) = some z from e6)
    exact e7
  clear e1 e4 e5
  have l0 : 0 ≤ (1 * x3.toInt + (-1 * x1.toInt + 0)) + 0 := by
    obtain ⟨z, e6, e7⟩ := m3 ([(3, 1), (1, -1)], 0) (List.mem_of_getElem? (i := 0) rfl)
    obtain rfl : (1 * x3.toInt + (-1 * x1.toInt + 0)) = z := Option.some.inj (show some (1 * x3.toInt + (-1 * x1.toInt + 0)) = some z from e6)
    exact e7
  have l1 : 0 ≤ (1 * x2.toInt + (-1 * x3.toInt + 0)) + -1 := by
    obtain ⟨z, e6, e7⟩ := m3 ([(2, 1), (3, -1)], -1) (List.mem_of_getElem? (i := 1) rfl)
    obtain rfl : (1 * x2.toInt + (-1 * x3.toInt + 0)) = z := Option.some.inj (show some (1 * x2.toInt + (-1 * x3.toInt + 0)) = some z from e6)
    exact e7
  have f0 : fB K n p 2 [fR x0, fI x1, fI x2] σ := by
    obtain ⟨w, e6, e7⟩ := m4 (35, [0, 1, 2]) (List.mem_of_getElem? (i := 0) rfl)
    obtain rfl : [fR x0, fI x1, fI x2] = w := Option.some.inj (show some [fR x0, fI x1, fI x2] = some w from e6)
    exact (fF_b (r := 35) (by decide) rfl).mp e7
  clear m1 m2 m3 m4
  have q0 : fB K n p 3 [fI x4] σ := by
    obtain ⟨a, lo, hi, e, h1, h2, m, g, h3, h4⟩ := f0
    cases e
    rw [h3] at sc0
    cases sc0
    have h5 := h4 ic0 (by dsimp only; omega)
    rw [← ec0] at h5
    exact ⟨x4, rfl, h5⟩
  refine ⟨p, fun _ => rfl, ⟨fun q h => (by cases h), fun q h => (by cases h), ?_, ?_⟩, [], List.mem_cons_self, fun f h => (by cases h)⟩
  · exact fun f h => by cases h
  · exact (aAllc ⟨_, rfl, (fF_b (r := 49) (by decide) rfl).mpr q0⟩ (fun f h => by cases h))
theorem rw_ruLLsSE {K : Nat → Nat} {n : Nat} : aGho (fF K n) fa_T K n (fJX K n) ag_ruLLsSE := by
  refine aGho_of ⟨rfl, rfl⟩ ?_
  intro p σ ρ hH hX hA hM
  have hG := aAG_of hA.1 (fun i e v he hv => (hA.2 i e v he hv).1)
  clear hA
  obtain ⟨v0, v1, v2, v3, v4, rfl, g0, g1, g2, g3, g4⟩ := fA_5 hG
  clear hG
  obtain ⟨x0, rfl, b0, d0⟩ := fG_ref (by decide) g0
  obtain ⟨x1, rfl, b1, d1⟩ := aG_int g1
  dsimp only at b1 d1
  obtain ⟨x2, rfl, b2, d2⟩ := aG_int g2
  dsimp only at b2 d2
  obtain ⟨x3, rfl, b3, d3⟩ := aG_int g3
  dsimp only at b3 d3
  obtain ⟨x4, rfl, b4, d4⟩ := aG_int g4
  dsimp only at b4 d4
  obtain ⟨m1, m2, m3, m4⟩ := hM
  have f0 : fB K n p 2 [fR x0, fI x1, fI x2] σ := by
    obtain ⟨w, e6, e7⟩ := m4 (35, [0, 1, 2]) (List.mem_of_getElem? (i := 0) rfl)
    obtain rfl : [fR x0, fI x1, fI x2] = w := Option.some.inj (show some [fR x0, fI x1, fI x2] = some w from e6)
    exact (fF_b (r := 35) (by decide) rfl).mp e7
  have f1 : fB K n p 3 [fI x4] σ := by
    obtain ⟨w, e6, e7⟩ := m4 (49, [4]) (List.mem_of_getElem? (i := 1) rfl)
    obtain rfl : [fI x4] = w := Option.some.inj (show some [fI x4] = some w from e6)
    exact (fF_b (r := 49) (by decide) rfl).mp e7
  clear m1 m2 m3 m4
  have q0 : fB K n p 2 [fR x0, fI x1, fI x2] (jup σ x0 (jsto (σ x0) x3.toNatClampNeg x4)) := by
    obtain ⟨a, lo, hi, e, h0⟩ := f0
    cases e
    obtain ⟨m, e, h1⟩ := f1
    cases e
    exact ⟨x0, x1, x2, rfl, fLl_st h0 (fun _ => h1) (fun k _ h9 => h9)⟩
  refine ⟨p, fun _ => rfl, ⟨fun q h => (by cases h), fun q h => (by cases h), ?_, ?_⟩, [], List.mem_cons_self, fun f h => (by cases h)⟩
  · exact fun f h => by cases h
  · exact (aAllc ⟨_, rfl, fF_p (r := 35) (by decide) (by decide) rfl q0⟩ (fun f h => by cases h))
theorem rw_ruLMlPR {K : Nat → Nat} {n : Nat} : aGho (fF K n) fa_T K n (fJX K n) ag_ruLMlPR := by
  refine aGho_of ⟨rfl, rfl⟩ ?_
  intro p σ ρ hH hX hA hM
  have hG := aAG_of hA.1 (fun i e v he hv => (hA.2 i e v he hv).1)
  clear hA
  obtain ⟨v0, v1, v2, v3, v4, rfl, g0, g1, g2, g3, g4⟩ := fA_5 hG
  clear hG
  obtain ⟨x0, rfl, b0, d0⟩ := fG_ref (by decide) g0
  obtain ⟨x1, rfl, b1, d1⟩ := aG_int g1
  dsimp only at b1 d1
  obtain ⟨x2, rfl, b2, d2⟩ := aG_int g2
  dsimp only at b2 d2
  obtain ⟨x3, rfl, b3, d3⟩ := aG_int g3
  dsimp only at b3 d3
  obtain ⟨x4, rfl, b4, d4⟩ := aG_int g4
  dsimp only at b4 d4
  obtain ⟨m1, m2, m3, m4⟩ := hM
  obtain ⟨a, mc0, ty0, gc0, ic0, e1, sc0, jc0, e4, e5⟩ := m2 (0, ([(3, 1)], 0), 4) (List.mem_of_getElem? (i := 0) rfl)
  obtain rfl : x0 = a := Sum.inl.inj (Option.some.inj (Sum.inr.inj (Sum.inr.inj (Option.some.inj (show some (fR x0) = some _ from e1)))))
  obtain ⟨gc0, rfl⟩ : ∃ g, gc0 = .inl g := by
    rcases gc0 with g | g
    · exact ⟨g, rfl⟩
    · exact absurd (show some (fI x4) = some (.inr (.inl (g ic0))) from e5) (fun h => by cases h)
  have sc0 : σ x0 = .inl (ty0, mc0, .inl gc0) := sc0
  have ec0 : x4 = gc0 ic0 := Sum.inl.inj (Option.some.inj (show some (fI x4) = some _ from e5))
  have kc0 : (ic0 : Int) = (1 * x3.toInt + 0) + 0 := by
    obtain ⟨z, e6, e7⟩ := e4
    obtain rfl : (1 * x3.toInt + 0) = z := Option.some.inj (show some (1 * x3.toInt + 0) = some z from e6)
    exact e7
  clear e1 e4 e5
  have l0 : 0 ≤ (1 * x3.toInt + (-1 * x1.toInt + 0)) + 0 := by
    obtain ⟨z, e6, e7⟩ := m3 ([(3, 1), (1, -1)], 0) (List.mem_of_getElem? (i := 0) rfl)
    obtain rfl : (1 * x3.toInt + (-1 * x1.toInt + 0)) = z := Option.some.inj (show some (1 * x3.toInt + (-1 * x1.toInt + 0)) = some z from e6)
    exact e7
  have l1 : 0 ≤ (1 * x2.toInt + (-1 * x3.toInt + 0)) + -1 := by
    obtain ⟨z, e6, e7⟩ := m3 ([(2, 1), (3, -1)], -1) (List.mem_of_getElem? (i := 1) rfl)
    obtain rfl : (1 * x2.toInt + (-1 * x3.toInt + 0)) = z := Option.some.inj (show some (1 * x2.toInt + (-1 * x3.toInt + 0)) = some z from e6)
    exact e7
  have f0 : fB K n p 2 [fR x0, fI x1, fI x2] σ := by
    obtain ⟨w, e6, e7⟩ := m4 (35, [0, 1, 2]) (List.mem_of_getElem? (i := 0) rfl)
    obtain rfl : [fR x0, fI x1, fI x2] = w := Option.some.inj (show some [fR x0, fI x1, fI x2] = some w from e6)
    exact (fF_b (r := 35) (by decide) rfl).mp e7
  clear m1 m2 m3 m4
  have q0 : fB K n p 3 [fI x4] σ := by
    obtain ⟨a, lo, hi, e, h1, h2, m, g, h3, h4⟩ := f0
    cases e
    rw [h3] at sc0
    cases sc0
    have h5 := h4 ic0 (by dsimp only; omega)
    rw [← ec0] at h5
    exact ⟨x4, rfl, h5⟩
  refine ⟨p, fun _ => rfl, ⟨fun q h => (by cases h), fun q h => (by cases h), ?_, ?_⟩, [], List.mem_cons_self, fun f h => (by cases h)⟩
  · exact fun f h => by cases h
  · exact (aAllc ⟨_, rfl, (fF_b (r := 49) (by decide) rfl).mpr q0⟩ (fun f h => by cases h))
theorem rw_ruLLsPR {K : Nat → Nat} {n : Nat} : aGho (fF K n) fa_T K n (fJX K n) ag_ruLLsPR := by
  refine aGho_of ⟨rfl, rfl⟩ ?_
  intro p σ ρ hH hX hA hM
  have hG := aAG_of hA.1 (fun i e v he hv => (hA.2 i e v he hv).1)
  clear hA
  obtain ⟨v0, v1, v2, v3, v4, rfl, g0, g1, g2, g3, g4⟩ := fA_5 hG
  clear hG
  obtain ⟨x0, rfl, b0, d0⟩ := fG_ref (by decide) g0
  obtain ⟨x1, rfl, b1, d1⟩ := aG_int g1
  dsimp only at b1 d1
  obtain ⟨x2, rfl, b2, d2⟩ := aG_int g2
  dsimp only at b2 d2
  obtain ⟨x3, rfl, b3, d3⟩ := aG_int g3
  dsimp only at b3 d3
  obtain ⟨x4, rfl, b4, d4⟩ := aG_int g4
  dsimp only at b4 d4
  obtain ⟨m1, m2, m3, m4⟩ := hM
  have f0 : fB K n p 2 [fR x0, fI x1, fI x2] σ := by
    obtain ⟨w, e6, e7⟩ := m4 (35, [0, 1, 2]) (List.mem_of_getElem? (i := 0) rfl)
    obtain rfl : [fR x0, fI x1, fI x2] = w := Option.some.inj (show some [fR x0, fI x1, fI x2] = some w from e6)
    exact (fF_b (r := 35) (by decide) rfl).mp e7
  have f1 : fB K n p 3 [fI x4] σ := by
    obtain ⟨w, e6, e7⟩ := m4 (49, [4]) (List.mem_of_getElem? (i := 1) rfl)
    obtain rfl : [fI x4] = w := Option.some.inj (show some [fI x4] = some w from e6)
    exact (fF_b (r := 49) (by decide) rfl).mp e7
  clear m1 m2 m3 m4
  have q0 : fB K n p 2 [fR x0, fI x1, fI x2] (jup σ x0 (jsto (σ x0) x3.toNatClampNeg x4)) := by
    obtain ⟨a, lo, hi, e, h0⟩ := f0
    cases e
    obtain ⟨m, e, h1⟩ := f1
    cases e
    exact ⟨x0, x1, x2, rfl, fLl_st h0 (fun _ => h1) (fun k _ h9 => h9)⟩
  refine ⟨p, fun _ => rfl, ⟨fun q h => (by cases h), fun q h => (by cases h), ?_, ?_⟩, [], List.mem_cons_self, fun f h => (by cases h)⟩
  · exact fun f h => by cases h
  · exact (aAllc ⟨_, rfl, fF_p (r := 35) (by decide) (by decide) rfl q0⟩ (fun f h => by cases h))
theorem rw_ruLMlEN {K : Nat → Nat} {n : Nat} : aGho (fF K n) fa_T K n (fJX K n) ag_ruLMlEN := by
  refine aGho_of ⟨rfl, rfl⟩ ?_
  intro p σ ρ hH hX hA hM
  have hG := aAG_of hA.1 (fun i e v he hv => (hA.2 i e v he hv).1)
  clear hA
  obtain ⟨v0, v1, v2, v3, v4, rfl, g0, g1, g2, g3, g4⟩ := fA_5 hG
  clear hG
  obtain ⟨x0, rfl, b0, d0⟩ := fG_ref (by decide) g0
  obtain ⟨x1, rfl, b1, d1⟩ := aG_int g1
  dsimp only at b1 d1
  obtain ⟨x2, rfl, b2, d2⟩ := aG_int g2
  dsimp only at b2 d2
  obtain ⟨x3, rfl, b3, d3⟩ := aG_int g3
  dsimp only at b3 d3
  obtain ⟨x4, rfl, b4, d4⟩ := aG_int g4
  dsimp only at b4 d4
  obtain ⟨m1, m2, m3, m4⟩ := hM
  obtain ⟨a, mc0, ty0, gc0, ic0, e1, sc0, jc0, e4, e5⟩ := m2 (0, ([(3, 1)], 0), 4) (List.mem_of_getElem? (i := 0) rfl)
  obtain rfl : x0 = a := Sum.inl.inj (Option.some.inj (Sum.inr.inj (Sum.inr.inj (Option.some.inj (show some (fR x0) = some _ from e1)))))
  obtain ⟨gc0, rfl⟩ : ∃ g, gc0 = .inl g := by
    rcases gc0 with g | g
    · exact ⟨g, rfl⟩
    · exact absurd (show some (fI x4) = some (.inr (.inl (g ic0))) from e5) (fun h => by cases h)
  have sc0 : σ x0 = .inl (ty0, mc0, .inl gc0) := sc0
  have ec0 : x4 = gc0 ic0 := Sum.inl.inj (Option.some.inj (show some (fI x4) = some _ from e5))
  have kc0 : (ic0 : Int) = (1 * x3.toInt + 0) + 0 := by
    obtain ⟨z, e6, e7⟩ := e4
    obtain rfl : (1 * x3.toInt + 0) = z := Option.some.inj (show some (1 * x3.toInt + 0) = some z from e6)
    exact e7
  clear e1 e4 e5
  have l0 : 0 ≤ (1 * x3.toInt + (-1 * x1.toInt + 0)) + 0 := by
    obtain ⟨z, e6, e7⟩ := m3 ([(3, 1), (1, -1)], 0) (List.mem_of_getElem? (i := 0) rfl)
    obtain rfl : (1 * x3.toInt + (-1 * x1.toInt + 0)) = z := Option.some.inj (show some (1 * x3.toInt + (-1 * x1.toInt + 0)) = some z from e6)
    exact e7
  have l1 : 0 ≤ (1 * x2.toInt + (-1 * x3.toInt + 0)) + -1 := by
    obtain ⟨z, e6, e7⟩ := m3 ([(2, 1), (3, -1)], -1) (List.mem_of_getElem? (i := 1) rfl)
    obtain rfl : (1 * x2.toInt + (-1 * x3.toInt + 0)) = z := Option.some.inj (show some (1 * x2.toInt + (-1 * x3.toInt + 0)) = some z from e6)
    exact e7
  have f0 : fB K n p 2 [fR x0, fI x1, fI x2] σ := by
    obtain ⟨w, e6, e7⟩ := m4 (35, [0, 1, 2]) (List.mem_of_getElem? (i := 0) rfl)
    obtain rfl : [fR x0, fI x1, fI x2] = w := Option.some.inj (show some [fR x0, fI x1, fI x2] = some w from e6)
    exact (fF_b (r := 35) (by decide) rfl).mp e7
  clear m1 m2 m3 m4
  have q0 : fB K n p 3 [fI x4] σ := by
    obtain ⟨a, lo, hi, e, h1, h2, m, g, h3, h4⟩ := f0
    cases e
    rw [h3] at sc0
    cases sc0
    have h5 := h4 ic0 (by dsimp only; omega)
    rw [← ec0] at h5
    exact ⟨x4, rfl, h5⟩
  refine ⟨p, fun _ => rfl, ⟨fun q h => (by cases h), fun q h => (by cases h), ?_, ?_⟩, [], List.mem_cons_self, fun f h => (by cases h)⟩
  · exact fun f h => by cases h
  · exact (aAllc ⟨_, rfl, (fF_b (r := 49) (by decide) rfl).mpr q0⟩ (fun f h => by cases h))
theorem rw_ruLLsEN {K : Nat → Nat} {n : Nat} : aGho (fF K n) fa_T K n (fJX K n) ag_ruLLsEN := by
  refine aGho_of ⟨rfl, rfl⟩ ?_
  intro p σ ρ hH hX hA hM
  have hG := aAG_of hA.1 (fun i e v he hv => (hA.2 i e v he hv).1)
  clear hA
  obtain ⟨v0, v1, v2, v3, v4, rfl, g0, g1, g2, g3, g4⟩ := fA_5 hG
  clear hG
  obtain ⟨x0, rfl, b0, d0⟩ := fG_ref (by decide) g0
  obtain ⟨x1, rfl, b1, d1⟩ := aG_int g1
  dsimp only at b1 d1
  obtain ⟨x2, rfl, b2, d2⟩ := aG_int g2
  dsimp only at b2 d2
  obtain ⟨x3, rfl, b3, d3⟩ := aG_int g3
  dsimp only at b3 d3
  obtain ⟨x4, rfl, b4, d4⟩ := aG_int g4
  dsimp only at b4 d4
  obtain ⟨m1, m2, m3, m4⟩ := hM
  have f0 : fB K n p 2 [fR x0, fI x1, fI x2] σ := by
    obtain ⟨w, e6, e7⟩ := m4 (35, [0, 1, 2]) (List.mem_of_getElem? (i := 0) rfl)
    obtain rfl : [fR x0, fI x1, fI x2] = w := Option.some.inj (show some [fR x0, fI x1, fI x2] = some w from e6)
    exact (fF_b (r := 35) (by decide) rfl).mp e7
  have f1 : fB K n p 3 [fI x4] σ := by
    obtain ⟨w, e6, e7⟩ := m4 (49, [4]) (List.mem_of_getElem? (i := 1) rfl)
    obtain rfl : [fI x4] = w := Option.some.inj (show some [fI x4] = some w from e6)
    exact (fF_b (r := 49) (by decide) rfl).mp e7
  clear m1 m2 m3 m4
  have q0 : fB K n p 2 [fR x0, fI x1, fI x2] (jup σ x0 (jsto (σ x0) x3.toNatClampNeg x4)) := by
    obtain ⟨a, lo, hi, e, h0⟩ := f0
    cases e
    obtain ⟨m, e, h1⟩ := f1
    cases e
    exact ⟨x0, x1, x2, rfl, fLl_st h0 (fun _ => h1) (fun k _ h9 => h9)⟩
  refine ⟨p, fun _ => rfl, ⟨fun q h => (by cases h), fun q h => (by cases h), ?_, ?_⟩, [], List.mem_cons_self, fun f h => (by cases h)⟩
  · exact fun f h => by cases h
  · exact (aAllc ⟨_, rfl, fF_p (r := 35) (by decide) (by decide) rfl q0⟩ (fun f h => by cases h))
theorem rw_ruCK {K : Nat → Nat} {n : Nat} : aGho (fF K n) fa_T K n (fJX K n) ag_ruCK := by
  refine aGho_of ⟨rfl, rfl⟩ ?_
  intro p σ ρ hH hX hA hM
  have hG := aAG_of hA.1 (fun i e v he hv => (hA.2 i e v he hv).1)
  clear hA
  obtain ⟨v0, v1, rfl, g0, g1⟩ := fA_2 hG
  clear hG
  obtain ⟨x0, rfl, b0, d0⟩ := fG_ref (by decide) g0
  obtain ⟨x1, rfl, b1, d1⟩ := aG_int g1
  dsimp only at b1 d1
  obtain ⟨m1, m2, m3, m4⟩ := hM
  obtain ⟨a0, c0, fs0, w0, e1, s0, t0, e4⟩ := m1 (0, 5, 1) (List.mem_of_getElem? (i := 0) rfl)
  obtain rfl : x0 = a0 := Sum.inl.inj (Option.some.inj (Sum.inr.inj (Sum.inr.inj (Option.some.inj (show some (fR x0) = some _ from e1)))))
  obtain rfl : fI x1 = w0 := Option.some.inj (show some (fI x1) = some _ from e4)
  clear e1 e4
  have f0 : fB K n p 1 [fR x0] σ := by
    obtain ⟨w, e6, e7⟩ := m4 (17, [0]) (List.mem_of_getElem? (i := 0) rfl)
    obtain rfl : [fR x0] = w := Option.some.inj (show some [fR x0] = some w from e6)
    exact (fF_b (r := 17) (by decide) rfl).mp e7
  clear m1 m2 m3 m4
  have q0 : fB K n p 5 [fI x1] σ := by
    obtain ⟨a, e, h0, hg⟩ := f0
    cases e
    have hF := fAt_of h0 s0
    exact ⟨x1, rfl, (hF.2.2.2.2 _ t0).symm⟩
  refine ⟨p, fun _ => rfl, ⟨fun q h => (by cases h), fun q h => (by cases h), ?_, ?_⟩, [], List.mem_cons_self, fun f h => (by cases h)⟩
  · exact fun f h => by cases h
  · exact (aAllc ⟨_, rfl, (fF_b (r := 81) (by decide) rfl).mpr q0⟩ (fun f h => by cases h))
theorem rw_ruCKr {K : Nat → Nat} {n : Nat} : aGho (fF K n) fa_T K n (fJX K n) ag_ruCKr := by
  refine aGho_of ⟨rfl, rfl⟩ ?_
  intro p σ ρ hH hX hA hM
  have hG := aAG_of hA.1 (fun i e v he hv => (hA.2 i e v he hv).1)
  clear hA
  obtain ⟨v0, v1, v2, rfl, g0, g1, g2⟩ := fA_3 hG
  clear hG
  obtain ⟨x0, rfl, b0, d0⟩ := fG_ref (by decide) g0
  obtain ⟨x1, rfl, b1, d1⟩ := aG_int g1
  dsimp only at b1 d1
  obtain ⟨x2, rfl, b2, d2⟩ := aG_int g2
  dsimp only at b2 d2
  obtain ⟨m1, m2, m3, m4⟩ := hM
  obtain ⟨a0, c0, fs0, w0, e1, s0, t0, e4⟩ := m1 (0, 5, 2) (List.mem_of_getElem? (i := 0) rfl)
  obtain rfl : x0 = a0 := Sum.inl.inj (Option.some.inj (Sum.inr.inj (Sum.inr.inj (Option.some.inj (show some (fR x0) = some _ from e1)))))
  obtain rfl : fI x2 = w0 := Option.some.inj (show some (fI x2) = some _ from e4)
  clear e1 e4
  have f0 : fB K n p 1 [fR x0] σ := by
    obtain ⟨w, e6, e7⟩ := m4 (17, [0]) (List.mem_of_getElem? (i := 0) rfl)
    obtain rfl : [fR x0] = w := Option.some.inj (show some [fR x0] = some w from e6)
    exact (fF_b (r := 17) (by decide) rfl).mp e7
  have f1 : fB K n p 5 [fI x1] σ := by
    obtain ⟨w, e6, e7⟩ := m4 (81, [1]) (List.mem_of_getElem? (i := 1) rfl)
    obtain rfl : [fI x1] = w := Option.some.inj (show some [fI x1] = some w from e6)
    exact (fF_b (r := 81) (by decide) rfl).mp e7
  clear m1 m2 m3 m4
  have r0 : 0 ≤ (1 * x1.toInt + (-1 * x2.toInt + 0)) + 0 := by
    obtain ⟨a, e, h0, hg⟩ := f0
    cases e
    have hF := fAt_of h0 s0
    obtain ⟨v, e, h1⟩ := f1
    cases e
    have h2 := hF.2.2.2.2 _ t0
    rw [h1] at h2
    rw [h2]
    omega
  have r1 : 0 ≤ (-1 * x1.toInt + (1 * x2.toInt + 0)) + 0 := by
    obtain ⟨a, e, h0, hg⟩ := f0
    cases e
    have hF := fAt_of h0 s0
    obtain ⟨v, e, h1⟩ := f1
    cases e
    have h2 := hF.2.2.2.2 _ t0
    rw [h1] at h2
    rw [h2]
    omega
  refine ⟨p, fun _ => rfl, ⟨fun q h => (by cases h), fun q h => (by cases h), ?_, ?_⟩, [], List.mem_cons_self, fun f h => (by cases h)⟩
  · exact (aAllc ⟨_, rfl, r0⟩ (aAllc ⟨_, rfl, r1⟩ (fun f h => by cases h)))
  · exact (fun f h => by cases h)
theorem rw_ruCLe {K : Nat → Nat} {n : Nat} : aGho (fF K n) fa_T K n (fJX K n) ag_ruCLe := by
  refine aGho_of ⟨rfl, rfl⟩ ?_
  intro p σ ρ hH hX hA hM
  have hG := aAG_of hA.1 (fun i e v he hv => (hA.2 i e v he hv).1)
  clear hA
  obtain ⟨v0, v1, v2, rfl, g0, g1, g2⟩ := fA_3 hG
  clear hG
  obtain ⟨x0, rfl, b0, d0⟩ := aG_int g0
  dsimp only at b0 d0
  obtain ⟨x1, rfl, b1, d1⟩ := aG_int g1
  dsimp only at b1 d1
  obtain ⟨x2, rfl, b2, d2⟩ := aG_int g2
  dsimp only at b2 d2
  obtain ⟨m1, m2, m3, m4⟩ := hM
  have l0 : 0 ≤ (1 * x1.toInt + (-1 * x2.toInt + 0)) + 0 := by
    obtain ⟨z, e6, e7⟩ := m3 ([(1, 1), (2, -1)], 0) (List.mem_of_getElem? (i := 0) rfl)
    obtain rfl : (1 * x1.toInt + (-1 * x2.toInt + 0)) = z := Option.some.inj (show some (1 * x1.toInt + (-1 * x2.toInt + 0)) = some z from e6)
    exact e7
  have l1 : 0 ≤ (-1 * x1.toInt + (1 * x2.toInt + 0)) + 0 := by
    obtain ⟨z, e6, e7⟩ := m3 ([(1, -1), (2, 1)], 0) (List.mem_of_getElem? (i := 1) rfl)
    obtain rfl : (-1 * x1.toInt + (1 * x2.toInt + 0)) = z := Option.some.inj (show some (-1 * x1.toInt + (1 * x2.toInt + 0)) = some z from e6)
    exact e7
  have f0 : fB K n p 39 [fI x0, fI x1] σ := by
    obtain ⟨w, e6, e7⟩ := m4 (626, [0, 1]) (List.mem_of_getElem? (i := 0) rfl)
    obtain rfl : [fI x0, fI x1] = w := Option.some.inj (show some [fI x0, fI x1] = some w from e6)
    exact (fF_b (r := 626) (by decide) rfl).mp e7
  clear m1 m2 m3 m4
  have q0 : fB K n p 39 [fI x0, fI x2] σ := by
    obtain ⟨s, v, e, h⟩ := f0
    cases e
    refine ⟨x0, x2, rfl, ?_⟩
    rw [h]
    exact Int32.toInt_inj.mp (by omega)
  refine ⟨p, fun _ => rfl, ⟨fun q h => (by cases h), fun q h => (by cases h), ?_, ?_⟩, [], List.mem_cons_self, fun f h => (by cases h)⟩
  · exact fun f h => by cases h
  · exact (aAllc ⟨_, rfl, (fF_b (r := 626) (by decide) rfl).mpr q0⟩ (fun f h => by cases h))
theorem rw_ruLMpSE {K : Nat → Nat} {n : Nat} : aGho (fF K n) fa_T K n (fJX K n) ag_ruLMpSE := by
  refine aGho_of ⟨rfl, rfl⟩ ?_
  intro p σ ρ hH hX hA hM
  have hG := aAG_of hA.1 (fun i e v he hv => (hA.2 i e v he hv).1)
  clear hA
  obtain ⟨v0, v1, v2, v3, v4, rfl, g0, g1, g2, g3, g4⟩ := fA_5 hG
  clear hG
  obtain ⟨x0, rfl, b0, d0⟩ := fG_ref (by decide) g0
  obtain ⟨x1, rfl, b1, d1⟩ := aG_int g1
  dsimp only at b1 d1
  obtain ⟨x2, rfl, b2, d2⟩ := aG_int g2
  dsimp only at b2 d2
  obtain ⟨x3, rfl, b3, d3⟩ := aG_int g3
  dsimp only at b3 d3
  obtain ⟨x4, rfl, b4, d4⟩ := aG_int g4
  dsimp only at b4 d4
  obtain ⟨m1, m2, m3, m4⟩ := hM
  obtain ⟨a, mc0, ty0, gc0, ic0, e1, sc0, jc0, e4, e5⟩ := m2 (0, ([(3, 1)], -1), 4) (List.mem_of_getElem? (i := 0) rfl)
  obtain rfl : x0 = a := Sum.inl.inj (Option.some.inj (Sum.inr.inj (Sum.inr.inj (Option.some.inj (show some (fR x0) = some _ from e1)))))
  obtain ⟨gc0, rfl⟩ : ∃ g, gc0 = .inl g := by
    rcases gc0 with g | g
    · exact ⟨g, rfl⟩
    · exact absurd (show some (fI x4) = some (.inr (.inl (g ic0))) from e5) (fun h => by cases h)
  have sc0 : σ x0 = .inl (ty0, mc0, .inl gc0) := sc0
  have ec0 : x4 = gc0 ic0 := Sum.inl.inj (Option.some.inj (show some (fI x4) = some _ from e5))
  have kc0 : (ic0 : Int) = (1 * x3.toInt + 0) + -1 := by
    obtain ⟨z, e6, e7⟩ := e4
    obtain rfl : (1 * x3.toInt + 0) = z := Option.some.inj (show some (1 * x3.toInt + 0) = some z from e6)
    exact e7
  clear e1 e4 e5
  have l0 : 0 ≤ (1 * x3.toInt + (-1 * x1.toInt + 0)) + -1 := by
    obtain ⟨z, e6, e7⟩ := m3 ([(3, 1), (1, -1)], -1) (List.mem_of_getElem? (i := 0) rfl)
    obtain rfl : (1 * x3.toInt + (-1 * x1.toInt + 0)) = z := Option.some.inj (show some (1 * x3.toInt + (-1 * x1.toInt + 0)) = some z from e6)
    exact e7
  have l1 : 0 ≤ (1 * x2.toInt + (-1 * x3.toInt + 0)) + 0 := by
    obtain ⟨z, e6, e7⟩ := m3 ([(2, 1), (3, -1)], 0) (List.mem_of_getElem? (i := 1) rfl)
    obtain rfl : (1 * x2.toInt + (-1 * x3.toInt + 0)) = z := Option.some.inj (show some (1 * x2.toInt + (-1 * x3.toInt + 0)) = some z from e6)
    exact e7
  have f0 : fB K n p 2 [fR x0, fI x1, fI x2] σ := by
    obtain ⟨w, e6, e7⟩ := m4 (35, [0, 1, 2]) (List.mem_of_getElem? (i := 0) rfl)
    obtain rfl : [fR x0, fI x1, fI x2] = w := Option.some.inj (show some [fR x0, fI x1, fI x2] = some w from e6)
    exact (fF_b (r := 35) (by decide) rfl).mp e7
  clear m1 m2 m3 m4
  have q0 : fB K n p 3 [fI x4] σ := by
    obtain ⟨a, lo, hi, e, h1, h2, m, g, h3, h4⟩ := f0
    cases e
    rw [h3] at sc0
    cases sc0
    have h5 := h4 ic0 (by dsimp only; omega)
    rw [← ec0] at h5
    exact ⟨x4, rfl, h5⟩
  refine ⟨p, fun _ => rfl, ⟨fun q h => (by cases h), fun q h => (by cases h), ?_, ?_⟩, [], List.mem_cons_self, fun f h => (by cases h)⟩
  · exact fun f h => by cases h
  · exact (aAllc ⟨_, rfl, (fF_b (r := 49) (by decide) rfl).mpr q0⟩ (fun f h => by cases h))
theorem rw_ruLMpPR {K : Nat → Nat} {n : Nat} : aGho (fF K n) fa_T K n (fJX K n) ag_ruLMpPR := by
  refine aGho_of ⟨rfl, rfl⟩ ?_
  intro p σ ρ hH hX hA hM
  have hG := aAG_of hA.1 (fun i e v he hv => (hA.2 i e v he hv).1)
  clear hA
  obtain ⟨v0, v1, v2, v3, v4, rfl, g0, g1, g2, g3, g4⟩ := fA_5 hG
  clear hG
  obtain ⟨x0, rfl, b0, d0⟩ := fG_ref (by decide) g0
  obtain ⟨x1, rfl, b1, d1⟩ := aG_int g1
  dsimp only at b1 d1
  obtain ⟨x2, rfl, b2, d2⟩ := aG_int g2
  dsimp only at b2 d2
  obtain ⟨x3, rfl, b3, d3⟩ := aG_int g3
  dsimp only at b3 d3
  obtain ⟨x4, rfl, b4, d4⟩ := aG_int g4
  dsimp only at b4 d4
  obtain ⟨m1, m2, m3, m4⟩ := hM
  obtain ⟨a, mc0, ty0, gc0, ic0, e1, sc0, jc0, e4, e5⟩ := m2 (0, ([(3, 1)], -1), 4) (List.mem_of_getElem? (i := 0) rfl)
  obtain rfl : x0 = a := Sum.inl.inj (Option.some.inj (Sum.inr.inj (Sum.inr.inj (Option.some.inj (show some (fR x0) = some _ from e1)))))
  obtain ⟨gc0, rfl⟩ : ∃ g, gc0 = .inl g := by
    rcases gc0 with g | g
    · exact ⟨g, rfl⟩
    · exact absurd (show some (fI x4) = some (.inr (.inl (g ic0))) from e5) (fun h => by cases h)
  have sc0 : σ x0 = .inl (ty0, mc0, .inl gc0) := sc0
  have ec0 : x4 = gc0 ic0 := Sum.inl.inj (Option.some.inj (show some (fI x4) = some _ from e5))
  have kc0 : (ic0 : Int) = (1 * x3.toInt + 0) + -1 := by
    obtain ⟨z, e6, e7⟩ := e4
    obtain rfl : (1 * x3.toInt + 0) = z := Option.some.inj (show some (1 * x3.toInt + 0) = some z from e6)
    exact e7
  clear e1 e4 e5
  have l0 : 0 ≤ (1 * x3.toInt + (-1 * x1.toInt + 0)) + -1 := by
    obtain ⟨z, e6, e7⟩ := m3 ([(3, 1), (1, -1)], -1) (List.mem_of_getElem? (i := 0) rfl)
    obtain rfl : (1 * x3.toInt + (-1 * x1.toInt + 0)) = z := Option.some.inj (show some (1 * x3.toInt + (-1 * x1.toInt + 0)) = some z from e6)
    exact e7
  have l1 : 0 ≤ (1 * x2.toInt + (-1 * x3.toInt + 0)) + 0 := by
    obtain ⟨z, e6, e7⟩ := m3 ([(2, 1), (3, -1)], 0) (List.mem_of_getElem? (i := 1) rfl)
    obtain rfl : (1 * x2.toInt + (-1 * x3.toInt + 0)) = z := Option.some.inj (show some (1 * x2.toInt + (-1 * x3.toInt + 0)) = some z from e6)
    exact e7
  have f0 : fB K n p 2 [fR x0, fI x1, fI x2] σ := by
    obtain ⟨w, e6, e7⟩ := m4 (35, [0, 1, 2]) (List.mem_of_getElem? (i := 0) rfl)
    obtain rfl : [fR x0, fI x1, fI x2] = w := Option.some.inj (show some [fR x0, fI x1, fI x2] = some w from e6)
    exact (fF_b (r := 35) (by decide) rfl).mp e7
  clear m1 m2 m3 m4
  have q0 : fB K n p 3 [fI x4] σ := by
    obtain ⟨a, lo, hi, e, h1, h2, m, g, h3, h4⟩ := f0
    cases e
    rw [h3] at sc0
    cases sc0
    have h5 := h4 ic0 (by dsimp only; omega)
    rw [← ec0] at h5
    exact ⟨x4, rfl, h5⟩
  refine ⟨p, fun _ => rfl, ⟨fun q h => (by cases h), fun q h => (by cases h), ?_, ?_⟩, [], List.mem_cons_self, fun f h => (by cases h)⟩
  · exact fun f h => by cases h
  · exact (aAllc ⟨_, rfl, (fF_b (r := 49) (by decide) rfl).mpr q0⟩ (fun f h => by cases h))
theorem rw_ruLMpEN {K : Nat → Nat} {n : Nat} : aGho (fF K n) fa_T K n (fJX K n) ag_ruLMpEN := by
  refine aGho_of ⟨rfl, rfl⟩ ?_
  intro p σ ρ hH hX hA hM
  have hG := aAG_of hA.1 (fun i e v he hv => (hA.2 i e v he hv).1)
  clear hA
  obtain ⟨v0, v1, v2, v3, v4, rfl, g0, g1, g2, g3, g4⟩ := fA_5 hG
  clear hG
  obtain ⟨x0, rfl, b0, d0⟩ := fG_ref (by decide) g0
  obtain ⟨x1, rfl, b1, d1⟩ := aG_int g1
  dsimp only at b1 d1
  obtain ⟨x2, rfl, b2, d2⟩ := aG_int g2
  dsimp only at b2 d2
  obtain ⟨x3, rfl, b3, d3⟩ := aG_int g3
  dsimp only at b3 d3
  obtain ⟨x4, rfl, b4, d4⟩ := aG_int g4
  dsimp only at b4 d4
  obtain ⟨m1, m2, m3, m4⟩ := hM
  obtain ⟨a, mc0, ty0, gc0, ic0, e1, sc0, jc0, e4, e5⟩ := m2 (0, ([(3, 1)], -1), 4) (List.mem_of_getElem? (i := 0) rfl)
  obtain rfl : x0 = a := Sum.inl.inj (Option.some.inj (Sum.inr.inj (Sum.inr.inj (Option.some.inj (show some (fR x0) = some _ from e1)))))
  obtain ⟨gc0, rfl⟩ : ∃ g, gc0 = .inl g := by
    rcases gc0 with g | g
    · exact ⟨g, rfl⟩
    · exact absurd (show some (fI x4) = some (.inr (.inl (g ic0))) from e5) (fun h => by cases h)
  have sc0 : σ x0 = .inl (ty0, mc0, .inl gc0) := sc0
  have ec0 : x4 = gc0 ic0 := Sum.inl.inj (Option.some.inj (show some (fI x4) = some _ from e5))
  have kc0 : (ic0 : Int) = (1 * x3.toInt + 0) + -1 := by
    obtain ⟨z, e6, e7⟩ := e4
    obtain rfl : (1 * x3.toInt + 0) = z := Option.some.inj (show some (1 * x3.toInt + 0) = some z from e6)
    exact e7
  clear e1 e4 e5
  have l0 : 0 ≤ (1 * x3.toInt + (-1 * x1.toInt + 0)) + -1 := by
    obtain ⟨z, e6, e7⟩ := m3 ([(3, 1), (1, -1)], -1) (List.mem_of_getElem? (i := 0) rfl)
    obtain rfl : (1 * x3.toInt + (-1 * x1.toInt + 0)) = z := Option.some.inj (show some (1 * x3.toInt + (-1 * x1.toInt + 0)) = some z from e6)
    exact e7
  have l1 : 0 ≤ (1 * x2.toInt + (-1 * x3.toInt + 0)) + 0 := by
    obtain ⟨z, e6, e7⟩ := m3 ([(2, 1), (3, -1)], 0) (List.mem_of_getElem? (i := 1) rfl)
    obtain rfl : (1 * x2.toInt + (-1 * x3.toInt + 0)) = z := Option.some.inj (show some (1 * x2.toInt + (-1 * x3.toInt + 0)) = some z from e6)
    exact e7
  have f0 : fB K n p 2 [fR x0, fI x1, fI x2] σ := by
    obtain ⟨w, e6, e7⟩ := m4 (35, [0, 1, 2]) (List.mem_of_getElem? (i := 0) rfl)
    obtain rfl : [fR x0, fI x1, fI x2] = w := Option.some.inj (show some [fR x0, fI x1, fI x2] = some w from e6)
    exact (fF_b (r := 35) (by decide) rfl).mp e7
  clear m1 m2 m3 m4
  have q0 : fB K n p 3 [fI x4] σ := by
    obtain ⟨a, lo, hi, e, h1, h2, m, g, h3, h4⟩ := f0
    cases e
    rw [h3] at sc0
    cases sc0
    have h5 := h4 ic0 (by dsimp only; omega)
    rw [← ec0] at h5
    exact ⟨x4, rfl, h5⟩
  refine ⟨p, fun _ => rfl, ⟨fun q h => (by cases h), fun q h => (by cases h), ?_, ?_⟩, [], List.mem_cons_self, fun f h => (by cases h)⟩
  · exact fun f h => by cases h
  · exact (aAllc ⟨_, rfl, (fF_b (r := 49) (by decide) rfl).mpr q0⟩ (fun f h => by cases h))
theorem rw_ruLLw {K : Nat → Nat} {n : Nat} : aGho (fF K n) fa_T K n (fJX K n) ag_ruLLw := by
  refine aGho_of ⟨rfl, rfl⟩ ?_
  intro p σ ρ hH hX hA hM
  have hG := aAG_of hA.1 (fun i e v he hv => (hA.2 i e v he hv).1)
  clear hA
  obtain ⟨v0, v1, v2, v3, rfl, g0, g1, g2, g3⟩ := fA_4 hG
  clear hG
  obtain ⟨x0, rfl, b0, d0⟩ := fG_ref (by decide) g0
  obtain ⟨x1, rfl, b1, d1⟩ := aG_int g1
  dsimp only at b1 d1
  obtain ⟨x2, rfl, b2, d2⟩ := aG_int g2
  dsimp only at b2 d2
  obtain ⟨x3, rfl, b3, d3⟩ := aG_int g3
  dsimp only at b3 d3
  obtain ⟨m1, m2, m3, m4⟩ := hM
  have l0 : 0 ≤ (1 * x2.toInt + (-1 * x3.toInt + 0)) + 0 := by
    obtain ⟨z, e6, e7⟩ := m3 ([(2, 1), (3, -1)], 0) (List.mem_of_getElem? (i := 0) rfl)
    obtain rfl : (1 * x2.toInt + (-1 * x3.toInt + 0)) = z := Option.some.inj (show some (1 * x2.toInt + (-1 * x3.toInt + 0)) = some z from e6)
    exact e7
  have f0 : fB K n p 2 [fR x0, fI x1, fI x2] σ := by
    obtain ⟨w, e6, e7⟩ := m4 (35, [0, 1, 2]) (List.mem_of_getElem? (i := 0) rfl)
    obtain rfl : [fR x0, fI x1, fI x2] = w := Option.some.inj (show some [fR x0, fI x1, fI x2] = some w from e6)
    exact (fF_b (r := 35) (by decide) rfl).mp e7
  clear m1 m2 m3 m4
  have q0 : fB K n p 2 [fR x0, fI x1, fI x3] σ := by
    obtain ⟨a, lo, hi, e, h1, h2, m, g, h3, h4⟩ := f0
    cases e
    exact ⟨x0, x1, x3, rfl, h1, h2, m, g, h3, fun k hk => h4 k (by dsimp only at hk ⊢; omega)⟩
  refine ⟨p, fun _ => rfl, ⟨fun q h => (by cases h), fun q h => (by cases h), ?_, ?_⟩, [], List.mem_cons_self, fun f h => (by cases h)⟩
  · exact fun f h => by cases h
  · exact (aAllc ⟨_, rfl, (fF_b (r := 35) (by decide) rfl).mpr q0⟩ (fun f h => by cases h))
theorem rw_ruLLfPR {K : Nat → Nat} {n : Nat} : aGho (fF K n) fa_T K n (fJX K n) ag_ruLLfPR := by
  refine aGho_of ⟨rfl, rfl⟩ ?_
  intro p σ ρ hH hX hA hM
  have hG := aAG_of hA.1 (fun i e v he hv => (hA.2 i e v he hv).1)
  clear hA
  obtain ⟨v0, v1, v2, rfl, g0, g1, g2⟩ := fA_3 hG
  clear hG
  obtain ⟨x0, rfl, b0, d0⟩ := fG_ref (by decide) g0
  obtain ⟨x1, rfl, b1, d1⟩ := aG_int g1
  dsimp only at b1 d1
  obtain ⟨x2, rfl, b2, d2⟩ := fG_ref (by decide) g2
  obtain ⟨m1, m2, m3, m4⟩ := hM
  have f0 : fB K n p 1 [fR x2] σ := by
    obtain ⟨w, e6, e7⟩ := m4 (17, [2]) (List.mem_of_getElem? (i := 0) rfl)
    obtain rfl : [fR x2] = w := Option.some.inj (show some [fR x2] = some w from e6)
    exact (fF_b (r := 17) (by decide) rfl).mp e7
  clear m1 m2 m3 m4
  have q0 : fB K n p 2 [fR x0, fI x1, fI x1] σ := by
    obtain ⟨g, h1⟩ := fRow hH b0 d0 rfl (by decide)
    exact ⟨x0, x1, x1, rfl, b0, by unfold fRw; omega, _, g, h1, fun k hk => by dsimp only at hk; omega⟩
  refine ⟨p, fun _ => rfl, ⟨fun q h => (by cases h), fun q h => (by cases h), ?_, ?_⟩, [], List.mem_cons_self, fun f h => (by cases h)⟩
  · exact fun f h => by cases h
  · exact (aAllc ⟨_, rfl, (fF_b (r := 35) (by decide) rfl).mpr q0⟩ (fun f h => by cases h))
theorem rw_ruLLoSE {K : Nat → Nat} {n : Nat} : aGho (fF K n) fa_T K n (fJX K n) ag_ruLLoSE := by
  refine aGho_of ⟨rfl, rfl⟩ ?_
  intro p σ ρ hH hX hA hM
  have hG := aAG_of hA.1 (fun i e v he hv => (hA.2 i e v he hv).1)
  clear hA
  obtain ⟨v0, v1, v2, v3, rfl, g0, g1, g2, g3⟩ := fA_4 hG
  clear hG
  obtain ⟨x0, rfl, b0, d0⟩ := fG_ref (by decide) g0
  obtain ⟨x1, rfl, b1, d1⟩ := aG_int g1
  dsimp only at b1 d1
  obtain ⟨x2, rfl, b2, d2⟩ := aG_int g2
  dsimp only at b2 d2
  obtain ⟨x3, rfl, b3, d3⟩ := aG_int g3
  dsimp only at b3 d3
  obtain ⟨m1, m2, m3, m4⟩ := hM
  have l0 : 0 ≤ (1 * x3.toInt + (-1 * x1.toInt + 0)) + 0 := by
    obtain ⟨z, e6, e7⟩ := m3 ([(3, 1), (1, -1)], 0) (List.mem_of_getElem? (i := 0) rfl)
    obtain rfl : (1 * x3.toInt + (-1 * x1.toInt + 0)) = z := Option.some.inj (show some (1 * x3.toInt + (-1 * x1.toInt + 0)) = some z from e6)
    exact e7
  have f0 : fB K n p 2 [fR x0, fI x1, fI x2] σ := by
    obtain ⟨w, e6, e7⟩ := m4 (35, [0, 1, 2]) (List.mem_of_getElem? (i := 0) rfl)
    obtain rfl : [fR x0, fI x1, fI x2] = w := Option.some.inj (show some [fR x0, fI x1, fI x2] = some w from e6)
    exact (fF_b (r := 35) (by decide) rfl).mp e7
  clear m1 m2 m3 m4
  have q0 : fB K n p 2 [fR x0, fI x3, fI x2] σ := by
    obtain ⟨a, lo, hi, e, h1, h2, m, g, h3, h4⟩ := f0
    cases e
    exact ⟨x0, x3, x2, rfl, h1, h2, m, g, h3, fun k hk => h4 k (by dsimp only at hk ⊢; omega)⟩
  refine ⟨p, fun _ => rfl, ⟨fun q h => (by cases h), fun q h => (by cases h), ?_, ?_⟩, [], List.mem_cons_self, fun f h => (by cases h)⟩
  · exact fun f h => by cases h
  · exact (aAllc ⟨_, rfl, (fF_b (r := 35) (by decide) rfl).mpr q0⟩ (fun f h => by cases h))
theorem rw_ruLLoEN {K : Nat → Nat} {n : Nat} : aGho (fF K n) fa_T K n (fJX K n) ag_ruLLoEN := by
  refine aGho_of ⟨rfl, rfl⟩ ?_
  intro p σ ρ hH hX hA hM
  have hG := aAG_of hA.1 (fun i e v he hv => (hA.2 i e v he hv).1)
  clear hA
  obtain ⟨v0, v1, v2, v3, rfl, g0, g1, g2, g3⟩ := fA_4 hG
  clear hG
  obtain ⟨x0, rfl, b0, d0⟩ := fG_ref (by decide) g0
  obtain ⟨x1, rfl, b1, d1⟩ := aG_int g1
  dsimp only at b1 d1
  obtain ⟨x2, rfl, b2, d2⟩ := aG_int g2
  dsimp only at b2 d2
  obtain ⟨x3, rfl, b3, d3⟩ := aG_int g3
  dsimp only at b3 d3
  obtain ⟨m1, m2, m3, m4⟩ := hM
  have l0 : 0 ≤ (1 * x3.toInt + (-1 * x1.toInt + 0)) + 0 := by
    obtain ⟨z, e6, e7⟩ := m3 ([(3, 1), (1, -1)], 0) (List.mem_of_getElem? (i := 0) rfl)
    obtain rfl : (1 * x3.toInt + (-1 * x1.toInt + 0)) = z := Option.some.inj (show some (1 * x3.toInt + (-1 * x1.toInt + 0)) = some z from e6)
    exact e7
  have f0 : fB K n p 2 [fR x0, fI x1, fI x2] σ := by
    obtain ⟨w, e6, e7⟩ := m4 (35, [0, 1, 2]) (List.mem_of_getElem? (i := 0) rfl)
    obtain rfl : [fR x0, fI x1, fI x2] = w := Option.some.inj (show some [fR x0, fI x1, fI x2] = some w from e6)
    exact (fF_b (r := 35) (by decide) rfl).mp e7
  clear m1 m2 m3 m4
  have q0 : fB K n p 2 [fR x0, fI x3, fI x2] σ := by
    obtain ⟨a, lo, hi, e, h1, h2, m, g, h3, h4⟩ := f0
    cases e
    exact ⟨x0, x3, x2, rfl, h1, h2, m, g, h3, fun k hk => h4 k (by dsimp only at hk ⊢; omega)⟩
  refine ⟨p, fun _ => rfl, ⟨fun q h => (by cases h), fun q h => (by cases h), ?_, ?_⟩, [], List.mem_cons_self, fun f h => (by cases h)⟩
  · exact fun f h => by cases h
  · exact (aAllc ⟨_, rfl, (fF_b (r := 35) (by decide) rfl).mpr q0⟩ (fun f h => by cases h))
end
section
/-! rules of signs -/
theorem rw_ruL0SI {K : Nat → Nat} {n : Nat} : aGho (fF K n) fa_T K n (fJX K n) ag_ruL0SI := by
  refine aGho_of ⟨rfl, rfl⟩ ?_
  intro p σ ρ hH hX hA hM
  have hG := aAG_of hA.1 (fun i e v he hv => (hA.2 i e v he hv).1)
  clear hA
  obtain ⟨v0, v1, v2, rfl, g0, g1, g2⟩ := fA_3 hG
  clear hG
  obtain ⟨x0, rfl, b0, d0⟩ := fG_ref (by decide) g0
  obtain ⟨x1, rfl, b1, d1⟩ := aG_int g1
  dsimp only at b1 d1
  obtain ⟨x2, rfl, b2, d2⟩ := aG_int g2
  dsimp only at b2 d2
  obtain ⟨m1, m2, m3, m4⟩ := hM
  have l0 : 0 ≤ (-1 * x1.toInt + 0) + 0 := by
    obtain ⟨z, e6, e7⟩ := m3 ([(1, -1)], 0) (List.mem_of_getElem? (i := 0) rfl)
    obtain rfl : (-1 * x1.toInt + 0) = z := Option.some.inj (show some (-1 * x1.toInt + 0) = some z from e6)
    exact e7
  have f0 : fB K n p 2 [fR x0, fI x1, fI x2] σ := by
    obtain ⟨w, e6, e7⟩ := m4 (35, [0, 1, 2]) (List.mem_of_getElem? (i := 0) rfl)
    obtain rfl : [fR x0, fI x1, fI x2] = w := Option.some.inj (show some [fR x0, fI x1, fI x2] = some w from e6)
    exact (fF_b (r := 35) (by decide) rfl).mp e7
  clear m1 m2 m3 m4
  have q0 : fB K n p 47 [fR x0, fI x2] σ := by
    obtain ⟨a, lo, hi, e, h1, h2, m, g, h3, h4⟩ := f0
    cases e
    exact ⟨x0, x2, rfl, h1, h2, m, g, h3, fun k hk => h4 k (by dsimp only at hk ⊢; omega)⟩
  refine ⟨p, fun _ => rfl, ⟨fun q h => (by cases h), fun q h => (by cases h), ?_, ?_⟩, [], List.mem_cons_self, fun f h => (by cases h)⟩
  · exact fun f h => by cases h
  · exact (aAllc ⟨_, rfl, (fF_b (r := 754) (by decide) rfl).mpr q0⟩ (fun f h => by cases h))
theorem rw_ruLM0SI {K : Nat → Nat} {n : Nat} : aGho (fF K n) fa_T K n (fJX K n) ag_ruLM0SI := by
  refine aGho_of ⟨rfl, rfl⟩ ?_
  intro p σ ρ hH hX hA hM
  have hG := aAG_of hA.1 (fun i e v he hv => (hA.2 i e v he hv).1)
  clear hA
  obtain ⟨v0, v1, v2, v3, rfl, g0, g1, g2, g3⟩ := fA_4 hG
  clear hG
  obtain ⟨x0, rfl, b0, d0⟩ := fG_ref (by decide) g0
  obtain ⟨x1, rfl, b1, d1⟩ := aG_int g1
  dsimp only at b1 d1
  obtain ⟨x2, rfl, b2, d2⟩ := aG_int g2
  dsimp only at b2 d2
  obtain ⟨x3, rfl, b3, d3⟩ := aG_int g3
  dsimp only at b3 d3
  obtain ⟨m1, m2, m3, m4⟩ := hM
  obtain ⟨a, mc0, ty0, gc0, ic0, e1, sc0, jc0, e4, e5⟩ := m2 (0, ([(1, 1)], 0), 3) (List.mem_of_getElem? (i := 0) rfl)
  obtain rfl : x0 = a := Sum.inl.inj (Option.some.inj (Sum.inr.inj (Sum.inr.inj (Option.some.inj (show some (fR x0) = some _ from e1)))))
  obtain ⟨gc0, rfl⟩ : ∃ g, gc0 = .inl g := by
    rcases gc0 with g | g
    · exact ⟨g, rfl⟩
    · exact absurd (show some (fI x3) = some (.inr (.inl (g ic0))) from e5) (fun h => by cases h)
  have sc0 : σ x0 = .inl (ty0, mc0, .inl gc0) := sc0
  have ec0 : x3 = gc0 ic0 := Sum.inl.inj (Option.some.inj (show some (fI x3) = some _ from e5))
  have kc0 : (ic0 : Int) = (1 * x1.toInt + 0) + 0 := by
    obtain ⟨z, e6, e7⟩ := e4
    obtain rfl : (1 * x1.toInt + 0) = z := Option.some.inj (show some (1 * x1.toInt + 0) = some z from e6)
    exact e7
  clear e1 e4 e5
  have l0 : 0 ≤ (1 * x2.toInt + (-1 * x1.toInt + 0)) + -1 := by
    obtain ⟨z, e6, e7⟩ := m3 ([(2, 1), (1, -1)], -1) (List.mem_of_getElem? (i := 0) rfl)
    obtain rfl : (1 * x2.toInt + (-1 * x1.toInt + 0)) = z := Option.some.inj (show some (1 * x2.toInt + (-1 * x1.toInt + 0)) = some z from e6)
    exact e7
  have f0 : fB K n p 47 [fR x0, fI x2] σ := by
    obtain ⟨w, e6, e7⟩ := m4 (754, [0, 2]) (List.mem_of_getElem? (i := 0) rfl)
    obtain rfl : [fR x0, fI x2] = w := Option.some.inj (show some [fR x0, fI x2] = some w from e6)
    exact (fF_b (r := 754) (by decide) rfl).mp e7
  clear m1 m2 m3 m4
  have q0 : fB K n p 3 [fI x3] σ := by
    obtain ⟨a, hi, e, h1, h2, m, g, h3, h4⟩ := f0
    cases e
    rw [h3] at sc0
    cases sc0
    have h5 := h4 ic0 (by dsimp only; omega)
    rw [← ec0] at h5
    exact ⟨x3, rfl, h5⟩
  refine ⟨p, fun _ => rfl, ⟨fun q h => (by cases h), fun q h => (by cases h), ?_, ?_⟩, [], List.mem_cons_self, fun f h => (by cases h)⟩
  · exact fun f h => by cases h
  · exact (aAllc ⟨_, rfl, (fF_b (r := 49) (by decide) rfl).mpr q0⟩ (fun f h => by cases h))
theorem rw_ruL0EN {K : Nat → Nat} {n : Nat} : aGho (fF K n) fa_T K n (fJX K n) ag_ruL0EN := by
  refine aGho_of ⟨rfl, rfl⟩ ?_
  intro p σ ρ hH hX hA hM
  have hG := aAG_of hA.1 (fun i e v he hv => (hA.2 i e v he hv).1)
  clear hA
  obtain ⟨v0, v1, v2, rfl, g0, g1, g2⟩ := fA_3 hG
  clear hG
  obtain ⟨x0, rfl, b0, d0⟩ := fG_ref (by decide) g0
  obtain ⟨x1, rfl, b1, d1⟩ := aG_int g1
  dsimp only at b1 d1
  obtain ⟨x2, rfl, b2, d2⟩ := aG_int g2
  dsimp only at b2 d2
  obtain ⟨m1, m2, m3, m4⟩ := hM
  have l0 : 0 ≤ (-1 * x1.toInt + 0) + 0 := by
    obtain ⟨z, e6, e7⟩ := m3 ([(1, -1)], 0) (List.mem_of_getElem? (i := 0) rfl)
    obtain rfl : (-1 * x1.toInt + 0) = z := Option.some.inj (show some (-1 * x1.toInt + 0) = some z from e6)
    exact e7
  have f0 : fB K n p 2 [fR x0, fI x1, fI x2] σ := by
    obtain ⟨w, e6, e7⟩ := m4 (35, [0, 1, 2]) (List.mem_of_getElem? (i := 0) rfl)
    obtain rfl : [fR x0, fI x1, fI x2] = w := Option.some.inj (show some [fR x0, fI x1, fI x2] = some w from e6)
    exact (fF_b (r := 35) (by decide) rfl).mp e7
  clear m1 m2 m3 m4
  have q0 : fB K n p 47 [fR x0, fI x2] σ := by
    obtain ⟨a, lo, hi, e, h1, h2, m, g, h3, h4⟩ := f0
    cases e
    exact ⟨x0, x2, rfl, h1, h2, m, g, h3, fun k hk => h4 k (by dsimp only at hk ⊢; omega)⟩
  refine ⟨p, fun _ => rfl, ⟨fun q h => (by cases h), fun q h => (by cases h), ?_, ?_⟩, [], List.mem_cons_self, fun f h => (by cases h)⟩
  · exact fun f h => by cases h
  · exact (aAllc ⟨_, rfl, (fF_b (r := 754) (by decide) rfl).mpr q0⟩ (fun f h => by cases h))
theorem rw_ruLO0 {K : Nat → Nat} {n : Nat} : aGho (fF K n) fa_T K n (fJX K n) ag_ruLO0 := by
  refine aGho_of ⟨rfl, rfl⟩ ?_
  intro p σ ρ hH hX hA hM
  have hG := aAG_of hA.1 (fun i e v he hv => (hA.2 i e v he hv).1)
  clear hA
  obtain ⟨v0, rfl, g0⟩ := fA_1 hG
  clear hG
  obtain ⟨x0, rfl, b0, d0⟩ := aG_int g0
  dsimp only at b0 d0
  obtain ⟨m1, m2, m3, m4⟩ := hM
  clear m1 m2 m3 m4
  have q0 : fB K n p 46 [fI x0] σ := by
    exact ⟨x0, rfl, Or.inl (by omega)⟩
  refine ⟨p, fun _ => rfl, ⟨fun q h => (by cases h), fun q h => (by cases h), ?_, ?_⟩, [], List.mem_cons_self, fun f h => (by cases h)⟩
  · exact fun f h => by cases h
  · exact (aAllc ⟨_, rfl, (fF_b (r := 737) (by decide) rfl).mpr q0⟩ (fun f h => by cases h))
theorem rw_ruLO1 {K : Nat → Nat} {n : Nat} : aGho (fF K n) fa_T K n (fJX K n) ag_ruLO1 := by
  refine aGho_of ⟨rfl, rfl⟩ ?_
  intro p σ ρ hH hX hA hM
  have hG := aAG_of hA.1 (fun i e v he hv => (hA.2 i e v he hv).1)
  clear hA
  obtain ⟨v0, rfl, g0⟩ := fA_1 hG
  clear hG
  obtain ⟨x0, rfl, b0, d0⟩ := aG_int g0
  dsimp only at b0 d0
  obtain ⟨m1, m2, m3, m4⟩ := hM
  have f0 : fB K n p 3 [fI x0] σ := by
    obtain ⟨w, e6, e7⟩ := m4 (49, [0]) (List.mem_of_getElem? (i := 0) rfl)
    obtain rfl : [fI x0] = w := Option.some.inj (show some [fI x0] = some w from e6)
    exact (fF_b (r := 49) (by decide) rfl).mp e7
  clear m1 m2 m3 m4
  have q0 : fB K n p 46 [fI x0] σ := by
    obtain ⟨m, e, h⟩ := f0
    cases e
    exact ⟨x0, rfl, Or.inr h⟩
  refine ⟨p, fun _ => rfl, ⟨fun q h => (by cases h), fun q h => (by cases h), ?_, ?_⟩, [], List.mem_cons_self, fun f h => (by cases h)⟩
  · exact fun f h => by cases h
  · exact (aAllc ⟨_, rfl, (fF_b (r := 737) (by decide) rfl).mpr q0⟩ (fun f h => by cases h))
theorem rw_ruLO2 {K : Nat → Nat} {n : Nat} : aGho (fF K n) fa_T K n (fJX K n) ag_ruLO2 := by
  refine aGho_of ⟨rfl, rfl⟩ ?_
  intro p σ ρ hH hX hA hM
  have hG := aAG_of hA.1 (fun i e v he hv => (hA.2 i e v he hv).1)
  clear hA
  obtain ⟨v0, rfl, g0⟩ := fA_1 hG
  clear hG
  obtain ⟨x0, rfl, b0, d0⟩ := aG_int g0
  dsimp only at b0 d0
  obtain ⟨m1, m2, m3, m4⟩ := hM
  have f0 : fB K n p 46 [fI x0] σ := by
    obtain ⟨w, e6, e7⟩ := m4 (737, [0]) (List.mem_of_getElem? (i := 0) rfl)
    obtain rfl : [fI x0] = w := Option.some.inj (show some [fI x0] = some w from e6)
    exact (fF_b (r := 737) (by decide) rfl).mp e7
  clear m1 m2 m3 m4
  have q0 : fB K n p 3 [fI x0] σ := by
    obtain ⟨m, e, h⟩ := f0
    cases e
    exact ⟨x0, rfl, h.resolve_left (by omega)⟩
  refine ⟨p, fun _ => rfl, ⟨fun q h => (by cases h), fun q h => (by cases h), ?_, ?_⟩, [], List.mem_cons_self, fun f h => (by cases h)⟩
  · exact fun f h => by cases h
  · exact (aAllc ⟨_, rfl, (fF_b (r := 49) (by decide) rfl).mpr q0⟩ (fun f h => by cases h))
end
section
/-! the class's Board, as a picture of its own -/
theorem fRowL {T : List aKd} {K : Nat → Nat} {n : Nat} {σ : Nat → jcell} (h : aH T K n σ) {a k : Nat} (ha : a < n) (hk : K a = k) {q : FieldType × Nat × (Int × Int) × List (Nat × Nat × Int × Int × Int)} (hT : T[k]? = some (.inl q)) (hq : q.1 = .long) : ∃ g, σ a = .inl (q.1, q.2.1, .inr (.inl g)) := by
  have h1 := h a ha _ (by rw [hk]; exact hT)
  obtain ⟨g, e⟩ := aCe_larr h1 hq
  exact ⟨g, e⟩
theorem fFld {K : Nat → Nat} {n : Nat} {ts : List aT} {fs : List jv} (h : aFs K n ts fs) {i : Nat} {A : Int × Int} (hi : ts[i]? = some (.inl A)) : ∃ x : Int32, fs[i]? = some (.inl x) ∧ aIn A x := by
  have hl : i < fs.length := by rw [h.1]; exact (List.getElem?_eq_some_iff.mp hi).1
  obtain ⟨x, e, hx⟩ := aG_int (h.2 i _ _ hi (List.getElem?_eq_getElem hl))
  exact ⟨x, by rw [List.getElem?_eq_getElem hl, e], hx⟩
theorem fBd_in {K : Nat → Nat} {n : Nat} {σ : Nat → jcell} (hH : aH fa_T K n σ) {a n0 : Nat} (ha : a < n) (hk : K a = 26) (hl : fLay K n σ a n0) : ∃ (F : Nat → Int32) (A : Nat → Nat → Int32) (L : Nat → Nat → Int64), σ = bdP σ a n0 F A L := by
  obtain ⟨h1, h2, h3, fs, hs, f0, f1, f7, f8, f9, f10, f11, f12, f13, f14, f15⟩ := hl
  have hc := hH a ha _ (show fa_T[K a]? = some _ by rw [hk]; rfl)
  rw [hs] at hc
  obtain ⟨-, hf⟩ := hc
  obtain ⟨x2, f2, -⟩ := fFld hf (i := 2) rfl
  obtain ⟨x3, f3, -⟩ := fFld hf (i := 3) rfl
  obtain ⟨x4, f4, -⟩ := fFld hf (i := 4) rfl
  obtain ⟨x5, f5, -⟩ := fFld hf (i := 5) rfl
  obtain ⟨x6, f6, -⟩ := fFld hf (i := 6) rfl
  obtain ⟨x16, f16, -⟩ := fFld hf (i := 16) rfl
  have hlen : fs.length = 17 := hf.1
  obtain ⟨g0, r0⟩ := fRow hH (a := n0 + 0) (by omega) (h3 0 (by decide)) rfl (by decide)
  obtain ⟨g1, r1⟩ := fRow hH (a := n0 + 1) (by omega) (h3 1 (by decide)) rfl (by decide)
  obtain ⟨g2, r2⟩ := fRowL hH (a := n0 + 2) (by omega) (h3 2 (by decide)) rfl rfl
  obtain ⟨g3, r3⟩ := fRow hH (a := n0 + 3) (by omega) (h3 3 (by decide)) rfl (by decide)
  obtain ⟨g4, r4⟩ := fRow hH (a := n0 + 4) (by omega) (h3 4 (by decide)) rfl (by decide)
  obtain ⟨g5, r5⟩ := fRow hH (a := n0 + 5) (by omega) (h3 5 (by decide)) rfl (by decide)
  obtain ⟨g6, r6⟩ := fRow hH (a := n0 + 6) (by omega) (h3 6 (by decide)) rfl (by decide)
  obtain ⟨g7, r7⟩ := fRow hH (a := n0 + 7) (by omega) (h3 7 (by decide)) rfl (by decide)
  obtain ⟨g8, r8⟩ := fRow hH (a := n0 + 8) (by omega) (h3 8 (by decide)) rfl (by decide)
  obtain ⟨g9, r9⟩ := fRowL hH (a := n0 + 9) (by omega) (h3 9 (by decide)) rfl rfl
  obtain ⟨g10, r10⟩ := fRow hH (a := n0 + 10) (by omega) (h3 10 (by decide)) rfl (by decide)
  refine ⟨fun k => if k = 2 then x2 else if k = 3 then x3 else if k = 4 then x4 else if k = 5 then x5 else if k = 6 then x6 else if k = 16 then x16 else 0, fun j => if j = 0 then g0 else if j = 1 then g1 else if j = 3 then g3 else if j = 4 then g4 else if j = 5 then g5 else if j = 6 then g6 else if j = 7 then g7 else if j = 8 then g8 else if j = 10 then g10 else fun _ => 0, fun j => if j = 2 then g2 else if j = 9 then g9 else fun _ => 0, ?_⟩
  funext p
  unfold bdP
  split
  next e =>
    subst e
    rw [hs]
    congr 2
    apply List.ext_getElem?
    intro i
    match i with
    | 0 => exact f0
    | 1 => exact f1
    | 2 => exact f2
    | 3 => exact f3
    | 4 => exact f4
    | 5 => exact f5
    | 6 => exact f6
    | 7 => exact f7
    | 8 => exact f8
    | 9 => exact f9
    | 10 => exact f10
    | 11 => exact f11
    | 12 => exact f12
    | 13 => exact f13
    | 14 => exact f14
    | 15 => exact f15
    | 16 => exact f16
    | k + 17 => rw [List.getElem?_eq_none (by omega), List.getElem?_eq_none (by simp [bd_fl])]
  next e =>
    split
    next e2 =>
      obtain ⟨j, rfl⟩ : ∃ j, p = n0 + j := ⟨p - n0, by omega⟩
      rw [show n0 + j - n0 = j by omega]
      have hj : j < 11 := by omega
      match j, hj with
      | 0, _ => exact r0
      | 1, _ => exact r1
      | 2, _ => exact r2
      | 3, _ => exact r3
      | 4, _ => exact r4
      | 5, _ => exact r5
      | 6, _ => exact r6
      | 7, _ => exact r7
      | 8, _ => exact r8
      | 9, _ => exact r9
      | 10, _ => exact r10
    next => rfl
theorem fBd_a {σ : Nat → jcell} {a n0 : Nat} {F : Nat → Int32} {A : Nat → Nat → Int32} {L : Nat → Nat → Int64} : bdP σ a n0 F A L a = .inr (10, bd_fl n0 F) := by
  unfold bdP
  rw [if_pos rfl]
theorem fBd_r {σ : Nat → jcell} {a n0 j : Nat} {F : Nat → Int32} {A : Nat → Nat → Int32} {L : Nat → Nat → Int64} (h : a < n0) (hj : j < 11) : bdP σ a n0 F A L (n0 + j) = bd_c A L j := by
  unfold bdP
  rw [if_neg (by omega), if_pos (by omega), show n0 + j - n0 = j by omega]
theorem fBd_n {σ : Nat → jcell} {a n0 b : Nat} {F : Nat → Int32} {A : Nat → Nat → Int32} {L : Nat → Nat → Int64} (h1 : ¬ b = a) (h2 : ¬ (n0 ≤ b ∧ b < n0 + 11)) : bdP σ a n0 F A L b = σ b := by
  unfold bdP
  rw [if_neg h1, if_neg h2]
theorem fBd_out {K : Nat → Nat} {n : Nat} {σ : Nat → jcell} (hH : aH fa_T K n σ) {a n0 : Nat} (ha : a < n) (hk : K a = 26) (hl : fLay K n σ a n0) {F F' : Nat → Int32} {A A' : Nat → Nat → Int32} {L L' : Nat → Nat → Int64} (hσ : σ = bdP σ a n0 F A L) (hM : menOK (A' 0)) (hK : kOK (A' 1)) (hb : bKeep A A' L L') (q2 : aIn (0, 1) (F' 2)) (q3 : aIn (0, 15) (F' 3)) (q4 : aIn (-1, 63) (F' 4)) (q5 : aIn (0, 2147483647) (F' 5)) (q16 : F' 16 = F 16) : aH fa_T K n (bdP σ a n0 F' A' L') := by
  obtain ⟨h1, h2, h3, fs, hs, -⟩ := hl
  intro b hbn d hd
  by_cases e : b = a
  · subst e
    rw [fBd_a]
    have ho := hH b ha _ hd
    rw [hσ, fBd_a] at ho
    rw [hk] at hd
    obtain rfl := Option.some.inj hd
    obtain ⟨-, -, ho⟩ := ho
    refine ⟨rfl, rfl, fun f t v ht hv => ?_⟩
    match f, ht, hv with
    | 0, ht, hv => obtain rfl := Option.some.inj ht; obtain rfl := Option.some.inj hv; exact ⟨by omega, Or.inl (h3 0 (by decide))⟩
    | 1, ht, hv => obtain rfl := Option.some.inj ht; obtain rfl := Option.some.inj hv; exact ⟨by omega, Or.inl (h3 1 (by decide))⟩
    | 2, ht, hv => obtain rfl := Option.some.inj ht; obtain rfl := Option.some.inj hv; exact q2
    | 3, ht, hv => obtain rfl := Option.some.inj ht; obtain rfl := Option.some.inj hv; exact q3
    | 4, ht, hv => obtain rfl := Option.some.inj ht; obtain rfl := Option.some.inj hv; exact q4
    | 5, ht, hv => obtain rfl := Option.some.inj ht; obtain rfl := Option.some.inj hv; exact q5
    | 6, ht, hv => obtain rfl := Option.some.inj ht; obtain rfl := Option.some.inj hv; exact aIn_32 _
    | 7, ht, hv => obtain rfl := Option.some.inj ht; obtain rfl := Option.some.inj hv; exact ⟨by omega, Or.inl (h3 2 (by decide))⟩
    | 8, ht, hv => obtain rfl := Option.some.inj ht; obtain rfl := Option.some.inj hv; exact ⟨by omega, Or.inl (h3 3 (by decide))⟩
    | 9, ht, hv => obtain rfl := Option.some.inj ht; obtain rfl := Option.some.inj hv; exact ⟨by omega, Or.inl (h3 4 (by decide))⟩
    | 10, ht, hv => obtain rfl := Option.some.inj ht; obtain rfl := Option.some.inj hv; exact ⟨by omega, Or.inl (h3 5 (by decide))⟩
    | 11, ht, hv => obtain rfl := Option.some.inj ht; obtain rfl := Option.some.inj hv; exact ⟨by omega, Or.inl (h3 6 (by decide))⟩
    | 12, ht, hv => obtain rfl := Option.some.inj ht; obtain rfl := Option.some.inj hv; exact ⟨by omega, Or.inl (h3 7 (by decide))⟩
    | 13, ht, hv => obtain rfl := Option.some.inj ht; obtain rfl := Option.some.inj hv; exact ⟨by omega, Or.inl (h3 8 (by decide))⟩
    | 14, ht, hv => obtain rfl := Option.some.inj ht; obtain rfl := Option.some.inj hv; exact ⟨by omega, Or.inl (h3 9 (by decide))⟩
    | 15, ht, hv => obtain rfl := Option.some.inj ht; obtain rfl := Option.some.inj hv; exact ⟨by omega, Or.inl (h3 10 (by decide))⟩
    | 16, ht, hv => obtain rfl := Option.some.inj ht; obtain rfl := Option.some.inj hv; rw [q16]; exact ho 16 _ _ rfl rfl
    | k + 17, ht, hv => simp [bd_fl] at hv
  · by_cases e2 : n0 ≤ b ∧ b < n0 + 11
    · obtain ⟨j, rfl⟩ : ∃ j, b = n0 + j := ⟨b - n0, by omega⟩
      have hj : j < 11 := by omega
      rw [fBd_r h1 hj]
      have ho := hH (n0 + j) hbn _ hd
      rw [hσ, fBd_r h1 hj] at ho
      rw [h3 j hj] at hd
      match j, hj, hd, ho with
      | 0, _, hd, ho => obtain rfl := Option.some.inj hd; exact ⟨rfl, rfl, by decide, fun i hi => ⟨by obtain ⟨m, hm, e⟩ := hM i hi; rw [e]; exact ⟨by rw [nI_toInt (by omega)]; dsimp only; omega, by rw [nI_toInt (by omega)]; dsimp only; omega⟩, fun q hq => by cases hq⟩⟩
      | 1, _, hd, ho => obtain rfl := Option.some.inj hd; exact ⟨rfl, rfl, by decide, fun i hi => ⟨by obtain ⟨m, hm, e⟩ := hK i hi; rw [e]; exact ⟨by rw [nI_toInt (by omega)]; dsimp only; omega, by rw [nI_toInt (by omega)]; dsimp only; omega⟩, fun q hq => by cases hq⟩⟩
      | 2, _, hd, ho => obtain rfl := Option.some.inj hd; exact ⟨rfl, rfl, rfl⟩
      | 3, _, hd, ho => obtain rfl := Option.some.inj hd; exact ⟨rfl, rfl, by decide, fun i hi => ⟨aIn_32 _, fun q hq => by cases hq⟩⟩
      | 4, _, hd, ho => obtain rfl := Option.some.inj hd; exact ⟨rfl, rfl, by decide, fun i hi => ⟨aIn_32 _, fun q hq => by cases hq⟩⟩
      | 5, _, hd, ho => obtain rfl := Option.some.inj hd; exact ⟨rfl, rfl, by decide, fun i hi => ⟨aIn_32 _, fun q hq => by cases hq⟩⟩
      | 6, _, hd, ho => obtain rfl := Option.some.inj hd; have eA : A' 6 = A 6 := hb.1; show aCe K n _ (.inl (.int, 1024, .inl (A' 6))); rw [eA]; exact ho
      | 7, _, hd, ho => obtain rfl := Option.some.inj hd; have eA : A' 7 = A 7 := hb.2.1; show aCe K n _ (.inl (.int, 512, .inl (A' 7))); rw [eA]; exact ho
      | 8, _, hd, ho => obtain rfl := Option.some.inj hd; have eA : A' 8 = A 8 := hb.2.2.1; show aCe K n _ (.inl (.int, 512, .inl (A' 8))); rw [eA]; exact ho
      | 9, _, hd, ho => obtain rfl := Option.some.inj hd; exact ⟨rfl, rfl, rfl⟩
      | 10, _, hd, ho => obtain rfl := Option.some.inj hd; exact ⟨rfl, rfl, by decide, fun i hi => ⟨aIn_32 _, fun q hq => by cases hq⟩⟩
    · rw [fBd_n e e2]
      exact hH b hbn d hd
theorem fBd_fr {K : Nat → Nat} {n : Nat} {σ : Nat → jcell} (hH : aH fa_T K n σ) {a n0 : Nat} (ha : a < n) (hk : K a = 26) (hl : fLay K n σ a n0) {F F' : Nat → Int32} {A A' : Nat → Nat → Int32} {L L' : Nat → Nat → Int64} (hσ : σ = bdP σ a n0 F A L) (q16 : F' 16 = F 16) : aFr K n [(26, 2), (26, 3), (26, 4), (26, 5), (26, 6)] σ (bdP σ a n0 F' A' L') := by
  obtain ⟨h1, h2, h3, -⟩ := hl
  intro b hbn c fs h0
  by_cases e : b = a
  · subst e
    rw [hσ, fBd_a] at h0
    cases h0
    refine ⟨bd_fl n0 F', fBd_a, rfl, fun f v hv hn => ?_⟩
    match f, hv, hn with
    | 0, hv, hn => exact hv
    | 1, hv, hn => exact hv
    | 2, hv, hn => exact absurd (by rw [hk]; decide) hn
    | 3, hv, hn => exact absurd (by rw [hk]; decide) hn
    | 4, hv, hn => exact absurd (by rw [hk]; decide) hn
    | 5, hv, hn => exact absurd (by rw [hk]; decide) hn
    | 6, hv, hn => exact absurd (by rw [hk]; decide) hn
    | 7, hv, hn => exact hv
    | 8, hv, hn => exact hv
    | 9, hv, hn => exact hv
    | 10, hv, hn => exact hv
    | 11, hv, hn => exact hv
    | 12, hv, hn => exact hv
    | 13, hv, hn => exact hv
    | 14, hv, hn => exact hv
    | 15, hv, hn => exact hv
    | 16, hv, hn => show some (.inl (F' 16)) = some v; rw [q16]; exact hv
    | k + 17, hv, hn => simp [bd_fl] at hv
  · by_cases e2 : n0 ≤ b ∧ b < n0 + 11
    · obtain ⟨j, rfl⟩ : ∃ j, b = n0 + j := ⟨b - n0, by omega⟩
      have hj : j < 11 := by omega
      rw [hσ, fBd_r h1 hj] at h0
      match j, hj, h0 with
      | 0, _, h0 => exact absurd (show (.inl (.int, 64, .inl (A 0)) : jcell) = .inr (c, fs) from h0) (by intro h; cases h)
      | 1, _, h0 => exact absurd (show (.inl (.int, 2, .inl (A 1)) : jcell) = .inr (c, fs) from h0) (by intro h; cases h)
      | 2, _, h0 => exact absurd (show (.inl (.long, 4, .inr (.inl (L 2))) : jcell) = .inr (c, fs) from h0) (by intro h; cases h)
      | 3, _, h0 => exact absurd (show (.inl (.int, 2, .inl (A 3)) : jcell) = .inr (c, fs) from h0) (by intro h; cases h)
      | 4, _, h0 => exact absurd (show (.inl (.int, 16, .inl (A 4)) : jcell) = .inr (c, fs) from h0) (by intro h; cases h)
      | 5, _, h0 => exact absurd (show (.inl (.int, 2, .inl (A 5)) : jcell) = .inr (c, fs) from h0) (by intro h; cases h)
      | 6, _, h0 => exact absurd (show (.inl (.int, 1024, .inl (A 6)) : jcell) = .inr (c, fs) from h0) (by intro h; cases h)
      | 7, _, h0 => exact absurd (show (.inl (.int, 512, .inl (A 7)) : jcell) = .inr (c, fs) from h0) (by intro h; cases h)
      | 8, _, h0 => exact absurd (show (.inl (.int, 512, .inl (A 8)) : jcell) = .inr (c, fs) from h0) (by intro h; cases h)
      | 9, _, h0 => exact absurd (show (.inl (.long, 1280, .inr (.inl (L 9))) : jcell) = .inr (c, fs) from h0) (by intro h; cases h)
      | 10, _, h0 => exact absurd (show (.inl (.int, 320, .inl (A 10)) : jcell) = .inr (c, fs) from h0) (by intro h; cases h)
    · exact ⟨fs, by rw [fBd_n e e2]; exact h0, rfl, fun f v hv _ => hv⟩
theorem fBd_fa {K : Nat → Nat} {n : Nat} {σ : Nat → jcell} (hH : aH fa_T K n σ) {a n0 : Nat} (ha : a < n) (hk : K a = 26) (hl : fLay K n σ a n0) {F F' : Nat → Int32} {A A' : Nat → Nat → Int32} {L L' : Nat → Nat → Int64} (hσ : σ = bdP σ a n0 F A L) (hb : bKeep A A' L L') (ρ : List jv) : aFa K n [(27, ([], 0)), (28, ([], 0)), (29, ([], 0)), (30, ([], 0)), (31, ([], 0)), (32, ([], 0))] ρ σ (bdP σ a n0 F' A' L') := by
  obtain ⟨h1, h2, h3, -⟩ := hl
  intro b hbn
  have vac : ∀ (j i : Nat), j < 6 → aFw K [(27, ([], 0)), (28, ([], 0)), (29, ([], 0)), (30, ([], 0)), (31, ([], 0)), (32, ([], 0))] ρ (n0 + j) i → False := fun j i hj hw => by
    obtain ⟨z, hz, hlt⟩ := hw (27 + j, ([], 0)) (by
      match j, hj with
      | 0, _ => decide
      | 1, _ => decide
      | 2, _ => decide
      | 3, _ => decide
      | 4, _ => decide
      | 5, _ => decide) (h3 j (by omega)).symm
    obtain ⟨w, e, rfl⟩ := hz
    have ew : (0 : Int) = w := Option.some.inj (show some (0 : Int) = some w from e)
    dsimp only at hlt
    omega
  by_cases e : b = a
  · subst e
    refine ⟨fun ty m g h0 => ?_, fun ty m g h0 => ?_⟩
    · rw [hσ, fBd_a] at h0
      cases h0
    · rw [hσ, fBd_a] at h0
      cases h0
  · by_cases e2 : n0 ≤ b ∧ b < n0 + 11
    · obtain ⟨j, rfl⟩ : ∃ j, b = n0 + j := ⟨b - n0, by omega⟩
      have hj : j < 11 := by omega
      refine ⟨fun ty m g h0 => ?_, fun ty m g h0 => ?_⟩
      · rw [hσ, fBd_r h1 hj] at h0
        match j, hj, h0 with
        | 0, _, h0 => cases (show (.inl (.int, 64, .inl (A 0)) : jcell) = .inl (ty, m, .inl g) from h0); exact ⟨A' 0, fBd_r h1 (by decide), fun i hw => (vac 0 i (by decide) hw).elim⟩
        | 1, _, h0 => cases (show (.inl (.int, 2, .inl (A 1)) : jcell) = .inl (ty, m, .inl g) from h0); exact ⟨A' 1, fBd_r h1 (by decide), fun i hw => (vac 1 i (by decide) hw).elim⟩
        | 2, _, h0 => exact absurd (show (.inl (.long, 4, .inr (.inl (L 2))) : jcell) = .inl (ty, m, .inl g) from h0) (by intro h; cases h)
        | 3, _, h0 => cases (show (.inl (.int, 2, .inl (A 3)) : jcell) = .inl (ty, m, .inl g) from h0); exact ⟨A' 3, fBd_r h1 (by decide), fun i hw => (vac 3 i (by decide) hw).elim⟩
        | 4, _, h0 => cases (show (.inl (.int, 16, .inl (A 4)) : jcell) = .inl (ty, m, .inl g) from h0); exact ⟨A' 4, fBd_r h1 (by decide), fun i hw => (vac 4 i (by decide) hw).elim⟩
        | 5, _, h0 => cases (show (.inl (.int, 2, .inl (A 5)) : jcell) = .inl (ty, m, .inl g) from h0); exact ⟨A' 5, fBd_r h1 (by decide), fun i hw => (vac 5 i (by decide) hw).elim⟩
        | 6, _, h0 => cases (show (.inl (.int, 1024, .inl (A 6)) : jcell) = .inl (ty, m, .inl g) from h0); exact ⟨A' 6, fBd_r h1 (by decide), fun i _ => by rw [hb.1]⟩
        | 7, _, h0 => cases (show (.inl (.int, 512, .inl (A 7)) : jcell) = .inl (ty, m, .inl g) from h0); exact ⟨A' 7, fBd_r h1 (by decide), fun i _ => by rw [hb.2.1]⟩
        | 8, _, h0 => cases (show (.inl (.int, 512, .inl (A 8)) : jcell) = .inl (ty, m, .inl g) from h0); exact ⟨A' 8, fBd_r h1 (by decide), fun i _ => by rw [hb.2.2.1]⟩
        | 9, _, h0 => exact absurd (show (.inl (.long, 1280, .inr (.inl (L 9))) : jcell) = .inl (ty, m, .inl g) from h0) (by intro h; cases h)
        | 10, _, h0 => cases (show (.inl (.int, 320, .inl (A 10)) : jcell) = .inl (ty, m, .inl g) from h0); exact ⟨A' 10, fBd_r h1 (by decide), fun i _ => by rw [hb.2.2.2.1]⟩
      · rw [hσ, fBd_r h1 hj] at h0
        match j, hj, h0 with
        | 0, _, h0 => exact absurd (show (.inl (.int, 64, .inl (A 0)) : jcell) = .inl (ty, m, .inr (.inl g)) from h0) (by intro h; cases h)
        | 1, _, h0 => exact absurd (show (.inl (.int, 2, .inl (A 1)) : jcell) = .inl (ty, m, .inr (.inl g)) from h0) (by intro h; cases h)
        | 2, _, h0 => cases (show (.inl (.long, 4, .inr (.inl (L 2))) : jcell) = .inl (ty, m, .inr (.inl g)) from h0); exact ⟨L' 2, fBd_r h1 (by decide), fun i hw => (vac 2 i (by decide) hw).elim⟩
        | 3, _, h0 => exact absurd (show (.inl (.int, 2, .inl (A 3)) : jcell) = .inl (ty, m, .inr (.inl g)) from h0) (by intro h; cases h)
        | 4, _, h0 => exact absurd (show (.inl (.int, 16, .inl (A 4)) : jcell) = .inl (ty, m, .inr (.inl g)) from h0) (by intro h; cases h)
        | 5, _, h0 => exact absurd (show (.inl (.int, 2, .inl (A 5)) : jcell) = .inl (ty, m, .inr (.inl g)) from h0) (by intro h; cases h)
        | 6, _, h0 => exact absurd (show (.inl (.int, 1024, .inl (A 6)) : jcell) = .inl (ty, m, .inr (.inl g)) from h0) (by intro h; cases h)
        | 7, _, h0 => exact absurd (show (.inl (.int, 512, .inl (A 7)) : jcell) = .inl (ty, m, .inr (.inl g)) from h0) (by intro h; cases h)
        | 8, _, h0 => exact absurd (show (.inl (.int, 512, .inl (A 8)) : jcell) = .inl (ty, m, .inr (.inl g)) from h0) (by intro h; cases h)
        | 9, _, h0 => cases (show (.inl (.long, 1280, .inr (.inl (L 9))) : jcell) = .inl (ty, m, .inr (.inl g)) from h0); exact ⟨L' 9, fBd_r h1 (by decide), fun i _ => by rw [hb.2.2.2.2]⟩
        | 10, _, h0 => exact absurd (show (.inl (.int, 320, .inl (A 10)) : jcell) = .inl (ty, m, .inr (.inl g)) from h0) (by intro h; cases h)
    · refine ⟨fun ty m g h0 => ⟨g, by rw [fBd_n e e2]; exact h0, fun _ _ => rfl⟩, fun ty m g h0 => ⟨g, by rw [fBd_n e e2]; exact h0, fun _ _ => rfl⟩⟩
theorem fBd_jx {K : Nat → Nat} {n : Nat} {σ : Nat → jcell} (hH : aH fa_T K n σ) {a n0 : Nat} (ha : a < n) (hk : K a = 26) (hl : fLay K n σ a n0) {F F' : Nat → Int32} {A A' : Nat → Nat → Int32} {L L' : Nat → Nat → Int64} (hσ : σ = bdP σ a n0 F A L) (hb : bKeep A A' L L') (hX : fJX K n σ) : fJX K n (bdP σ a n0 F' A' L') := by
  obtain ⟨h1, h2, h3, fs, hs, hl⟩ := hl
  have same : ∀ b, b < n → (K b = 34 ∨ K b = 35 ∨ K b = 33) → bdP σ a n0 F' A' L' b = σ b := fun b hbn hkb => by
    have e : ¬ b = a := fun e => by rw [e, hk] at hkb; omega
    by_cases e2 : n0 ≤ b ∧ b < n0 + 11
    · obtain ⟨j, rfl⟩ : ∃ j, b = n0 + j := ⟨b - n0, by omega⟩
      have hj : j < 11 := by omega
      rw [h3 j hj] at hkb
      rw [fBd_r h1 hj]
      have hh : σ (n0 + j) = bd_c A L j := (congrFun hσ (n0 + j)).trans (fBd_r h1 hj)
      rw [hh]
      have hc : j = 7 ∨ j = 8 ∨ j = 6 := by omega
      rcases hc with rfl | rfl | rfl
      · show (.inl (.int, 512, .inl (A' 7)) : jcell) = .inl (.int, 512, .inl (A 7))
        rw [hb.2.1]
      · show (.inl (.int, 512, .inl (A' 8)) : jcell) = .inl (.int, 512, .inl (A 8))
        rw [hb.2.2.1]
      · show (.inl (.int, 1024, .inl (A' 6)) : jcell) = .inl (.int, 1024, .inl (A 6))
        rw [hb.1]
    · exact fBd_n e e2
  refine ⟨fun b hbn hkb => ?_, fun b hbn hkb => ?_, fun b hbn hkb => ?_, fun b hbn hkb => ?_⟩
  · rw [same b hbn (Or.inl hkb)]
    exact hX.1 b hbn hkb
  · rw [same b hbn (Or.inr (Or.inl hkb))]
    exact hX.2.1 b hbn hkb
  · by_cases e : b = a
    · subst e
      exact ⟨n0, h1, h2, h3, bd_fl n0 F', fBd_a, rfl, rfl, rfl, rfl, rfl, rfl, rfl, rfl, rfl, rfl, rfl⟩
    · obtain ⟨m0, k1, k2, k3, gs, k4, k5⟩ := hX.2.2.1 b hbn hkb
      have e2 : ¬ (n0 ≤ b ∧ b < n0 + 11) := fun e2 => by
        obtain ⟨j, rfl⟩ : ∃ j, b = n0 + j := ⟨b - n0, by omega⟩
        rw [h3 j (by omega)] at hkb
        omega
      exact ⟨m0, k1, k2, k3, gs, by rw [fBd_n e e2]; exact k4, k5⟩
  · rw [same b hbn (Or.inr (Or.inr hkb))]
    exact hX.2.2.2 b hbn hkb
end
section
/-! a move keeps a position good -/
theorem fAnd {x y : Int32} (hx : 0 ≤ x.toInt) (hy : 0 ≤ y.toInt) : (x &&& y).toInt = ((x.toInt.toNat &&& y.toInt.toNat : Nat) : Int) := by
  obtain ⟨e1, e2⟩ := aNat hx
  obtain ⟨e3, e4⟩ := aNat hy
  have k1 : x.toBitVec.toNat = x.toInt.toNat := by omega
  have k2 : y.toBitVec.toNat = y.toInt.toNat := by omega
  have k3 : (x &&& y).toBitVec.toNat = x.toInt.toNat &&& y.toInt.toNat := by rw [Int32.toBitVec_and, BitVec.toNat_and, k1, k2]
  have k4 : x.toInt.toNat &&& y.toInt.toNat ≤ x.toInt.toNat := Nat.and_le_left
  exact aNat' k3 (by omega)
theorem fBits : ∀ (a b c : Fin 16), a.val &&& (b.val &&& c.val) ≤ 15 ∧ ((a.val &&& (b.val &&& c.val)) / 1 % 2 = 1 → a.val / 1 % 2 = 1 ∧ b.val / 1 % 2 = 1 ∧ c.val / 1 % 2 = 1) ∧ ((a.val &&& (b.val &&& c.val)) / 2 % 2 = 1 → a.val / 2 % 2 = 1 ∧ b.val / 2 % 2 = 1 ∧ c.val / 2 % 2 = 1) ∧ ((a.val &&& (b.val &&& c.val)) / 4 % 2 = 1 → a.val / 4 % 2 = 1 ∧ b.val / 4 % 2 = 1 ∧ c.val / 4 % 2 = 1) ∧ ((a.val &&& (b.val &&& c.val)) / 8 % 2 = 1 → a.val / 8 % 2 = 1 ∧ b.val / 8 % 2 = 1 ∧ c.val / 8 % 2 = 1) := by decide +kernel
theorem fKept0 : ∀ (x : Fin 64), (0 ≤ (tv_4.getD x.val 0).toInt ∧ (tv_4.getD x.val 0).toInt ≤ 15) ∧ ((tv_4.getD x.val 0).toInt.toNat / 1 % 2 = 1 → ¬ x.val = 4 ∧ ¬ x.val = 7) ∧ ((tv_4.getD x.val 0).toInt.toNat / 2 % 2 = 1 → ¬ x.val = 4 ∧ ¬ x.val = 0) ∧ ((tv_4.getD x.val 0).toInt.toNat / 4 % 2 = 1 → ¬ x.val = 60 ∧ ¬ x.val = 63) ∧ ((tv_4.getD x.val 0).toInt.toNat / 8 % 2 = 1 → ¬ x.val = 60 ∧ ¬ x.val = 56) := by decide +kernel
theorem fNk0 : ∀ (m : Fin 16), ((nI m.val &&& 7 = 6) ↔ m.val % 8 = 6) ∧ ((nI m.val &&& 7 = 1) ↔ m.val % 8 = 1) := by decide +kernel
theorem fNd0 : ∀ (f t : Fin 64), ((nI t.val - nI f.val = 2) ↔ t.val = f.val + 2) ∧ ((nI t.val - nI f.val = 16) ↔ t.val = f.val + 16) ∧ ((nI f.val + nI t.val) >>> (1 &&& 31)).toInt = ((f.val + t.val) / 2 : Nat) := by decide +kernel
theorem fNi {x : Int32} (h : 0 ≤ x.toInt) : x = nI x.toNatClampNeg := by
  apply Int32.toInt_inj.mp
  have h1 := Int32.toInt_lt x
  rw [fNc, nI_toInt (by omega)]
  omega
theorem fX1 {x : Int32} (h : 0 ≤ x.toInt ∧ x.toInt ≤ 1) : (x ^^^ 1).toInt = 1 - x.toInt := by
  have := aXor_i (x := x) (y := 1) (A := (0, 1)) (B := (1, 1)) h (by unfold aIn; decide) (by decide)
  rw [this]
  omega
theorem fMenN {men : Nat → Int32} {f t w q mm sd : Nat} (h1 : ¬ (nI mm &&& 7 = 6 ∧ nI t - nI f = 2)) (h2 : ¬ (nI mm &&& 7 = 6 ∧ nI f - nI t = 2)) (i : Nat) : bMen men f t w q mm sd i = if i = t then nI q else if i = w then 0 else if i = f then 0 else men i := by
  unfold bMen
  rw [if_neg h1, if_neg h2]
  rfl
theorem fMenS {men : Nat → Int32} {f t w q mm sd : Nat} (h1 : nI mm &&& 7 = 6 ∧ nI t - nI f = 2) (i : Nat) : bMen men f t w q mm sd i = if i = f + 1 then nI (sd * 8 + 4) else if i = f + 3 then 0 else if i = t then nI q else if i = w then 0 else if i = f then 0 else men i := by
  unfold bMen
  rw [if_pos h1]
  rfl
theorem fMenL {men : Nat → Int32} {f t w q mm sd : Nat} (h1 : ¬ (nI mm &&& 7 = 6 ∧ nI t - nI f = 2)) (h2 : nI mm &&& 7 = 6 ∧ nI f - nI t = 2) (i : Nat) : bMen men f t w q mm sd i = if i = f - 1 then nI (sd * 8 + 4) else if i = f - 4 then 0 else if i = t then nI q else if i = w then 0 else if i = f then 0 else men i := by
  unfold bMen
  rw [if_neg h1, if_pos h2]
  rfl
theorem fPp8 {F : Nat → Int32} (h : 0 ≤ (F 4).toInt ∧ (F 4).toInt ≤ 63) (h2 : 0 ≤ (F 2).toInt ∧ (F 2).toInt ≤ 1) : (bPP F).toInt = fPp F := by
  have k8 : (8 : Int32).toInt = 8 := by decide
  unfold bPP fPp
  by_cases e : (F 2).toInt = 0
  · have e2 : F 2 = 0 := Int32.toInt_inj.mp (by rw [e]; decide)
    rw [if_pos e2, if_pos e, Int32.toInt_sub, k8]
    exact Int.bmod_eq_of_le (by omega) (by omega)
  · have e2 : ¬ F 2 = 0 := fun q => e (by rw [q]; decide)
    rw [if_neg e2, if_neg e, Int32.toInt_add, k8]
    exact Int.bmod_eq_of_le (by omega) (by omega)
/-- what a move does to the men: the squares that change, and what comes there -/
theorem fMen_ok {men F : Nat → Int32} (hg : fGood men F) {f t b : Nat} (hm : fMv men F f t b) {sd mm w : Nat} (hs : sd = (F 2).toNatClampNeg) (hmm : mm = (men f).toNatClampNeg) (hw : w = (bWh men F f t).toNatClampNeg) : ∃ k : Nat, (1 ≤ k ∧ k ≤ 6) ∧ mm = 8 * sd + k ∧ sd < 2 ∧ w < 64 ∧ ¬ w = f ∧ (w = t ∨ (k = 1 ∧ (men w).toInt = 8 * (1 - (sd : Int)) + 1)) ∧ ∀ i, i < 64 → (bMen men f t w (bQ mm b) mm sd i = men i ∧ ¬ i = f ∧ ¬ i = t ∧ ¬ i = w) ∨ (i = t ∧ bMen men f t w (bQ mm b) mm sd i = nI (bQ mm b)) ∨ (¬ i = t ∧ (i = f ∨ i = w) ∧ bMen men f t w (bQ mm b) mm sd i = 0) ∨ (k = 6 ∧ (f : Int) = 4 + 56 * (sd : Int) ∧ (((t = f + 2) ∧ (i = f + 1 ∨ i = f + 3)) ∨ ((f = t + 2) ∧ (i = f - 1 ∨ i = f - 4))) ∧ (bMen men f t w (bQ mm b) mm sd i = 0 ∨ bMen men f t w (bQ mm b) mm sd i = nI (sd * 8 + 4))) := by
  obtain ⟨k, hk, how, hf, ht, hb, hft, hbk, hk1, hk2, hk3⟩ := hm
  obtain ⟨g1, g2, g3, g4, g5⟩ := hg
  have hse : sd = (F 2).toInt.toNat := hs
  have hme : mm = (men f).toInt.toNat := hmm
  have h0f := g5 f hf
  have hmk : mm = 8 * sd + k := by unfold fOw at how; omega
  have nk := fNk0 ⟨mm, by omega⟩
  dsimp only at nk
  have nd := fNd0 ⟨f, hf⟩ ⟨t, ht⟩
  have nd2 := fNd0 ⟨t, ht⟩ ⟨f, hf⟩
  dsimp only at nd nd2
  have emf : men f = nI mm := by rw [hmm]; exact fNi h0f.1
  have hww : w < 64 ∧ ¬ w = f ∧ (w = t ∨ (k = 1 ∧ (men w).toInt = 8 * (1 - (sd : Int)) + 1)) := by
    unfold bWh at hw
    by_cases c : men f &&& 7 = 1 ∧ nI t = F 4
    · rw [if_pos c] at hw
      have e4 : (F 4).toInt = t := by rw [← c.2, nI_toInt (by omega)]
      have hk1' : k = 1 := by
        rw [emf] at c
        have := nk.2.mp c.1
        omega
      rcases g1 with g1 | ⟨p1, p2, p3, p4, p5⟩
      · omega
      · have hp := fPp8 (F := F) (by omega) g3
        have hwz : w = (fPp F).toNat := by rw [hw, fNc, hp]
        have hr : 0 ≤ fPp F ∧ fPp F ≤ 63 := by
          unfold fPp
          by_cases z : (F 2).toInt = 0
          · rw [if_pos z]
            have := p4 z
            omega
          · rw [if_neg z]
            have := p5 (by omega)
            omega
        rw [← hwz] at p3
        refine ⟨by omega, fun e => ?_, Or.inr ⟨hk1', by omega⟩⟩
        rw [e] at p3
        unfold fOw at how
        omega
    · rw [if_neg c] at hw
      have : w = t := by rw [hw, nI_clamp (by omega)]
      exact ⟨by omega, by omega, Or.inl this⟩
  refine ⟨k, hk, hmk, by omega, hww.1, hww.2.1, hww.2.2, fun i hi => ?_⟩
  by_cases c1 : nI mm &&& 7 = 6 ∧ nI t - nI f = 2
  · have q1 := nk.1.mp c1.1
    have q2 := nd.1.mp c1.2
    have q3 := hk1 (by omega) q2
    have q4 : w = t := hww.2.2.elim id (fun z => by omega)
    rw [fMenS c1]
    by_cases e1 : i = f + 1
    · rw [if_pos e1]; exact Or.inr (Or.inr (Or.inr ⟨by omega, by omega, Or.inl ⟨q2, Or.inl e1⟩, Or.inr rfl⟩))
    · rw [if_neg e1]
      by_cases e2 : i = f + 3
      · rw [if_pos e2]; exact Or.inr (Or.inr (Or.inr ⟨by omega, by omega, Or.inl ⟨q2, Or.inr e2⟩, Or.inl rfl⟩))
      · rw [if_neg e2]
        by_cases e3 : i = t
        · rw [if_pos e3]; exact Or.inr (Or.inl ⟨e3, rfl⟩)
        · rw [if_neg e3]
          by_cases e4 : i = w
          · rw [if_pos e4]; exact Or.inr (Or.inr (Or.inl ⟨e3, Or.inr e4, rfl⟩))
          · rw [if_neg e4]
            by_cases e5 : i = f
            · rw [if_pos e5]; exact Or.inr (Or.inr (Or.inl ⟨e3, Or.inl e5, rfl⟩))
            · rw [if_neg e5]; exact Or.inl ⟨rfl, e5, e3, e4⟩
  · by_cases c2 : nI mm &&& 7 = 6 ∧ nI f - nI t = 2
    · have q1 := nk.1.mp c2.1
      have q2 := nd2.1.mp c2.2
      have q3 := hk2 (by omega) q2
      rw [fMenL c1 c2]
      by_cases e1 : i = f - 1
      · rw [if_pos e1]; exact Or.inr (Or.inr (Or.inr ⟨by omega, by omega, Or.inr ⟨q2, Or.inl e1⟩, Or.inr rfl⟩))
      · rw [if_neg e1]
        by_cases e2 : i = f - 4
        · rw [if_pos e2]; exact Or.inr (Or.inr (Or.inr ⟨by omega, by omega, Or.inr ⟨q2, Or.inr e2⟩, Or.inl rfl⟩))
        · rw [if_neg e2]
          by_cases e3 : i = t
          · rw [if_pos e3]; exact Or.inr (Or.inl ⟨e3, rfl⟩)
          · rw [if_neg e3]
            by_cases e4 : i = w
            · rw [if_pos e4]; exact Or.inr (Or.inr (Or.inl ⟨e3, Or.inr e4, rfl⟩))
            · rw [if_neg e4]
              by_cases e5 : i = f
              · rw [if_pos e5]; exact Or.inr (Or.inr (Or.inl ⟨e3, Or.inl e5, rfl⟩))
              · rw [if_neg e5]; exact Or.inl ⟨rfl, e5, e3, e4⟩
    · rw [fMenN c1 c2]
      by_cases e3 : i = t
      · rw [if_pos e3]; exact Or.inr (Or.inl ⟨e3, rfl⟩)
      · rw [if_neg e3]
        by_cases e4 : i = w
        · rw [if_pos e4]; exact Or.inr (Or.inr (Or.inl ⟨e3, Or.inr e4, rfl⟩))
        · rw [if_neg e4]
          by_cases e5 : i = f
          · rw [if_pos e5]; exact Or.inr (Or.inr (Or.inl ⟨e3, Or.inl e5, rfl⟩))
          · rw [if_neg e5]; exact Or.inl ⟨rfl, e5, e3, e4⟩
end
section
/-! a move keeps a position good: the position behind it -/
theorem fGood_pl0 {men F : Nat → Int32} (hg : fGood men F) {f t b : Nat} (hm : fMv men F f t b) {sd mm w kk : Nat} (hs : sd = (F 2).toNatClampNeg) (hmm : mm = (men f).toNatClampNeg) (hw : w = (bWh men F f t).toNatClampNeg) : fGood (bMen men f t w (bQ mm b) mm sd) (fFw (bF F (bMen men f t w (bQ mm b) mm sd) f t mm kk) (bMen men f t w (bQ mm b) mm sd)) := by
  obtain ⟨k, hk, hmk, hsd, hw64, hwf, hwt, hat⟩ := fMen_ok hg hm hs hmm hw
  obtain ⟨k', hk', how, hf, ht, hb, hft, hbk, hk1, hk2, hk3⟩ := hm
  obtain ⟨g1, g2, g3, g4, g5⟩ := hg
  have hse : sd = (F 2).toInt.toNat := hs
  have hme : mm = (men f).toInt.toNat := hmm
  have hkk : k' = k := by unfold fOw at how; omega
  subst hkk
  have nk := fNk0 ⟨mm, by omega⟩
  dsimp only at nk
  have nd := fNd0 ⟨f, hf⟩ ⟨t, ht⟩
  have nd2 := fNd0 ⟨t, ht⟩ ⟨f, hf⟩
  dsimp only at nd nd2
  have hbq : bQ mm b < 16 ∧ (b = 0 → bQ mm b = mm) ∧ (¬ b = 0 → bQ mm b = 8 * sd + b) := by
    unfold bQ
    split
    · exact ⟨by omega, fun _ => rfl, fun h => absurd ‹b = 0› h⟩
    · exact ⟨by omega, fun h => absurd h ‹¬ b = 0›, fun _ => by omega⟩
  have z0 : (0 : Int32).toInt = 0 := by decide
  have h0f := g5 f hf
  generalize bMen men f t w (bQ mm b) mm sd = M at hat ⊢
  generalize hF : fFw (bF F M f t mm kk) M = F'
  have e12 : ∀ s, s < 2 → F' (12 + s) = bSn fWa s M 64 := by
    intro s hs
    have c2 : s = 0 ∨ s = 1 := by omega
    rcases c2 with rfl | rfl
    · rw [← hF]; rfl
    · rw [← hF]; rfl
  have e2 : F' 2 = F 2 ^^^ 1 := by rw [← hF]; rfl
  have e3 : F' 3 = F 3 &&& (tv_4.getD f 0 &&& tv_4.getD t 0) := by rw [← hF]; rfl
  have e4 : F' 4 = if nI mm &&& 7 = 1 then bPB M F f t else -1 := by rw [← hF]; rfl
  have s2 : (F' 2).toInt = 1 - (F 2).toInt := by rw [e2]; exact fX1 g3
  have kf := fKept0 ⟨f, hf⟩
  have kt := fKept0 ⟨t, ht⟩
  dsimp only at kf kt
  generalize tv_4.getD f 0 = xf at e3 kf
  generalize tv_4.getD t 0 = xt at e3 kt
  have e3i : (F' 3).toInt = (((F 3).toInt.toNat &&& (xf.toInt.toNat &&& xt.toInt.toNat) : Nat) : Int) := by
    have h1 := fAnd kf.1.1 kt.1.1
    rw [e3, fAnd g4.1 (by rw [h1]; omega), h1]
    rfl
  have bits := fBits ⟨(F 3).toInt.toNat, by omega⟩ ⟨xf.toInt.toNat, by omega⟩ ⟨xt.toInt.toNat, by omega⟩
  dsimp only at bits
  generalize (F 3).toInt.toNat &&& (xf.toInt.toNat &&& xt.toInt.toNat) = R at e3i bits
  have r16 : R ≤ 15 := bits.1
  replace bits := fun (_ : Unit) => bits
  replace kf := fun (_ : Unit) => kf
  replace kt := fun (_ : Unit) => kt
  replace nk := fun (_ : Unit) => nk
  replace nd := fun (_ : Unit) => nd
  replace nd2 := fun (_ : Unit) => nd2
  replace hk1 := fun (_ : Unit) => hk1
  replace hk2 := fun (_ : Unit) => hk2
  replace hk3 := fun (_ : Unit) => hk3
  replace hbk := fun (_ : Unit) => hbk
  replace hwt := fun (_ : Unit) => hwt
  replace hbq := fun (_ : Unit) => hbq
  replace g1 := fun (_ : Unit) => g1
  have keep : ∀ (i s v : Nat), s < 2 → i < 64 → ¬ i = f → ¬ i = t → (v = 6 ∧ i = 56 * s + 4 ∨ v = 4 ∧ (i = 56 * s + 7 ∨ i = 56 * s) ∧ ¬ f = 56 * s + 4) → (men i).toInt = 8 * s + v → (M i).toInt = 8 * s + v := by
    intro i s v h1 h2 h3 h4 h5 h6
    rcases hat i h2 with h | h | h | h
    · rw [h.1]; exact h6
    · exact absurd h.1 h4
    · exfalso
      rcases h.2.1 with h7 | h7
      · exact h3 h7
      · rcases hwt () with h8 | h8
        · exact h4 (h7.trans h8)
        · rw [← h7] at h8
          omega
    · exfalso
      omega
  refine ⟨?_, ?_, by omega, by omega, ?_⟩
  · by_cases c : nI mm &&& 7 = 1
    · rw [if_pos c] at e4
      have k1 : k' = 1 := by have := (nk ()).2.mp c; omega
      unfold bPB at e4
      by_cases d : nI t - nI f = 16 ∨ nI f - nI t = 16
      · rw [if_pos d] at e4
        have dd : t = f + 16 ∨ f = t + 16 := d.elim (fun h => Or.inl ((nd ()).2.1.mp h)) (fun h => Or.inr ((nd2 ()).2.1.mp h))
        obtain ⟨b0, m0, r0, r1⟩ := hk3 () k1 dd
        by_cases a : (0 < nI t &&& 7 ∧ M (t - 1) = (1 - F 2) <<< (3 &&& 31) ||| 1) ∨ (nI t &&& 7 < 7 ∧ M (t + 1) = (1 - F 2) <<< (3 &&& 31) ||| 1)
        · rw [if_pos a] at e4
          have p4 : (F' 4).toInt = ((f + t) / 2 : Nat) := by rw [e4]; exact (nd ()).2.2
          right
          have hp : fPp F' = t := by
            unfold fPp
            by_cases z : (F 2).toInt = 0
            · have := r0 z
              rw [if_neg (by omega)]
              omega
            · have := r1 (by omega)
              rw [if_pos (by omega)]
              omega
          refine ⟨by omega, ?_, ?_, fun z => ?_, fun z => ?_⟩
          · rw [show (F' 4).toInt.toNat = (f + t) / 2 by omega]
            rcases hat ((f + t) / 2) (by omega) with h | h | h | h
            · rw [h.1]; exact m0
            · exfalso; omega
            · rw [h.2.2]; exact z0
            · exfalso; omega
          · rw [hp, show ((t : Int).toNat) = t by omega]
            rcases hat t ht with h | h | h | h
            · exfalso; omega
            · rw [h.2, nI_toInt (by have := (hbq ()).1; omega)]
              have := (hbq ()).2.1 b0
              omega
            · exfalso; omega
            · exfalso; omega
          · have := r1 (by omega)
            omega
          · have := r0 (by omega)
            omega
        · rw [if_neg a] at e4
          exact Or.inl (by rw [e4]; decide)
      · rw [if_neg d] at e4
        exact Or.inl (by rw [e4]; decide)
    · rw [if_neg c] at e4
      exact Or.inl (by rw [e4]; decide)
  · intro s hs2
    have g2s := g2 s hs2
    have c2 : s = 0 ∨ s = 1 := by omega
    rcases c2 with rfl | rfl
    · rw [show ((4 ^ 0 : Nat) : Int) = 1 by decide, show ((2 * 4 ^ 0 : Nat) : Int) = 2 by decide] at g2s ⊢
      refine ⟨fun h => ?_, fun h => ?_, e12 0 (by decide)⟩
      · obtain ⟨u1, u2, u3⟩ := (bits ()).2.1 (by omega)
        have v2 := (kf ()).2.1 u2
        have v3 := (kt ()).2.1 u3
        obtain ⟨w1, w2⟩ := g2s.1 (by omega)
        exact ⟨keep 4 0 6 (by decide) (by decide) (by omega) (by omega) (by omega) w1, keep 7 0 4 (by decide) (by decide) (by omega) (by omega) (by omega) w2⟩
      · obtain ⟨u1, u2, u3⟩ := (bits ()).2.2.1 (by omega)
        have v2 := (kf ()).2.2.1 u2
        have v3 := (kt ()).2.2.1 u3
        obtain ⟨w1, w2⟩ := g2s.2.1 (by omega)
        exact ⟨keep 4 0 6 (by decide) (by decide) (by omega) (by omega) (by omega) w1, keep 0 0 4 (by decide) (by decide) (by omega) (by omega) (by omega) w2⟩
    · rw [show ((4 ^ 1 : Nat) : Int) = 4 by decide, show ((2 * 4 ^ 1 : Nat) : Int) = 8 by decide] at g2s ⊢
      refine ⟨fun h => ?_, fun h => ?_, e12 1 (by decide)⟩
      · obtain ⟨u1, u2, u3⟩ := (bits ()).2.2.2.1 (by omega)
        have v2 := (kf ()).2.2.2.1 u2
        have v3 := (kt ()).2.2.2.1 u3
        obtain ⟨w1, w2⟩ := g2s.1 (by omega)
        exact ⟨keep 60 1 6 (by decide) (by decide) (by omega) (by omega) (by omega) w1, keep 63 1 4 (by decide) (by decide) (by omega) (by omega) (by omega) w2⟩
      · obtain ⟨u1, u2, u3⟩ := (bits ()).2.2.2.2 (by omega)
        have v2 := (kf ()).2.2.2.2 u2
        have v3 := (kt ()).2.2.2.2 u3
        obtain ⟨w1, w2⟩ := g2s.2.1 (by omega)
        exact ⟨keep 60 1 6 (by decide) (by decide) (by omega) (by omega) (by omega) w1, keep 56 1 4 (by decide) (by decide) (by omega) (by omega) (by omega) w2⟩
  · intro i hi
    rcases hat i hi with h | h | h | h
    · rw [h.1]; exact g5 i hi
    · rw [h.2, nI_toInt (by have := (hbq ()).1; omega)]
      by_cases c : b = 0
      · have := (hbq ()).2.1 c
        by_cases c1 : k' = 1
        · have := (hbk ()).2 c1 c
          omega
        · omega
      · have := (hbq ()).2.2 c
        have := (hbk ()).1 c
        omega
    · rw [h.2.2, z0]; omega
    · rcases h.2.2.2 with h | h
      · rw [h, z0]; omega
      · rw [h, nI_toInt (by omega)]; omega
theorem fGood_pl {men F : Nat → Int32} {m : Int32} (hg : fGood men F) (hm : fM men F m) : fGood (fPl (men, F) m).1 (fPl (men, F) m).2 := fGood_pl0 hg hm rfl rfl rfl
end
section
/-! make, in the form of the check -/
theorem fRel {K : Nat → Nat} {n : Nat} {σ : Nat → jcell} (hH : aH fa_T K n σ) (hX : fJX K n σ) {a : Nat} {men F : Nat → Int32} (h0 : fAt K n σ a men F) : ∃ (n0 : Nat) (F0 : Nat → Int32) (A : Nat → Nat → Int32) (L : Nat → Nat → Int64), fLay K n σ a n0 ∧ σ = bdP σ a n0 F0 A L ∧ F0 2 = F 2 ∧ F0 3 = F 3 ∧ F0 4 = F 4 ∧ F0 5 = F 5 ∧ (∀ i, i < 64 → A 0 i = men i) ∧ kOK (A 1) ∧ (A 3 0 = F 12 ∧ A 3 1 = F 13) ∧ (∀ j, 64 ≤ j → j < 960 → A 6 j = fWa j) := by
  obtain ⟨n0, hl⟩ := hX.2.2.1 a h0.1 h0.2.1
  obtain ⟨F0, A, L, hσ⟩ := fBd_in hH h0.1 h0.2.1 hl
  have hsa : σ a = .inr (10, bd_fl n0 F0) := (congrFun hσ a).trans fBd_a
  have hF := fAt_of h0 hsa
  obtain ⟨g, r1, r2⟩ := hF.1 n0 rfl
  have r3 : σ (n0 + 0) = bd_c A L 0 := (congrFun hσ (n0 + 0)).trans (fBd_r hl.1 (by decide))
  have r4 : (.inl (.int, 64, .inl g) : jcell) = .inl (.int, 64, .inl (A 0)) := r1.symm.trans r3
  cases r4
  obtain ⟨gw, u1, u2⟩ := fAt_w h0 hsa (r := n0 + 3) rfl
  have u3 : σ (n0 + 3) = bd_c A L 3 := (congrFun hσ (n0 + 3)).trans (fBd_r hl.1 (by decide))
  have u4 : (.inl (.int, 2, .inl gw) : jcell) = .inl (.int, 2, .inl (A 3)) := u1.symm.trans u3
  cases u4
  obtain ⟨g6, t1, t2⟩ := hX.2.2.2 (n0 + 6) (by have := hl.2.1; omega) (hl.2.2.1 6 (by decide))
  have t3 : σ (n0 + 6) = bd_c A L 6 := (congrFun hσ (n0 + 6)).trans (fBd_r hl.1 (by decide))
  have t4 : (.inl (.int, 1024, .inl g6) : jcell) = .inl (.int, 1024, .inl (A 6)) := t1.symm.trans t3
  cases t4
  refine ⟨n0, F0, A, L, hl, hσ, hF.2.1 _ rfl, hF.2.2.1 _ rfl, hF.2.2.2.1 _ rfl, hF.2.2.2.2 _ rfl, r2, fun i hi => ?_, u2, t2⟩
  have k1 : σ (n0 + 1) = bd_c A L 1 := (congrFun hσ (n0 + 1)).trans (fBd_r hl.1 (by decide))
  have k2 := hH (n0 + 1) (by have := hl.2.1; omega) _ (show fa_T[K (n0 + 1)]? = some _ by rw [hl.2.2.1 1 (by decide)]; rfl)
  rw [k1] at k2
  obtain ⟨-, -, -, k3⟩ := k2
  have k4 := (k3 i hi).1
  have k5 : 0 ≤ (A 1 i).toInt ∧ (A 1 i).toInt ≤ 63 := k4
  exact ⟨(A 1 i).toNatClampNeg, by rw [fNc]; omega, fNi k5.1⟩
/-- the worth of the men, by the table in the picture and by the one on paper -/
theorem fBw {W m1 men : Nat → Int32} {c : Nat} (hW : ∀ j, 64 ≤ j → j < 960 → W j = fWa j) (h : ∀ i, i < 64 → m1 i = men i) (hr : ∀ i, i < 64 → 0 ≤ (men i).toInt ∧ (men i).toInt ≤ 14) : ∀ k, k ≤ 64 → bSn W c m1 k = bSn fWa c men k
  | 0, _ => rfl
  | k + 1, hk => by
    show bSn W c m1 k + bW W c (m1 k) k = bSn fWa c men k + bW fWa c (men k) k
    rw [fBw hW h hr k (by omega), h k (by omega)]
    have r := hr k (by omega)
    unfold bW
    by_cases z : (men k).toNatClampNeg = 0
    · rw [if_pos z, if_pos z]
    · rw [if_neg z, if_neg z]
      have e : (men k).toNatClampNeg = (men k).toInt.toNat := rfl
      rw [hW _ (by omega) (by omega)]
theorem fMen_cg {m1 m2 : Nat → Int32} (h : ∀ i, i < 64 → m1 i = m2 i) {f t w q mm sd : Nat} : ∀ i, i < 64 → bMen m1 f t w q mm sd i = bMen m2 f t w q mm sd i := by
  intro i hi
  have e := h i hi
  unfold bMen
  split
  · simp only [upd, e]
  · split
    · simp only [upd, e]
    · simp only [upd, e]
theorem fPB_cg {m1 m2 F1 F2 : Nat → Int32} (h : ∀ i, i < 64 → m1 i = m2 i) (hF : F1 2 = F2 2) {f t : Nat} (ht : t < 64) : bPB m1 F1 f t = bPB m2 F2 f t := by
  unfold bPB
  rw [hF, h (t - 1) (by omega)]
  by_cases h7 : t + 1 < 64
  · rw [h (t + 1) h7]
  · obtain rfl : t = 63 := by omega
    have e : ¬ (nI 63 &&& 7 < 7) := by decide
    simp only [e, false_and, or_false]
theorem fWh_cg {m1 m2 F1 F2 : Nat → Int32} {f t : Nat} (h : m1 f = m2 f) (h2 : F1 2 = F2 2) (h4 : F1 4 = F2 4) : bWh m1 F1 f t = bWh m2 F2 f t := by
  unfold bWh bPP
  rw [h, h2, h4]
theorem fMvNi {m : Int32} (h : 0 ≤ m.toInt) : m >>> (9 &&& 31) = nI (fMf m) ∧ m >>> (3 &&& 31) &&& 63 = nI (fMt m) ∧ m &&& 7 = nI (fMb m) := by
  obtain ⟨c, e1, -⟩ := aShr_l m 9
  obtain ⟨d, e3, -⟩ := aShr_l m 3
  have h1 : 0 ≤ (m >>> (9 &&& 31)).toInt := by rw [e1]; exact Int.ediv_nonneg h (Int.pow_nonneg (by decide))
  have h3 : 0 ≤ (m >>> (3 &&& 31)).toInt := by rw [e3]; exact Int.ediv_nonneg h (Int.pow_nonneg (by decide))
  exact ⟨fNi h1, fNi (by rw [fAnd h3 (by decide)]; omega), fNi (by rw [fAnd h (by decide)]; omega)⟩
/-- what make needs, out of a good position and a move that fits it -/
theorem fMk_pre {men F m1 F1 : Nat → Int32} (hg : fGood men F) {m : Int32} (hm : fM men F m) (h0 : 0 ≤ m.toInt) (hA : ∀ i, i < 64 → m1 i = men i) (h2 : F1 2 = F 2) (h4 : F1 4 = F 4) : ∃ w mm k sd : Nat, sd = (F 2).toNatClampNeg ∧ mm = (men (fMf m)).toNatClampNeg ∧ w = (bWh men F (fMf m) (fMt m)).toNatClampNeg ∧ k = (men w).toNatClampNeg ∧ fMf m < 64 ∧ fMt m < 64 ∧ fMb m < 8 ∧ w < 64 ∧ mm < 16 ∧ k < 16 ∧ sd < 2 ∧ menOK m1 ∧ m1 (fMf m) = nI mm ∧ m1 w = nI k ∧ F1 2 = nI sd ∧ bWh m1 F1 (fMf m) (fMt m) = nI w ∧ (nI mm &&& 7 = 6 → nI (fMt m) - nI (fMf m) = 2 → fMf m + 3 < 64) ∧ (nI mm &&& 7 = 6 → nI (fMf m) - nI (fMt m) = 2 → 4 ≤ fMf m) := by
  obtain ⟨k, hk, hmk, hsd, hw64, hwf, hwt, -⟩ := fMen_ok hg hm rfl rfl rfl
  obtain ⟨k', hk', how, hf, ht, hb, hft, hbk, hk1, hk2, hk3⟩ := hm
  obtain ⟨g1, g2, g3, g4, g5⟩ := hg
  have q1 := g5 _ hf
  have q2 := g5 _ hw64
  have emm : (men (fMf m)).toNatClampNeg = (men (fMf m)).toInt.toNat := rfl
  have ekk : (men (bWh men F (fMf m) (fMt m)).toNatClampNeg).toNatClampNeg = (men (bWh men F (fMf m) (fMt m)).toNatClampNeg).toInt.toNat := rfl
  have esd : (F 2).toNatClampNeg = (F 2).toInt.toNat := rfl
  have hkk : k' = k := by unfold fOw at how; omega
  subst hkk
  have nk := fNk0 ⟨(men (fMf m)).toNatClampNeg, by omega⟩
  have nd := fNd0 ⟨fMf m, hf⟩ ⟨fMt m, ht⟩
  have nd2 := fNd0 ⟨fMt m, ht⟩ ⟨fMf m, hf⟩
  dsimp only at nk nd nd2
  have hwn : 0 ≤ (bWh men F (fMf m) (fMt m)).toInt := by
    unfold bWh
    split
    next c =>
      have e4 : (F 4).toInt = fMt m := by rw [← c.2, nI_toInt (by omega)]
      rcases g1 with g1 | ⟨p1, p2, p3, p4, p5⟩
      · omega
      · rw [fPp8 (by omega) g3]
        unfold fPp
        split
        next z => have := p4 z; omega
        next z => omega
    next => rw [nI_toInt (by omega)]; omega
  refine ⟨_, _, _, _, rfl, rfl, rfl, rfl, hf, ht, hb, hw64, by omega, by omega, hsd, fun i hi => ?_, ?_, ?_, ?_, ?_, fun c1 c2 => ?_, fun c1 c2 => ?_⟩
  · have := g5 i hi
    exact ⟨(men i).toNatClampNeg, by rw [fNc]; omega, by rw [hA i hi]; exact fNi this.1⟩
  · rw [hA _ hf]; exact fNi q1.1
  · rw [hA _ hw64]; exact fNi q2.1
  · rw [h2]; exact fNi g3.1
  · rw [fWh_cg (hA _ hf) h2 h4]; exact fNi hwn
  · have a1 := nk.1.mp c1
    have a2 := nd.1.mp c2
    have a3 := (hk1 (by omega) a2).1
    omega
  · have a1 := nk.1.mp c1
    have a2 := nd2.1.mp c2
    have a3 := (hk2 (by omega) a2).1
    omega
/-- what unmake needs beyond make -/
theorem fUk_pre {men F m1 : Nat → Int32} (hg : fGood men F) {m : Int32} (hm : fM men F m) (hA : ∀ i, i < 64 → m1 i = men i) {w mm k sd : Nat} (es : sd = (F 2).toNatClampNeg) (em : mm = (men (fMf m)).toNatClampNeg) (ew : w = (bWh men F (fMf m) (fMt m)).toNatClampNeg) (ek : k = (men w).toNatClampNeg) : ¬ fMf m = fMt m ∧ ¬ w = fMf m ∧ (w = fMt m ∨ m1 (fMt m) = 0) ∧ (¬ nI (fMb m) = 0 → mm = sd * 8 + 1) ∧ (nI mm &&& 7 = 6 → nI (fMt m) - nI (fMf m) = 2 → fMt m = fMf m + 2 ∧ fMf m + 3 < 64 ∧ w = fMt m ∧ k = 0 ∧ m1 (fMf m + 3) = nI (sd * 8 + 4) ∧ m1 (fMf m + 1) = 0) ∧ (nI mm &&& 7 = 6 → nI (fMf m) - nI (fMt m) = 2 → fMf m = fMt m + 2 ∧ 4 ≤ fMf m ∧ w = fMt m ∧ k = 0 ∧ m1 (fMf m - 4) = nI (sd * 8 + 4) ∧ m1 (fMf m - 1) = 0) := by
  obtain ⟨kd, hk, hmk, hsd, hw64, hwf, hwt, -⟩ := fMen_ok hg hm es em ew
  obtain ⟨k', hk', how, hf, ht, hb, hft, hbk, hk1, hk2, hk3⟩ := hm
  obtain ⟨g1, g2, g3, g4, g5⟩ := hg
  have q1 := g5 _ hf
  have ese : sd = (F 2).toInt.toNat := es
  have eme : mm = (men (fMf m)).toInt.toNat := em
  have eke : k = (men w).toInt.toNat := ek
  have hkk : k' = kd := by unfold fOw at how; omega
  subst hkk
  have nk := fNk0 ⟨mm, by omega⟩
  have nd := fNd0 ⟨fMf m, hf⟩ ⟨fMt m, ht⟩
  have nd2 := fNd0 ⟨fMt m, ht⟩ ⟨fMf m, hf⟩
  dsimp only at nk nd nd2
  have z : ∀ i, i < 64 → (men i).toInt = 0 → m1 i = 0 := fun i hi h => by
    rw [hA i hi]
    exact Int32.toInt_inj.mp (by rw [h]; decide)
  have ro : ∀ i, i < 64 → (men i).toInt = 8 * (F 2).toInt + 4 → m1 i = nI (sd * 8 + 4) := fun i hi h => by
    rw [hA i hi]
    apply Int32.toInt_inj.mp
    rw [nI_toInt (by omega), h]
    omega
  have wt : k' = 6 → w = fMt m := fun h => hwt.elim id (fun y => by omega)
  refine ⟨hft, hwf, ?_, fun h => ?_, fun c1 c2 => ?_, fun c1 c2 => ?_⟩
  · unfold bWh at ew
    by_cases c : men (fMf m) &&& 7 = 1 ∧ nI (fMt m) = F 4
    · right
      have e4 : (F 4).toInt = fMt m := by rw [← c.2, nI_toInt (by omega)]
      rcases g1 with g1 | ⟨p1, p2, -⟩
      · omega
      · apply z _ ht
        rw [e4] at p2
        exact p2
    · left
      rw [if_neg c] at ew
      rw [ew, nI_clamp (by omega)]
  · have b0 : ¬ fMb m = 0 := fun e => h (by rw [e]; decide)
    have := hbk.1 b0
    omega
  · have a1 := nk.1.mp c1
    have a2 := nd.1.mp c2
    obtain ⟨b1, b2, b3, b4⟩ := hk1 (by omega) a2
    have b5 := wt (by omega)
    have b6 : k = 0 := by
      rw [b5, a2] at eke
      rw [b3] at eke
      exact eke
    exact ⟨a2, by omega, b5, b6, ro _ (by omega) b4, z _ (by omega) b2⟩
  · have a1 := nk.1.mp c1
    have a2 := nd2.1.mp c2
    obtain ⟨b1, b2, b3, b4⟩ := hk2 (by omega) a2
    have b5 := wt (by omega)
    have b6 : k = 0 := by
      rw [b5, show fMt m = fMf m - 2 by omega] at eke
      rw [b3] at eke
      exact eke
    exact ⟨a2, by omega, b5, b6, ro _ (by omega) b4, z _ (by omega) b2⟩
end
section
/-! make keeps its contract -/
theorem fR_inj {a b : Nat} (h : some (fR a) = some (fR b)) : a = b := Sum.inl.inj (Option.some.inj (Sum.inr.inj (Sum.inr.inj (Option.some.inj h))))
theorem ae_BOmake {l : Launch} {E : jE} {K : Nat → Nat} {n : Nat} : aMe (fF K n) l E jcl jtb lw_tbl fa_T K n (fJX K n) ag_BOmake := by
  intro p σ ρ hH hX hA hM
  have hG := aAG_of hA.1 (fun i e v he hv => (hA.2 i e v he hv).1)
  clear hA
  obtain ⟨v0, v1, v2, rfl, g0, g1, g2⟩ := fA_3 hG
  clear hG
  obtain ⟨a, rfl, ha, hka⟩ := fG_ref (by decide) g0
  obtain ⟨m, rfl, bm, dm⟩ := aG_int g1
  obtain ⟨c, rfl, bc, dc⟩ := aG_int g2
  dsimp only at bm dm bc dc
  obtain ⟨m1, -, -, m4⟩ := hM
  obtain ⟨a', c', fs, w', e1, s0, t0, e4⟩ := m1 (0, 5, 2) (List.mem_of_getElem? (i := 0) rfl)
  obtain rfl : a = a' := fR_inj e1
  obtain rfl : fI c = w' := Option.some.inj (show some (fI c) = some _ from e4)
  have f0 : fB K n p 1 [fR a] σ := by
    obtain ⟨w, e6, e7⟩ := m4 (17, [0]) (List.mem_of_getElem? (i := 0) rfl)
    obtain rfl : [fR a] = w := Option.some.inj (show some [fR a] = some w from e6)
    exact (fF_b (r := 17) (by decide) rfl).mp e7
  have f1 : fB K n p 3 [fI m] σ := by
    obtain ⟨w, e6, e7⟩ := m4 (49, [1]) (List.mem_of_getElem? (i := 1) rfl)
    obtain rfl : [fI m] = w := Option.some.inj (show some [fI m] = some w from e6)
    exact (fF_b (r := 49) (by decide) rfl).mp e7
  clear m1 m4
  obtain ⟨a9, e, h0, hg, q, rfl⟩ := f0
  cases e
  obtain ⟨m9, e, hm⟩ := f1
  cases e
  obtain ⟨men, F⟩ := q
  replace hg : fGood men F := hg
  replace hm : fM men F m := hm
  replace h0 : fAt K n σ a men F := h0
  have hcl : c = F 5 := (fAt_of h0 s0).2.2.2.2 c t0
  obtain ⟨n0, F0, A, L, hl, hσ, r2, r3, r4, r5, rm, rk, r12, r6⟩ := fRel hH hX h0
  obtain ⟨w, mm, k, sd, es, em, ew, ek, hf, ht, hb, hw, hmm, hk, hsd, hOK, hman, htk, hs2, hwh, hc1, hc2⟩ := fMk_pre hg hm bm rm r2 r4
  obtain ⟨i1, i2, i3⟩ := fMvNi bm
  obtain ⟨o1, o2, o3, o4, o5, o6⟩ := fUk_pre hg hm rm es em ew ek
  have hj := c_BO_make l E σ n a n0 hl.1 hl.2.1 F0 A L m (fMf m) (fMt m) (fMb m) w mm k sd hf ht hb hw hmm hk hsd i1 i2 i3 hOK hman htk hs2 hwh hc1 hc2 (by obtain ⟨kd, x1, x2, -⟩ := fMen_ok hg hm es em ew; omega) o2 o3 o5 o6
  rw [← hσ] at hj
  refine jMet_post hj (fun r σ' n' hp => ?_)
  obtain ⟨F', A', L', rfl, rfl, rfl, hbk, hA', hK', hW', hF'⟩ := hp
  clear hj
  have hp' : fPl (men, F) m = (bMen men (fMf m) (fMt m) w (bQ mm (fMb m)) mm sd, fFw (bF F (bMen men (fMf m) (fMt m) w (bQ mm (fMb m)) mm sd) (fMf m) (fMt m) mm k) (bMen men (fMf m) (fMt m) w (bQ mm (fMb m)) mm sd)) := by
    rw [ek, es, em, ew]
    rfl
  have hgd := fGood_pl hg hm
  have cm : ∀ i, i < 64 → A' 0 i = (fPl (men, F) m).1 i := by
    rw [hA', hp']
    exact fMen_cg rm
  have cF2 : F' 2 = (fPl (men, F) m).2 2 := by
    rw [hF', hp']
    show F0 2 ^^^ 1 = F 2 ^^^ 1
    rw [r2]
  have cF3 : F' 3 = (fPl (men, F) m).2 3 := by
    rw [hF', hp']
    show F0 3 &&& _ = F 3 &&& _
    rw [r3]
  have cF4 : F' 4 = (fPl (men, F) m).2 4 := by
    rw [hp'] at cm
    rw [hF', hp']
    show (if nI mm &&& 7 = 1 then bPB (A' 0) F0 (fMf m) (fMt m) else -1) = (if nI mm &&& 7 = 1 then bPB _ F (fMf m) (fMt m) else -1)
    rw [fPB_cg cm r2 ht]
  have cF5 : F' 5 = (fPl (men, F) m).2 5 := by
    rw [hF', hp']
    show (if nI mm &&& 7 = 1 ∨ ¬ nI k = 0 then 0 else F0 5 + 1) = (if nI mm &&& 7 = 1 ∨ ¬ nI k = 0 then 0 else F 5 + 1)
    rw [r5]
  have h5 : 0 ≤ (F' 5).toInt ∧ (F' 5).toInt ≤ c.toInt + 1 := by
    rw [cF5, hp']
    show 0 ≤ (if nI mm &&& 7 = 1 ∨ ¬ nI k = 0 then 0 else F 5 + 1).toInt ∧ (if nI mm &&& 7 = 1 ∨ ¬ nI k = 0 then 0 else F 5 + 1).toInt ≤ c.toInt + 1
    split
    · rw [show (0 : Int32).toInt = 0 by decide]; omega
    · have e : (F 5 + 1).toInt = (F 5).toInt + 1 := by
        rw [Int32.toInt_add, show (1 : Int32).toInt = 1 by decide]
        exact Int.bmod_eq_of_le (by rw [← hcl]; omega) (by rw [← hcl]; omega)
      rw [e, ← hcl]
      omega
  have hws : bWs A := fun c hc => by
    have h1 : A 3 c = F (12 + c) := by
      have c2 : c = 0 ∨ c = 1 := by omega
      rcases c2 with rfl | rfl
      · exact r12.1
      · exact r12.2
    rw [h1, (hg.2.1 c hc).2.2]
    exact (fBw r6 rm (fun i hi => ⟨(hg.2.2.2.2 i hi).1, (hg.2.2.2.2 i hi).2.1⟩) 64 (Nat.le_refl _)).symm
  have cw : ∀ c, c < 2 → A' 3 c = (fPl (men, F) m).2 (12 + c) := fun c hc => by
    rw [hW' hws c hc, hbk.1, (hgd.2.1 c hc).2.2]
    exact fBw r6 cm (fun i hi => ⟨(hgd.2.2.2.2 i hi).1, (hgd.2.2.2.2 i hi).2.1⟩) 64 (Nat.le_refl _)
  have q16 : F' 16 = F0 16 := by rw [hF']; rfl
  clear hF' hA'
  have q4 : aIn (-1, 63) (F' 4) := by
    rw [cF4]
    rcases hgd.1 with z | ⟨z1, z2, z3, z4, z5⟩
    · exact ⟨by dsimp only; omega, by dsimp only; omega⟩
    · have y := hgd.2.2.1
      by_cases x : ((fPl (men, F) m).2 2).toInt = 0
      · have := z4 x
        exact ⟨by dsimp only; omega, by dsimp only; omega⟩
      · have := z5 (by omega)
        exact ⟨by dsimp only; omega, by dsimp only; omega⟩
  have hmk : menOK (A' 0) := fun i hi => by
    have y := hgd.2.2.2.2 i hi
    rw [← cm i hi] at y
    exact ⟨(A' 0 i).toNatClampNeg, by rw [fNc]; omega, fNi y.1⟩
  refine ⟨rfl, fBd_out hH ha hka hl hσ hmk (hK' rk) hbk (by rw [cF2]; exact hgd.2.2.1) (by rw [cF3]; exact hgd.2.2.2.1) q4 ⟨h5.1, by dsimp only; omega⟩ q16, fBd_jx hH ha hka hl hσ hbk hX, fBd_fr hH ha hka hl hσ q16, fBd_fa hH ha hka hl hσ hbk _, rfl, [fI (F' 5)], ?_, ?_, [], List.mem_cons_self, fun f h => (by cases h)⟩
  · refine ⟨rfl, fun i e v he hv => ?_⟩
    match i, he, hv with
    | 0, he, hv => obtain rfl := Option.some.inj he; obtain rfl := Option.some.inj hv; exact ⟨⟨ha, Or.inl hka⟩, trivial⟩
    | 1, he, hv => obtain rfl := Option.some.inj he; obtain rfl := Option.some.inj hv; exact ⟨⟨bm, dm⟩, trivial⟩
    | 2, he, hv => obtain rfl := Option.some.inj he; obtain rfl := Option.some.inj hv; exact ⟨⟨bc, dc⟩, trivial⟩
    | 3, he, hv => obtain rfl := Option.some.inj he; obtain rfl := Option.some.inj hv; exact ⟨trivial, trivial⟩
    | 4, he, hv => obtain rfl := Option.some.inj he; obtain rfl := Option.some.inj hv; exact ⟨⟨h5.1, by dsimp only; omega⟩, trivial⟩
    | k + 5, he, hv => simp [aPe, ag_BOmake] at he
  · refine ⟨aAllc ⟨a, 10, bd_fl n0 F', fI (F' 5), rfl, fBd_a, rfl, rfl⟩ (fun q h => by cases h), fun q h => (by cases h), aAllc ⟨_, rfl, (show 0 ≤ (1 * c.toInt + (-1 * (F' 5).toInt + 0)) + 1 by omega)⟩ (fun f h => by cases h), aAllc ⟨_, rfl, ?_⟩ (aAllc ⟨_, rfl, (fF_b (r := 66) (by decide) rfl).mpr ?_⟩ (fun f h => by cases h))⟩
    · unfold fF
      rw [if_pos (by decide)]
      show fB K _ (.inl (fPl (men, F) m)) 1 [fR a] _
      exact ⟨a, rfl, ⟨ha, hka, bd_fl n0 F', n0, A' 0, fBd_a, rfl, by have := hl.2.1; omega, hl.2.2.1 0 (by decide), fBd_r (j := 0) hl.1 (by decide), cm, (show some (fI (F' 2)) = some (fI ((fPl (men, F) m).2 2)) from by rw [cF2]), (show some (fI (F' 3)) = some (fI ((fPl (men, F) m).2 3)) from by rw [cF3]), (show some (fI (F' 4)) = some (fI ((fPl (men, F) m).2 4)) from by rw [cF4]), (show some (fI (F' 5)) = some (fI ((fPl (men, F) m).2 5)) from by rw [cF5]), n0 + 3, A' 3, rfl, by have := hl.2.1; omega, hl.2.2.1 3 (by decide), fBd_r (j := 3) hl.1 (by decide), cw 0 (by decide), cw 1 (by decide)⟩, hgd, _, rfl⟩
    · refine ⟨m, _, rfl, ?_, (show 0 ≤ (F 5).toInt from by rw [← hcl]; exact bc), hg, _, rfl⟩
      show bUd F0 k = bUd F (men (bWh men F (fMf m) (fMt m)).toNatClampNeg).toNatClampNeg
      rw [← ew, ← ek]
      unfold bUd
      rw [r3, r4, r5]
end
section
/-! unmake keeps its contract -/
theorem ud_16b (l : Nat) (hl : l < 65536) (c : BitVec 32) : ((BitVec.ofNat 64 l ||| (c.signExtend 64) <<< 16).sshiftRight 16).signExtend 32 = c := by
  apply BitVec.eq_of_getLsbD_eq
  intro i hi
  have h1 : i < 64 := by omega
  have h2 : 16 + i < 64 := by omega
  have h4 : ¬ 64 ≤ i := by omega
  have ht : l.testBit (16 + i) = false := Nat.testBit_lt_two_pow (Nat.lt_of_lt_of_le hl (by rw [show (65536 : Nat) = 2 ^ 16 by decide]; exact Nat.pow_le_pow_right (by decide) (by omega)))
  rw [BitVec.getLsbD_signExtend, BitVec.getLsbD_sshiftRight, BitVec.getLsbD_or, BitVec.getLsbD_ofNat, BitVec.getLsbD_shiftLeft, BitVec.getLsbD_signExtend]
  simp [hi, h1, h2, h4, ht]
theorem ud_16 (l : Nat) (hl : l < 65536) (c : Int32) : (ud64 l c >>> (Int32.toInt64 16 &&& 63)).toInt32 = c := by
  apply Int32.toBitVec_inj.mp
  have h := ud_16b l hl c.toBitVec
  simpa [ud64, lN] using h
theorem bUd_0 : ∀ (k r : Fin 16) (q : Fin 65), ((nI k.val ||| nI r.val <<< (4 &&& 31)) ||| nI q.val <<< (8 &&& 31)).toInt64 = lN (k.val + 16 * r.val + 256 * q.val) := by decide +kernel
theorem bUd_64 {F : Nat → Int32} {k : Nat} (hk : k < 16) (h3 : 0 ≤ (F 3).toInt ∧ (F 3).toInt ≤ 15) (h4 : -1 ≤ (F 4).toInt ∧ (F 4).toInt ≤ 63) : bUd F k = ud64 (k + 16 * (F 3).toInt.toNat + 256 * ((F 4).toInt + 1).toNat) (F 5) := by
  have e := bUd_0 ⟨k, hk⟩ ⟨(F 3).toInt.toNat, by omega⟩ ⟨((F 4).toInt + 1).toNat, by omega⟩
  dsimp only at e
  have e3 : nI (F 3).toInt.toNat = F 3 := (fNi h3.1).symm
  have e4 : nI ((F 4).toInt + 1).toNat = F 4 + 1 := by
    apply Int32.toInt_inj.mp
    rw [nI_toInt (by omega), Int32.toInt_add, show (1 : Int32).toInt = 1 by decide, Int.bmod_eq_of_le (by omega) (by omega)]
    omega
  rw [e3, e4] at e
  unfold bUd ud64
  rw [e]
theorem fMen_hi {men : Nat → Int32} {f t w q mm sd i : Nat} (hi : 64 ≤ i) (hf : f < 64) (ht : t < 64) (hw : w < 64) (hc : nI mm &&& 7 = 6 → nI t - nI f = 2 → f + 3 < 64) : bMen men f t w q mm sd i = men i := by
  by_cases c1 : nI mm &&& 7 = 6 ∧ nI t - nI f = 2
  · have := hc c1.1 c1.2
    rw [fMenS c1, if_neg (by omega), if_neg (by omega), if_neg (by omega), if_neg (by omega), if_neg (by omega)]
  · by_cases c2 : nI mm &&& 7 = 6 ∧ nI f - nI t = 2
    · rw [fMenL c1 c2, if_neg (by omega), if_neg (by omega), if_neg (by omega), if_neg (by omega), if_neg (by omega)]
    · rw [fMenN c1 c2, if_neg (by omega), if_neg (by omega), if_neg (by omega)]
theorem fX11 : ∀ sd, sd < 2 → (nI sd ^^^ 1) ^^^ 1 = nI sd := by decide
theorem ae_BOunmake {l : Launch} {E : jE} {K : Nat → Nat} {n : Nat} : aMe (fF K n) l E jcl jtb lw_tbl fa_T K n (fJX K n) ag_BOunmake := by
  intro p σ ρ hH hX hA hM
  have hG := aAG_of hA.1 (fun i e v he hv => (hA.2 i e v he hv).1)
  clear hA
  obtain ⟨v0, v1, v2, rfl, g0, g1, g2⟩ := fA_3 hG
  clear hG
  obtain ⟨a, rfl, ha, hka⟩ := fG_ref (by decide) g0
  obtain ⟨m, rfl, bm, dm⟩ := aG_int g1
  obtain ⟨u, rfl⟩ := aG_lng g2
  dsimp only at bm dm
  obtain ⟨-, -, -, m4⟩ := hM
  have f0 : fB K n (fSh p [fI m]) 1 [fR a] σ := by
    obtain ⟨w, e6, e7⟩ := m4 (17, [0, 1]) (List.mem_of_getElem? (i := 0) rfl)
    obtain rfl : [fR a, fI m] = w := Option.some.inj (show some [fR a, fI m] = some w from e6)
    unfold fF at e7
    rw [if_pos (by decide)] at e7
    exact e7
  have f1 : fB K n p 3 [fI m] σ := by
    obtain ⟨w, e6, e7⟩ := m4 (49, [1]) (List.mem_of_getElem? (i := 1) rfl)
    obtain rfl : [fI m] = w := Option.some.inj (show some [fI m] = some w from e6)
    exact (fF_b (r := 49) (by decide) rfl).mp e7
  have f2 : fB K n p 4 [fI m, .inr (.inl u)] σ := by
    obtain ⟨w, e6, e7⟩ := m4 (66, [1, 2]) (List.mem_of_getElem? (i := 2) rfl)
    obtain rfl : [fI m, .inr (.inl u)] = w := Option.some.inj (show some [fI m, .inr (.inl u)] = some w from e6)
    exact (fF_b (r := 66) (by decide) rfl).mp e7
  clear m4
  obtain ⟨m9, u9, e, hu, h5, hg, q, rfl⟩ := f2
  cases e
  obtain ⟨m9, e, hm⟩ := f1
  cases e
  obtain ⟨a9, e, h0, -⟩ := f0
  cases e
  obtain ⟨men, F⟩ := q
  replace h5 : 0 ≤ (F 5).toInt := h5
  replace hg : fGood men F := hg
  replace hm : fM men F m := hm
  replace h0 : fAt K n σ a (fPl (men, F) m).1 (fPl (men, F) m).2 := h0
  replace hu : u = bUd F (men (bWh men F (fMf m) (fMt m)).toNatClampNeg).toNatClampNeg := hu
  obtain ⟨n0, Fc, A, L, hl, hσ, r2, r3, r4, r5, rm, rk, r12, r6⟩ := fRel hH hX h0
  obtain ⟨w, mm, k, sd, es, em, ew, ek, hf, ht, hb, hw, hmm, hk, hsd, hOK, hman, htk, hs2, hwh, hc1, hc2⟩ := fMk_pre (m1 := fun i => if i < 64 then men i else A 0 i) (F1 := F) hg hm bm (fun i hi => if_pos hi) rfl rfl
  obtain ⟨i1, i2, i3⟩ := fMvNi bm
  obtain ⟨o1, o2, o3, o4, o5, o6⟩ := fUk_pre (m1 := fun i => if i < 64 then men i else A 0 i) hg hm (fun i hi => if_pos hi) es em ew ek
  have hp' : fPl (men, F) m = (bMen men (fMf m) (fMt m) w (bQ mm (fMb m)) mm sd, fFw (bF F (bMen men (fMf m) (fMt m) w (bQ mm (fMb m)) mm sd) (fMf m) (fMt m) mm k) (bMen men (fMf m) (fMt m) w (bQ mm (fMb m)) mm sd)) := by
    rw [ek, es, em, ew]
    rfl
  have hAA : A 0 = bMen (fun i => if i < 64 then men i else A 0 i) (fMf m) (fMt m) w (bQ mm (fMb m)) mm sd := by
    funext i
    by_cases hi : i < 64
    · rw [rm i hi, hp']
      exact (fMen_cg (fun j hj => if_pos hj) i hi).symm
    · rw [fMen_hi (by omega) hf ht hw hc1, if_neg hi]
  have hu2 : u = bUd F k := by rw [hu, ← ew, ← ek]
  have g3 := hg.2.2.2.1
  have g4 : -1 ≤ (F 4).toInt ∧ (F 4).toInt ≤ 63 := by
    rcases hg.1 with z | ⟨z1, z2, z3, z4, z5⟩
    · omega
    · have y := hg.2.2.1
      by_cases x : (F 2).toInt = 0
      · have := z4 x
        omega
      · have := z5 (by omega)
        omega
  have hu3 := bUd_64 (F := F) hk g3 g4
  rw [← hu2] at hu3
  have p2 : Fc 2 ^^^ 1 = nI sd := by
    rw [r2, hp']
    show (F 2 ^^^ 1) ^^^ 1 = nI sd
    rw [hs2]
    exact fX11 sd hsd
  have pk : u.toInt32 &&& 15 = nI k := by
    rw [hu3, ud_0]
    congr 1
    omega
  have pr : (u >>> (Int32.toInt64 4 &&& 63)).toInt32 &&& 15 = F 3 := by
    rw [hu3, ud_4, show (k + 16 * (F 3).toInt.toNat + 256 * ((F 4).toInt + 1).toNat) / 16 % 16 = (F 3).toNatClampNeg by rw [fNc]; omega]
    exact (fNi g3.1).symm
  have pp : ((u >>> (Int32.toInt64 8 &&& 63)).toInt32 &&& 127) - 1 = F 4 := by
    rw [hu3, ud_8]
    apply Int32.toInt_inj.mp
    rw [Int32.toInt_sub, nI_toInt (by omega), show (1 : Int32).toInt = 1 by decide, Int.bmod_eq_of_le (by omega) (by omega)]
    omega
  have pc : (u >>> (Int32.toInt64 16 &&& 63)).toInt32 = F 5 := by
    rw [hu3]
    exact ud_16 _ (by omega) _
  have hj := c_BO_unmake l E σ n a n0 hl.1 hl.2.1 Fc A L m u (fMf m) (fMt m) (fMb m) w mm k sd (fun i => if i < 64 then men i else A 0 i) F hf ht hb hw hmm hk hsd i1 i2 i3 hOK hAA p2 pk pr pp hs2 hman htk hwh o1 o2 o3 o4 o5 o6 (by obtain ⟨kd, x1, x2, -⟩ := fMen_ok hg hm es em ew; omega)
  rw [← hσ] at hj
  refine jMet_post hj (fun r σ' n' hp => ?_)
  obtain ⟨F', A', L', rfl, rfl, rfl, hbk, hA', hK', hW', q2, q3, q4, q5, q16⟩ := hp
  clear hj
  rw [pc] at q5
  have cm : ∀ i, i < 64 → A' 0 i = men i := fun i hi => by rw [hA']; exact if_pos hi
  have hmk : menOK (A' 0) := by rw [hA']; exact hOK
  have hgp := fGood_pl hg hm
  have hws : bWs A := fun c hc => by
    have h1 : A 3 c = (fPl (men, F) m).2 (12 + c) := by
      have c2 : c = 0 ∨ c = 1 := by omega
      rcases c2 with rfl | rfl
      · exact r12.1
      · exact r12.2
    rw [h1, (hgp.2.1 c hc).2.2]
    exact (fBw r6 rm (fun i hi => ⟨(hgp.2.2.2.2 i hi).1, (hgp.2.2.2.2 i hi).2.1⟩) 64 (Nat.le_refl _)).symm
  have cw : ∀ c, c < 2 → A' 3 c = F (12 + c) := fun c hc => by
    rw [hW' hws c hc, hbk.1, (hg.2.1 c hc).2.2]
    exact fBw r6 cm (fun i hi => ⟨(hg.2.2.2.2 i hi).1, (hg.2.2.2.2 i hi).2.1⟩) 64 (Nat.le_refl _)
  refine ⟨rfl, fBd_out hH ha hka hl hσ hmk (hK' rk) hbk (by rw [q2]; exact hg.2.2.1) (by rw [q3]; exact g3) (by rw [q4]; exact g4) ⟨by rw [q5]; exact h5, by rw [q5]; have := Int32.toInt_lt (F 5); dsimp only; omega⟩ q16, fBd_jx hH ha hka hl hσ hbk hX, fBd_fr hH ha hka hl hσ q16, fBd_fa hH ha hka hl hσ hbk _, rfl, [], ?_, ?_, [], List.mem_cons_self, fun f h => (by cases h)⟩
  · refine ⟨rfl, fun i e v he hv => ?_⟩
    match i, he, hv with
    | 0, he, hv => obtain rfl := Option.some.inj he; obtain rfl := Option.some.inj hv; exact ⟨⟨ha, Or.inl hka⟩, trivial⟩
    | 1, he, hv => obtain rfl := Option.some.inj he; obtain rfl := Option.some.inj hv; exact ⟨⟨bm, dm⟩, trivial⟩
    | 2, he, hv => obtain rfl := Option.some.inj he; obtain rfl := Option.some.inj hv; exact ⟨trivial, trivial⟩
    | k + 3, he, hv => simp [aPe, ag_BOunmake] at he
  · refine ⟨fun q h => (by cases h), fun q h => (by cases h), fun q h => (by cases h), aAllc ⟨_, rfl, (fF_b (r := 17) (by decide) rfl).mpr ?_⟩ (fun f h => by cases h)⟩
    exact ⟨a, rfl, ⟨ha, hka, bd_fl n0 F', n0, A' 0, fBd_a, rfl, by have := hl.2.1; omega, hl.2.2.1 0 (by decide), fBd_r (j := 0) hl.1 (by decide), cm, (show some (fI (F' 2)) = some (fI (F 2)) from by rw [q2]), (show some (fI (F' 3)) = some (fI (F 3)) from by rw [q3]), (show some (fI (F' 4)) = some (fI (F 4)) from by rw [q4]), (show some (fI (F' 5)) = some (fI (F 5)) from by rw [q5]), n0 + 3, A' 3, rfl, by have := hl.2.1; omega, hl.2.2.1 3 (by decide), fBd_r (j := 3) hl.1 (by decide), cw 0 (by decide), cw 1 (by decide)⟩, hg, _, rfl⟩
end
section
/-! tables and layouts are kept by stores -/
theorem fJX_jx {K : Nat → Nat} {n : Nat} : aJx K n fa_Pk (fJX K n) := by
  intro σ a ha hX
  obtain ⟨x1, x2, x3, x4⟩ := hX
  refine ⟨fun x hk => ⟨fun b hb hkb => ?_, fun b hb hkb => ?_, fun b hb hkb => ?_, fun b hb hkb => ?_⟩, fun c fs f u v hs hu hru hrv => ⟨fun b hb hkb => ?_, fun b hb hkb => ?_, fun b hb hkb => ?_, fun b hb hkb => ?_⟩⟩
  · have e : b ≠ a := fun e => hk (by rw [← e, hkb]; decide)
    rw [jup_n e]
    exact x1 b hb hkb
  · have e : b ≠ a := fun e => hk (by rw [← e, hkb]; decide)
    rw [jup_n e]
    exact x2 b hb hkb
  · have e : b ≠ a := fun e => hk (by rw [← e, hkb]; decide)
    obtain ⟨n0, k1, k2, k3, gs, k4, k5⟩ := x3 b hb hkb
    exact ⟨n0, k1, k2, k3, gs, by rw [jup_n e]; exact k4, k5⟩
  · have e : b ≠ a := fun e => hk (by rw [← e, hkb]; decide)
    rw [jup_n e]
    exact x4 b hb hkb
  · have e : b ≠ a := fun e => by
      obtain ⟨g, h, -⟩ := x1 b hb hkb
      rw [e, hs] at h
      cases h
    rw [jup_n e]
    exact x1 b hb hkb
  · have e : b ≠ a := fun e => by
      obtain ⟨g, h, -⟩ := x2 b hb hkb
      rw [e, hs] at h
      cases h
    rw [jup_n e]
    exact x2 b hb hkb
  · obtain ⟨n0, k1, k2, k3, gs, k4, y0, y1, y7, y8, y9, y10, y11, y12, y13, y14, y15⟩ := x3 b hb hkb
    by_cases e : b = a
    · subst e
      rw [hs] at k4
      cases k4
      have key : ∀ (i r : Nat), fs[i]? = some (fR r) → (fs.set f v)[i]? = some (fR r) := fun i r h => by
        rw [List.getElem?_set_ne (fun (e : f = i) => hru (by
          rw [e, h] at hu
          exact ⟨some (.inl r), (Option.some.inj hu).symm⟩))]
        exact h
      exact ⟨n0, k1, k2, k3, fs.set f v, jup_s, key _ _ y0, key _ _ y1, key _ _ y7, key _ _ y8, key _ _ y9, key _ _ y10, key _ _ y11, key _ _ y12, key _ _ y13, key _ _ y14, key _ _ y15⟩
    · exact ⟨n0, k1, k2, k3, gs, by rw [jup_n e]; exact k4, y0, y1, y7, y8, y9, y10, y11, y12, y13, y14, y15⟩
  · have e : b ≠ a := fun e => by
      obtain ⟨g, h, -⟩ := x4 b hb hkb
      rw [e, hs] at h
      cases h
    rw [jup_n e]
    exact x4 b hb hkb
end
section
/-! facts look at what dep says -/
theorem fAt_dp {K : Nat → Nat} {n : Nat} {σ σ' : Nat → jcell} {vs : List jv} {a : Nat} {men F : Nat → Int32} (h : ∀ b, b < n → ∀ q ∈ ([(26, [0, 2, 3, 4, 5, 8], none), (27, [], none), (30, [], none)] : List aDe), q.1 = K b → aSm vs q (σ b) (σ' b)) (h0 : fAt K n σ a men F) : fAt K n σ' a men F := by
  obtain ⟨h1, h2, fs, r, g, h3, h4, h5, h6, h7, h8, k2, k3, k4, k5, rw, gw, w1, w2, w3, w4, w5⟩ := h0
  have hr : σ' r = .inl (.int, 64, .inl g) := by
    rcases h r h5 (27, [], none) (List.mem_of_getElem? (i := 1) rfl) h6.symm with e | ⟨k, f1, f2, e1, -⟩ | ⟨ty, m, g1, g2, f, z, e1, -⟩
    · rw [e]; exact h7
    · rw [h7] at e1; cases e1
    · cases e1
  have hw : σ' rw = .inl (.int, 2, .inl gw) := by
    rcases h rw w2 (30, [], none) (List.mem_of_getElem? (i := 2) rfl) w3.symm with e | ⟨k, f1, f2, e1, -⟩ | ⟨ty, m, g1, g2, f, z, e1, -⟩
    · rw [e]; exact w4
    · rw [w4] at e1; cases e1
    · cases e1
  rcases h a h1 (26, [0, 2, 3, 4, 5, 8], none) (List.mem_of_getElem? (i := 0) rfl) h2.symm with e | ⟨k, f1, f2, e1, e2, e3, e4⟩ | ⟨ty, m, g1, g2, f, z, e1, -⟩
  · exact ⟨h1, h2, fs, r, g, by rw [e]; exact h3, h4, h5, h6, hr, h8, k2, k3, k4, k5, rw, gw, w1, w2, w3, hw, w5⟩
  · rw [h3] at e1
    cases e1
    exact ⟨h1, h2, f2, r, g, e2, by rw [e4 0 (by decide)]; exact h4, h5, h6, hr, h8, by rw [e4 2 (by decide)]; exact k2, by rw [e4 3 (by decide)]; exact k3, by rw [e4 4 (by decide)]; exact k4, by rw [e4 5 (by decide)]; exact k5, rw, gw, by rw [e4 8 (by decide)]; exact w1, w2, w3, hw, w5⟩
  · cases e1
theorem fLl_dp {K : Nat → Nat} {n : Nat} {σ σ' : Nat → jcell} {vs : List jv} {a : Nat} {P : Int → Prop} {Q : Int32 → Prop} {fm : aF} (h : ∀ b, b < n → ∀ q ∈ ([(9, [], some fm), (16, [], some fm), (22, [], some fm), (24, [], some fm)] : List aDe), q.1 = K b → aSm vs q (σ b) (σ' b)) (hz : ∀ (z : Int) (k : Nat), aVa vs fm z → P k → (k : Int) < z) (h0 : fLl K n σ a P Q) : fLl K n σ' a P Q := by
  obtain ⟨h1, h2, m, g, h3, h4⟩ := h0
  have hq : aSm vs (K a, [], some fm) (σ a) (σ' a) := by
    have h2' := h2
    unfold fRw at h2'
    rcases h2' with e | e | e | e
    · rw [e]; exact h a h1 (9, [], some fm) (List.mem_of_getElem? (i := 0) rfl) e.symm
    · rw [e]; exact h a h1 (16, [], some fm) (List.mem_of_getElem? (i := 1) rfl) e.symm
    · rw [e]; exact h a h1 (22, [], some fm) (List.mem_of_getElem? (i := 2) rfl) e.symm
    · rw [e]; exact h a h1 (24, [], some fm) (List.mem_of_getElem? (i := 3) rfl) e.symm
  rcases hq with e | ⟨k, f1, f2, e1, -⟩ | ⟨ty, m2, g1, g2, f, z, e1, e2, e3, e4, e5⟩
  · exact ⟨h1, h2, m, g, by rw [e]; exact h3, h4⟩
  · rw [h3] at e1; cases e1
  · obtain rfl : fm = f := Option.some.inj e1
    rw [h3] at e3
    cases e3
    exact ⟨h1, h2, _, g2, e4, fun k hk => by rw [e5 k (hz z k e2 hk)]; exact h4 k hk⟩
theorem fVa1 {vs : List jv} {i : Nat} {c z : Int} {x : Int32} (h : aVa vs ([(i, 1)], c) z) (hv : vs[i]? = some (.inl x)) : z = x.toInt + c := by
  obtain ⟨w, e, rfl⟩ := h
  unfold aEv at e
  rw [hv] at e
  have e2 : 1 * x.toInt + 0 = w := Option.some.inj (show some (1 * x.toInt + 0) = some w from e)
  dsimp only
  omega
theorem fTak {ws : List jv} {j i : Nat} {v : jv} (h : (ws.take j)[i]? = some v) : ws[i]? = some v := by
  rw [List.getElem?_take] at h
  split at h
  · exact h
  · cases h
theorem fB_df2 {K : Nat → Nat} {n : Nat} {p : fP} {k : Nat} {vs : List jv} {σ : Nat → jcell} (h : k = 0 ∨ (8 ≤ k ∧ k ≤ 17) ∨ k = 20 ∨ k = 21 ∨ k = 29 ∨ (48 ≤ k ∧ k ≤ 60)) : fB K n p k vs σ = fD K n p k vs σ := by
  unfold fB
  split <;> first | rfl | omega
set_option maxHeartbeats 8000000 in
theorem fB_dp {K : Nat → Nat} {n : Nat} {p : fP} {k j : Nat} {ws : List jv} {σ σ' : Nat → jcell} (hk : k < 60) (h : ∀ a, a < n → ∀ q ∈ fb_dep.getD k [], q.1 = K a → aSm ws q (σ a) (σ' a)) (hb : fB K n p k (ws.take j) σ) : fB K n p k (ws.take j) σ' := by
  by_cases c1 : k = 1
  · subst c1
    obtain ⟨a, e, h0, hg⟩ := hb
    exact ⟨a, e, fAt_dp h h0, hg⟩
  by_cases c6 : k = 6
  · subst c6
    obtain ⟨a, x1, y1, x2, y2, x3, y3, e, h0, hg⟩ := hb
    exact ⟨a, x1, y1, x2, y2, x3, y3, e, fAt_dp h h0, hg⟩
  by_cases c28 : k = 28
  · subst c28
    obtain ⟨a, s, e, ⟨v, h0⟩, hg⟩ := hb
    exact ⟨a, s, e, ⟨v, fAt_dp h h0⟩, hg⟩
  by_cases c2 : k = 2
  · subst c2
    obtain ⟨a, lo, hi, e, h0⟩ := hb
    exact ⟨a, lo, hi, e, fLl_dp h (fun z k hz hk => by have := fVa1 (x := hi) hz (fTak (j := j) (by rw [e]; rfl)); omega) h0⟩
  by_cases c32 : k = 32
  · subst c32
    obtain ⟨a, lo, hi, e, h0⟩ := hb
    exact ⟨a, lo, hi, e, fLl_dp h (fun z k hz hk => by have := fVa1 (x := hi) hz (fTak (j := j) (by rw [e]; rfl)); omega) h0⟩
  by_cases c26 : k = 26
  · subst c26
    obtain ⟨a, lo, hi, s, e, h0⟩ := hb
    exact ⟨a, lo, hi, s, e, fLl_dp h (fun z k hz hk => by have := fVa1 (x := hi) hz (fTak (j := j) (by rw [e]; rfl)); omega) h0⟩
  by_cases c27 : k = 27
  · subst c27
    obtain ⟨a, lo, hi, s, e, h0⟩ := hb
    exact ⟨a, lo, hi, s, e, fLl_dp h (fun z k hz hk => by have := fVa1 (x := hi) hz (fTak (j := j) (by rw [e]; rfl)); omega) h0⟩
  by_cases c33 : k = 33
  · subst c33
    obtain ⟨a, lo, hi, s, e, h0⟩ := hb
    exact ⟨a, lo, hi, s, e, fLl_dp h (fun z k hz hk => by have := fVa1 (x := hi) hz (fTak (j := j) (by rw [e]; rfl)); omega) h0⟩
  by_cases c47 : k = 47
  · subst c47
    obtain ⟨a, hi, e, h0⟩ := hb
    exact ⟨a, hi, e, fLl_dp h (fun z k hz hk => by have := fVa1 (x := hi) hz (fTak (j := j) (by rw [e]; rfl)); omega) h0⟩
  by_cases cn : k = 0 ∨ (8 ≤ k ∧ k ≤ 17) ∨ k = 20 ∨ k = 21 ∨ k = 29 ∨ 48 ≤ k
  · rw [fB_df2 (by omega)] at hb ⊢
    unfold fD at hb ⊢
    rw [if_pos hk] at hb ⊢
    exact hb
  by_cases c3 : k = 3
  · subst c3
    exact hb
  by_cases c4 : k = 4
  · subst c4
    exact hb
  by_cases c5 : k = 5
  · subst c5
    exact hb
  by_cases c7 : k = 7
  · subst c7
    exact hb
  by_cases c18 : k = 18
  · subst c18
    exact hb
  by_cases c19 : k = 19
  · subst c19
    exact hb
  by_cases c22 : k = 22
  · subst c22
    exact hb
  by_cases c23 : k = 23
  · subst c23
    exact hb
  by_cases c24 : k = 24
  · subst c24
    exact hb
  by_cases c25 : k = 25
  · subst c25
    exact hb
  by_cases c30 : k = 30
  · subst c30
    exact hb
  by_cases c31 : k = 31
  · subst c31
    exact hb
  by_cases c34 : k = 34
  · subst c34
    exact hb
  by_cases c35 : k = 35
  · subst c35
    exact hb
  by_cases c36 : k = 36
  · subst c36
    exact hb
  by_cases c37 : k = 37
  · subst c37
    exact hb
  by_cases c38 : k = 38
  · subst c38
    exact hb
  by_cases c39 : k = 39
  · subst c39
    exact hb
  by_cases c40 : k = 40
  · subst c40
    exact hb
  by_cases c41 : k = 41
  · subst c41
    exact hb
  by_cases c42 : k = 42
  · subst c42
    exact hb
  by_cases c43 : k = 43
  · subst c43
    exact hb
  by_cases c44 : k = 44
  · subst c44
    exact hb
  by_cases c45 : k = 45
  · subst c45
    exact hb
  by_cases c46 : k = 46
  · subst c46
    exact hb
  omega
theorem fSm_jup {n : Nat} {K : Nat → Nat} {σ σ' : Nat → jcell} {vs ws : List jv} {a : Nat} {T : jcell → jcell} (hT : ∀ (q : aDe) (c c' : jcell), aSm vs (q.1, q.2.1, none) c c' → aSm ws q (T c) (T c')) {d : List aDe} (h : ∀ b, b < n → ∀ q ∈ d.map (fun e => ((e.1, e.2.1, none) : aDe)), q.1 = K b → aSm vs q (σ b) (σ' b)) : ∀ b, b < n → ∀ q ∈ d, q.1 = K b → aSm ws q (jup σ a (T (σ a)) b) (jup σ' a (T (σ' a)) b) := by
  intro b hb q hq hk
  have h1 := h b hb (q.1, q.2.1, none) (List.mem_map.mpr ⟨q, hq, rfl⟩) hk
  by_cases e : b = a
  · subst e
    rw [jup_s, jup_s]
    exact hT q _ _ h1
  · rw [jup_n e, jup_n e]
    rcases h1 with h1 | ⟨k, f1, f2, e1, e2, e3, e4⟩ | ⟨ty, m, g1, g2, f, z, e1, -⟩
    · exact Or.inl h1
    · exact Or.inr (Or.inl ⟨k, f1, f2, e1, e2, e3, e4⟩)
    · cases e1
theorem fSm_sto {vs ws : List jv} (i : Nat) (x : Int32) (q : aDe) (c c' : jcell) (h : aSm vs (q.1, q.2.1, none) c c') : aSm ws q (jsto c i x) (jsto c' i x) := by
  rcases h with h1 | ⟨k, f1, f2, e1, e2, e3, e4⟩ | ⟨ty, m, g1, g2, f, z, e1, -⟩
  · exact Or.inl (by rw [h1])
  · subst e1; subst e2
    exact Or.inr (Or.inl ⟨k, f1, f2, rfl, rfl, e3, e4⟩)
  · cases e1
theorem fSm_stl {vs ws : List jv} (i : Nat) (x : Int64) (q : aDe) (c c' : jcell) (h : aSm vs (q.1, q.2.1, none) c c') : aSm ws q (jstl c i x) (jstl c' i x) := by
  rcases h with h1 | ⟨k, f1, f2, e1, e2, e3, e4⟩ | ⟨ty, m, g1, g2, f, z, e1, -⟩
  · exact Or.inl (by rw [h1])
  · subst e1; subst e2
    exact Or.inr (Or.inl ⟨k, f1, f2, rfl, rfl, e3, e4⟩)
  · cases e1
theorem fSm_stf {vs ws : List jv} (i : Nat) (x : jv) (q : aDe) (c c' : jcell) (h : aSm vs (q.1, q.2.1, none) c c') : aSm ws q (jstf c i x) (jstf c' i x) := by
  rcases h with h1 | ⟨k, f1, f2, e1, e2, e3, e4⟩ | ⟨ty, m, g1, g2, f, z, e1, -⟩
  · exact Or.inl (by rw [h1])
  · subst e1; subst e2
    refine Or.inr (Or.inl ⟨k, f1.set i x, f2.set i x, rfl, rfl, by rw [List.length_set, List.length_set]; exact e3, fun f hf => ?_⟩)
    by_cases e : i = f
    · subst e
      rw [List.getElem?_set, List.getElem?_set, if_pos rfl, if_pos rfl, e3]
    · rw [List.getElem?_set_ne e, List.getElem?_set_ne e]
      exact e4 f hf
  · cases e1
theorem fF_dp {K : Nat → Nat} {n : Nat} : aDp (fF K n) K n fb_dep := by
  refine ⟨fun p r vs σ σ' hl h hf => ?_, fF_pd K n, fun h0 => absurd h0 (by decide)⟩
  have hl : r / 16 % 4096 < 60 := of_decide_eq_true hl
  unfold fF at hf ⊢
  unfold aDg at h
  by_cases c : r < 65536
  · rw [if_pos c] at hf h ⊢
    exact fB_dp (by omega) h hf
  · rw [if_neg c] at hf h ⊢
    by_cases c2 : r < 131072
    · rw [if_pos c2] at hf ⊢
      by_cases c3 : 3 ≤ r % 16
      · rw [if_pos c3] at hf ⊢
        split at hf
        next a x y l =>
          refine fB_dp (σ := jup σ a (jsto (σ a) x.toNatClampNeg y)) (by omega) ?_ hf
          rw [show (r - 65539) / 16 = r / 16 % 4096 by omega]
          exact fSm_jup (fSm_sto _ _) h
        next a x y l =>
          refine fB_dp (σ := jup σ a (jstl (σ a) x.toNatClampNeg y)) (by omega) ?_ hf
          rw [show (r - 65539) / 16 = r / 16 % 4096 by omega]
          exact fSm_jup (fSm_stl _ _) h
        next => exact hf.elim
      · rw [if_neg c3] at hf
        exact hf.elim
    · rw [if_neg c2] at hf ⊢
      by_cases c3 : 2 ≤ r % 16
      · rw [if_pos c3] at hf ⊢
        split at hf
        next a y l =>
          by_cases c4 : (r % 131072 - 2) / 16 < 60
          · refine fB_dp (σ := jup σ a (jstf (σ a) (r / 131072 - 1) y)) c4 ?_ hf
            rw [show (r % 131072 - 2) / 16 = r / 16 % 4096 by omega]
            exact fSm_jup (fSm_stf _ _) h
          · exact (fB_hi (show 1000 ≤ (r % 131072 - 2) / 16 by omega) hf).elim
        next => exact hf.elim
      · rw [if_neg c3] at hf
        exact hf.elim
theorem fDeps : ∀ k, k < 22 → fb_dep.getD k [] = fa_dep.getD k []
  | 0, _ => rfl
  | 1, _ => rfl
  | 2, _ => rfl
  | 3, _ => rfl
  | 4, _ => rfl
  | 5, _ => rfl
  | 6, _ => rfl
  | 7, _ => rfl
  | 8, _ => rfl
  | 9, _ => rfl
  | 10, _ => rfl
  | 11, _ => rfl
  | 12, _ => rfl
  | 13, _ => rfl
  | 14, _ => rfl
  | 15, _ => rfl
  | 16, _ => rfl
  | 17, _ => rfl
  | 18, _ => rfl
  | 19, _ => rfl
  | 20, _ => rfl
  | 21, _ => rfl
  | k + 22, h => absurd h (by omega)
theorem fF_dpa {K : Nat → Nat} {n : Nat} : aDp (fF K n) K n fa_dep := by
  refine ⟨fun p r vs σ σ' hl h hf => fF_dp.1 p r vs σ σ' ?_ ?_ hf, fF_pd K n, fun h0 => absurd h0 (by decide)⟩
  · have h1 : r / 16 % 4096 < 22 := of_decide_eq_true hl
    exact decide_eq_true (show r / 16 % 4096 < 60 by omega)
  · have h1 : r / 16 % 4096 < 22 := of_decide_eq_true hl
    have e : aDg fb_dep r = aDg fa_dep r := by
      unfold aDg
      split
      · exact fDeps _ (by omega)
      · rw [fDeps _ h1]
    rw [e]
    exact h
end
section
/-! rules of the tree: their proofs -/
set_option maxRecDepth 8192 in
theorem rw_ruTG {K : Nat → Nat} {n : Nat} : aGho (fF K n) fa_T K n (fJX K n) ag_ruTG := by
  refine aGho_of ⟨rfl, rfl⟩ ?_
  intro p σ ρ hH hX hA hM
  have hG := aAG_of hA.1 (fun i e v he hv => (hA.2 i e v he hv).1)
  clear hA
  obtain ⟨v0, v1, v2, v3, rfl, g0, g1, g2, g3⟩ := fA_4 hG
  clear hG
  obtain ⟨x0, rfl, b0, d0⟩ := fG_ref (by decide) g0
  obtain ⟨x1, rfl, b1, d1⟩ := fG_ref (by decide) g1
  obtain ⟨x2, rfl, b2, d2⟩ := aG_int g2
  dsimp only at b2 d2
  obtain ⟨x3, rfl, b3, d3⟩ := aG_int g3
  dsimp only at b3 d3
  obtain ⟨m1, m2, m3, m4⟩ := hM
  obtain ⟨a0, c0, fs0, w0, e1, s0, t0, e4⟩ := m1 (0, 0, 1) (List.mem_of_getElem? (i := 0) rfl)
  obtain rfl : x0 = a0 := Sum.inl.inj (Option.some.inj (Sum.inr.inj (Sum.inr.inj (Option.some.inj (show some (fR x0) = some _ from e1)))))
  obtain rfl : fR x1 = w0 := Option.some.inj (show some (fR x1) = some w0 from e4)
  clear e1 e4
  obtain ⟨a1, c1, fs1, w1, e1, s1, t1, e4⟩ := m1 (0, 2, 2) (List.mem_of_getElem? (i := 1) rfl)
  obtain rfl : x0 = a1 := Sum.inl.inj (Option.some.inj (Sum.inr.inj (Sum.inr.inj (Option.some.inj (show some (fR x0) = some _ from e1)))))
  obtain rfl : fI x2 = w1 := Option.some.inj (show some (fI x2) = some w1 from e4)
  clear e1 e4
  obtain ⟨a2, c2, fs2, w2, e1, s2, t2, e4⟩ := m1 (0, 1, 3) (List.mem_of_getElem? (i := 2) rfl)
  obtain rfl : x0 = a2 := Sum.inl.inj (Option.some.inj (Sum.inr.inj (Sum.inr.inj (Option.some.inj (show some (fR x0) = some _ from e1)))))
  obtain rfl : fI x3 = w2 := Option.some.inj (show some (fI x3) = some w2 from e4)
  clear e1 e4
  have f0 : fB K n p 100 [fR x0] σ := by
    obtain ⟨w, e6, e7⟩ := m4 (1601, [0]) (List.mem_of_getElem? (i := 0) rfl)
    obtain rfl : [fR x0] = w := Option.some.inj (show some [fR x0] = some w from e6)
    exact (fF_b (r := 1601) (by decide) rfl).mp e7
  clear m1 m2 m3 m4
  obtain ⟨a, b, h, N, t, q, e, w, u0, u1, u2, h0, N0, H, A⟩ := f0
  cases e
  obtain rfl := fFi_r u0 s0 t0
  obtain rfl := fFi_i u2 s1 t1
  obtain rfl := fFi_i u1 s2 t2
  have q0 : fB K n (.inl q) 1 [fR x1] σ := by
    exact ⟨_, rfl, A, (fTk_good H).1, q, rfl⟩
  have q1 : fB K n (.inl q) 61 [fR x0, fI x2, fI x3] σ := by
    exact ⟨_, _, _, t, rfl, w, h0, N0, ⟨q, rfl⟩, H⟩
  exact ⟨.inl q, fun h => (by cases h), ⟨(fun q h => by cases h), fun q h => (by cases h), (fun f h => by cases h), (aAllc ⟨_, rfl, (fF_b (r := 17) (by decide) rfl).mpr q0⟩ (aAllc ⟨_, rfl, (fF_b (r := 979) (by decide) rfl).mpr q1⟩ (fun f h => by cases h)))⟩, [], List.mem_cons_self, fun f h => (by cases h)⟩
set_option maxRecDepth 8192 in
theorem rw_ruTGr {K : Nat → Nat} {n : Nat} : aGho (fF K n) fa_T K n (fJX K n) ag_ruTGr := by
  refine aGho_of ⟨rfl, rfl⟩ ?_
  intro p σ ρ hH hX hA hM
  have hG := aAG_of hA.1 (fun i e v he hv => (hA.2 i e v he hv).1)
  clear hA
  obtain ⟨v0, v1, v2, v3, rfl, g0, g1, g2, g3⟩ := fA_4 hG
  clear hG
  obtain ⟨x0, rfl, b0, d0⟩ := fG_ref (by decide) g0
  obtain ⟨x1, rfl, b1, d1⟩ := fG_ref (by decide) g1
  obtain ⟨x2, rfl, b2, d2⟩ := aG_int g2
  dsimp only at b2 d2
  obtain ⟨x3, rfl, b3, d3⟩ := aG_int g3
  dsimp only at b3 d3
  obtain ⟨m1, m2, m3, m4⟩ := hM
  obtain ⟨a0, c0, fs0, w0, e1, s0, t0, e4⟩ := m1 (0, 0, 1) (List.mem_of_getElem? (i := 0) rfl)
  obtain rfl : x0 = a0 := Sum.inl.inj (Option.some.inj (Sum.inr.inj (Sum.inr.inj (Option.some.inj (show some (fR x0) = some _ from e1)))))
  obtain rfl : fR x1 = w0 := Option.some.inj (show some (fR x1) = some w0 from e4)
  clear e1 e4
  obtain ⟨a1, c1, fs1, w1, e1, s1, t1, e4⟩ := m1 (0, 2, 2) (List.mem_of_getElem? (i := 1) rfl)
  obtain rfl : x0 = a1 := Sum.inl.inj (Option.some.inj (Sum.inr.inj (Sum.inr.inj (Option.some.inj (show some (fR x0) = some _ from e1)))))
  obtain rfl : fI x2 = w1 := Option.some.inj (show some (fI x2) = some w1 from e4)
  clear e1 e4
  obtain ⟨a2, c2, fs2, w2, e1, s2, t2, e4⟩ := m1 (0, 1, 3) (List.mem_of_getElem? (i := 2) rfl)
  obtain rfl : x0 = a2 := Sum.inl.inj (Option.some.inj (Sum.inr.inj (Sum.inr.inj (Option.some.inj (show some (fR x0) = some _ from e1)))))
  obtain rfl : fI x3 = w2 := Option.some.inj (show some (fI x3) = some w2 from e4)
  clear e1 e4
  have f0 : fB K n p 1 [fR x1] σ := by
    obtain ⟨w, e6, e7⟩ := m4 (17, [1]) (List.mem_of_getElem? (i := 0) rfl)
    obtain rfl : [fR x1] = w := Option.some.inj (show some [fR x1] = some w from e6)
    exact (fF_b (r := 17) (by decide) rfl).mp e7
  have f1 : fB K n p 61 [fR x0, fI x2, fI x3] σ := by
    obtain ⟨w, e6, e7⟩ := m4 (979, [0, 2, 3]) (List.mem_of_getElem? (i := 1) rfl)
    obtain rfl : [fR x0, fI x2, fI x3] = w := Option.some.inj (show some [fR x0, fI x2, fI x3] = some w from e6)
    exact (fF_b (r := 979) (by decide) rfl).mp e7
  clear m1 m2 m3 m4
  obtain ⟨a9, e9, A, hg9, q9, hq9⟩ := f0
  cases e9
  obtain ⟨a, h, N, t, e, w, h0, N0, ⟨q, hq⟩, H⟩ := f1
  cases e
  subst hq
  have q0 : fB K n (.inl q) 100 [fR x0] σ := by
    exact ⟨_, _, _, _, t, q, rfl, w, fFi_mk hH b0 d0 s0 t0, fFi_mk hH b0 d0 s2 t2, fFi_mk hH b0 d0 s1 t1, h0, N0, H, A⟩
  exact ⟨.inl q, fun _ => rfl, ⟨(fun q h => by cases h), fun q h => (by cases h), (fun f h => by cases h), (aAllc ⟨_, rfl, (fF_b (r := 1601) (by decide) rfl).mpr q0⟩ (fun f h => by cases h))⟩, [], List.mem_cons_self, fun f h => (by cases h)⟩
set_option maxRecDepth 8192 in
theorem rw_ruFL {K : Nat → Nat} {n : Nat} : aGho (fF K n) fa_T K n (fJX K n) ag_ruFL := by
  refine aGho_of ⟨rfl, rfl⟩ ?_
  intro p σ ρ hH hX hA hM
  have hG := aAG_of hA.1 (fun i e v he hv => (hA.2 i e v he hv).1)
  clear hA
  obtain ⟨v0, v1, v2, v3, rfl, g0, g1, g2, g3⟩ := fA_4 hG
  clear hG
  obtain ⟨x0, rfl, b0, d0⟩ := fG_ref (by decide) g0
  obtain ⟨x1, rfl, b1, d1⟩ := fG_ref (by decide) g1
  obtain ⟨x2, rfl, b2, d2⟩ := aG_int g2
  dsimp only at b2 d2
  obtain ⟨x3, rfl, b3, d3⟩ := aG_int g3
  dsimp only at b3 d3
  obtain ⟨m1, m2, m3, m4⟩ := hM
  have f0 : fB K n p 1 [fR x1] σ := by
    obtain ⟨w, e6, e7⟩ := m4 (17, [1]) (List.mem_of_getElem? (i := 0) rfl)
    obtain rfl : [fR x1] = w := Option.some.inj (show some [fR x1] = some w from e6)
    exact (fF_b (r := 17) (by decide) rfl).mp e7
  have f1 : fB K n p 61 [fR x0, fI x2, fI x3] σ := by
    obtain ⟨w, e6, e7⟩ := m4 (979, [0, 2, 3]) (List.mem_of_getElem? (i := 1) rfl)
    obtain rfl : [fR x0, fI x2, fI x3] = w := Option.some.inj (show some [fR x0, fI x2, fI x3] = some w from e6)
    exact (fF_b (r := 979) (by decide) rfl).mp e7
  clear m1 m2 m3 m4
  have q0 : fB K n (p) 1 [fR x1] σ := by
    exact f0
  have q1 : fB K n (p) 61 [fR x0, fI x2, fI x3] σ := by
    exact f1
  exact ⟨p, fun h => (by cases h), ⟨(fun q h => by cases h), fun q h => (by cases h), (fun f h => by cases h), (aAllc ⟨_, rfl, (fF_b (r := 17) (by decide) rfl).mpr q0⟩ (aAllc ⟨_, rfl, (fF_b (r := 979) (by decide) rfl).mpr q1⟩ (fun f h => by cases h)))⟩, [], List.mem_cons_self, fun f h => (by cases h)⟩
set_option maxRecDepth 8192 in
theorem rw_ruTVc {K : Nat → Nat} {n : Nat} : aGho (fF K n) fa_T K n (fJX K n) ag_ruTVc := by
  refine aGho_of ⟨rfl, rfl⟩ ?_
  intro p σ ρ hH hX hA hM
  have hG := aAG_of hA.1 (fun i e v he hv => (hA.2 i e v he hv).1)
  clear hA
  obtain ⟨v0, v1, v2, v3, v4, rfl, g0, g1, g2, g3, g4⟩ := fA_5 hG
  clear hG
  obtain ⟨x0, rfl, b0, d0⟩ := fG_ref (by decide) g0
  obtain ⟨x1, rfl, b1, d1⟩ := fG_ref (by decide) g1
  obtain ⟨x2, rfl, b2, d2⟩ := aG_int g2
  dsimp only at b2 d2
  obtain ⟨x3, rfl, b3, d3⟩ := aG_int g3
  dsimp only at b3 d3
  obtain ⟨x4, rfl, b4, d4⟩ := aG_int g4
  dsimp only at b4 d4
  obtain ⟨m1, m2, m3, m4⟩ := hM
  obtain ⟨a0, c0, fs0, w0, e1, s0, t0, e4⟩ := m1 (1, 5, 4) (List.mem_of_getElem? (i := 0) rfl)
  obtain rfl : x1 = a0 := Sum.inl.inj (Option.some.inj (Sum.inr.inj (Sum.inr.inj (Option.some.inj (show some (fR x1) = some _ from e1)))))
  obtain rfl : fI x4 = w0 := Option.some.inj (show some (fI x4) = some w0 from e4)
  clear e1 e4
  have f0 : fB K n p 1 [fR x1] σ := by
    obtain ⟨w, e6, e7⟩ := m4 (17, [1]) (List.mem_of_getElem? (i := 0) rfl)
    obtain rfl : [fR x1] = w := Option.some.inj (show some [fR x1] = some w from e6)
    exact (fF_b (r := 17) (by decide) rfl).mp e7
  have f1 : fB K n p 61 [fR x0, fI x2, fI x3] σ := by
    obtain ⟨w, e6, e7⟩ := m4 (979, [0, 2, 3]) (List.mem_of_getElem? (i := 1) rfl)
    obtain rfl : [fR x0, fI x2, fI x3] = w := Option.some.inj (show some [fR x0, fI x2, fI x3] = some w from e6)
    exact (fF_b (r := 979) (by decide) rfl).mp e7
  clear m1 m2 m3 m4
  obtain ⟨a9, e9, A, hg9, q9, hq9⟩ := f0
  cases e9
  obtain ⟨a, h, N, t, e, w, h0, N0, ⟨q, hq⟩, H⟩ := f1
  cases e
  subst hq
  have hb2 : q.2 5 = x4 := by
    obtain ⟨h1, h2, fs, r, g, h3, h4, h5, h6, h7, h8, y2, y3, y4, y5, -⟩ := A
    rw [s0] at h3
    cases h3
    rw [t0] at y5
    exact (Sum.inl.inj (Option.some.inj y5)).symm
  have hb := (fTk_good H).2
  have hl := fTk_le H
  rw [show (fq (.inl q : fP)).2 5 = x4 from hb2] at hb
  have r0 : 0 ≤ (-1 * x4.toInt + (1 * x2.toInt + 0)) + 999 := by
    omega
  have r1 : 0 ≤ (1 * x4.toInt + 0) + 0 := by
    omega
  have r2 : 0 ≤ (1 * x3.toInt + (-1 * x2.toInt + 0)) + 0 := by
    omega
  exact ⟨.inl q, fun _ => rfl, ⟨(fun q h => by cases h), fun q h => (by cases h), (aAllc ⟨_, rfl, r0⟩ (aAllc ⟨_, rfl, r1⟩ (aAllc ⟨_, rfl, r2⟩ (fun f h => by cases h)))), (fun f h => by cases h)⟩, [], List.mem_cons_self, fun f h => (by cases h)⟩
set_option maxRecDepth 8192 in
theorem rw_ruUP {K : Nat → Nat} {n : Nat} : aGho (fF K n) fa_T K n (fJX K n) ag_ruUP := by
  refine aGho_of ⟨rfl, rfl⟩ ?_
  intro p σ ρ hH hX hA hM
  have hG := aAG_of hA.1 (fun i e v he hv => (hA.2 i e v he hv).1)
  clear hA
  obtain ⟨v0, v1, v2, v3, v4, v5, v6, v7, rfl, g0, g1, g2, g3, g4, g5, g6, g7⟩ := fA_8 hG
  clear hG
  obtain ⟨x0, rfl, b0, d0⟩ := fG_ref (by decide) g0
  obtain ⟨x1, rfl, b1, d1⟩ := fG_ref (by decide) g1
  obtain ⟨x2, rfl, b2, d2⟩ := aG_int g2
  dsimp only at b2 d2
  obtain ⟨x3, rfl, b3, d3⟩ := aG_int g3
  dsimp only at b3 d3
  obtain ⟨x4, rfl, b4, d4⟩ := aG_int g4
  dsimp only at b4 d4
  obtain ⟨x5, rfl⟩ := aG_lng g5
  obtain ⟨x6, rfl, b6, d6⟩ := fG_ref (by decide) g6
  obtain ⟨x7, rfl, b7, d7⟩ := fG_ref (by decide) g7
  obtain ⟨m1, m2, m3, m4⟩ := hM
  obtain ⟨a0, c0, fs0, w0, e1, s0, t0, e4⟩ := m1 (0, 4, 6) (List.mem_of_getElem? (i := 0) rfl)
  obtain rfl : x0 = a0 := Sum.inl.inj (Option.some.inj (Sum.inr.inj (Sum.inr.inj (Option.some.inj (show some (fR x0) = some _ from e1)))))
  obtain rfl : fR x6 = w0 := Option.some.inj (show some (fR x6) = some w0 from e4)
  clear e1 e4
  obtain ⟨a1, c1, fs1, w1, e1, s1, t1, e4⟩ := m1 (0, 7, 7) (List.mem_of_getElem? (i := 1) rfl)
  obtain rfl : x0 = a1 := Sum.inl.inj (Option.some.inj (Sum.inr.inj (Sum.inr.inj (Option.some.inj (show some (fR x0) = some _ from e1)))))
  obtain rfl : fR x7 = w1 := Option.some.inj (show some (fR x7) = some w1 from e4)
  clear e1 e4
  obtain ⟨a, mc0, ty0, gc0, ic0, e1, sc0, jc0, e4, e5⟩ := m2 (6, ([(2, 1)], 0), 4) (List.mem_of_getElem? (i := 0) rfl)
  obtain rfl : x6 = a := Sum.inl.inj (Option.some.inj (Sum.inr.inj (Sum.inr.inj (Option.some.inj (show some (fR x6) = some _ from e1)))))
  obtain ⟨gc0, rfl⟩ : ∃ g, gc0 = .inl g := by
    rcases gc0 with g | g
    · exact ⟨g, rfl⟩
    · exact absurd (show some (fI x4) = some (.inr (.inl (g ic0))) from e5) (fun h => by cases h)
  have sc0 : σ x6 = .inl (ty0, mc0, .inl gc0) := sc0
  have ec0 : x4 = gc0 ic0 := Sum.inl.inj (Option.some.inj (show some (fI x4) = some _ from e5))
  have kc0 : (ic0 : Int) = (1 * x2.toInt + 0) + 0 := by
    obtain ⟨z, e6, e7⟩ := e4
    obtain rfl : (1 * x2.toInt + 0) = z := Option.some.inj (show some (1 * x2.toInt + 0) = some z from e6)
    exact e7
  clear e1 e4 e5
  obtain rfl : ic0 = x2.toInt.toNat := by omega
  obtain ⟨a, mc1, ty1, gc1, ic1, e1, sc1, jc1, e4, e5⟩ := m2 (7, ([(2, 1)], 0), 5) (List.mem_of_getElem? (i := 1) rfl)
  obtain rfl : x7 = a := Sum.inl.inj (Option.some.inj (Sum.inr.inj (Sum.inr.inj (Option.some.inj (show some (fR x7) = some _ from e1)))))
  obtain ⟨gc1, rfl⟩ : ∃ g, gc1 = .inr g := by
    rcases gc1 with g | g
    · exact absurd (show some ((.inr (.inl x5) : jv)) = some (.inl (g ic1)) from e5) (fun h => by cases h)
    · exact ⟨g, rfl⟩
  have sc1 : σ x7 = .inl (ty1, mc1, .inr (.inl gc1)) := sc1
  have ec1 : x5 = gc1 ic1 := Sum.inl.inj (Sum.inr.inj (Option.some.inj (show some ((.inr (.inl x5) : jv)) = some _ from e5)))
  have kc1 : (ic1 : Int) = (1 * x2.toInt + 0) + 0 := by
    obtain ⟨z, e6, e7⟩ := e4
    obtain rfl : (1 * x2.toInt + 0) = z := Option.some.inj (show some (1 * x2.toInt + 0) = some z from e6)
    exact e7
  clear e1 e4 e5
  obtain rfl : ic1 = x2.toInt.toNat := by omega
  have l0 : 0 ≤ (1 * x2.toInt + 0) + -1 := by
    obtain ⟨z, e6, e7⟩ := m3 ([(2, 1)], -1) (List.mem_of_getElem? (i := 0) rfl)
    obtain rfl : (1 * x2.toInt + 0) = z := Option.some.inj (show some (1 * x2.toInt + 0) = some z from e6)
    exact e7
  have f0 : fB K n p 1 [fR x1] σ := by
    obtain ⟨w, e6, e7⟩ := m4 (17, [1]) (List.mem_of_getElem? (i := 0) rfl)
    obtain rfl : [fR x1] = w := Option.some.inj (show some [fR x1] = some w from e6)
    exact (fF_b (r := 17) (by decide) rfl).mp e7
  have f1 : fB K n p 61 [fR x0, fI x2, fI x3] σ := by
    obtain ⟨w, e6, e7⟩ := m4 (979, [0, 2, 3]) (List.mem_of_getElem? (i := 1) rfl)
    obtain rfl : [fR x0, fI x2, fI x3] = w := Option.some.inj (show some [fR x0, fI x2, fI x3] = some w from e6)
    exact (fF_b (r := 979) (by decide) rfl).mp e7
  clear m1 m2 m3 m4
  obtain ⟨a9, e9, A, hg9, q9, hq9⟩ := f0
  cases e9
  obtain ⟨a, h, N, t, e, w, h0, N0, ⟨q, hq⟩, H⟩ := f1
  cases e
  subst hq
  obtain rfl := fRo_c w.2.1 s0 t0 sc0
  obtain rfl := fRl_c w.2.2.2.2 s1 t1 sc1
  obtain ⟨j, qq, j1, j2, j3, j4, j5, j6⟩ := fTk_up H (show 1 ≤ x2.toInt.toNat by omega)
  have q0 : fB K n (fSh (.inl qq) [fI x4]) 1 [fR x1] σ := by
    rw [ec0]
    have hj5 : q = fPl qq (t.2.1 x2.toInt.toNat) := j5
    have A2 : fAt K n σ x1 (fPl qq (t.2.1 x2.toInt.toNat)).1 (fPl qq (t.2.1 x2.toInt.toNat)).2 := by rw [← hj5]; exact A
    exact ⟨_, rfl, A2, by have := hg9; rw [show fq (.inl q : fP) = fPl qq (t.2.1 x2.toInt.toNat) from hj5] at this; exact this, _, rfl⟩
  have q1 : fB K n (.inl qq) 4 [fI x4, (.inr (.inl x5) : jv)] σ := by
    rw [ec0, ec1]
    exact ⟨_, _, rfl, j6.1, j6.2, (fTk_good j3).1, _, rfl⟩
  have q2 : fB K n (.inl qq) 3 [fI x4] σ := by
    rw [ec0]
    exact ⟨_, rfl, j4⟩
  have q3 : fB K n (.inl qq) 62 [fR x0, fI x2, fI x3] σ := by
    refine ⟨_, _, _, t, rfl, w, by omega, ?_, ⟨qq, rfl⟩, by omega, by omega, ?_⟩
    · have := fTk_le H; omega
    · rw [show (t.1 x2.toInt.toNat).toInt.toNat = j by omega]; exact j3
  exact ⟨.inl qq, fun h => (by cases h), ⟨(fun q h => by cases h), fun q h => (by cases h), (fun f h => by cases h), (aAllc ⟨_, rfl, (fF_g (r := 17) (by decide)).mpr q0⟩ (aAllc ⟨_, rfl, (fF_b (r := 66) (by decide) rfl).mpr q1⟩ (aAllc ⟨_, rfl, (fF_b (r := 49) (by decide) rfl).mpr q2⟩ (aAllc ⟨_, rfl, (fF_b (r := 995) (by decide) rfl).mpr q3⟩ (fun f h => by cases h)))))⟩, [], List.mem_cons_self, fun f h => (by cases h)⟩
set_option maxRecDepth 8192 in
theorem rw_ruUP2 {K : Nat → Nat} {n : Nat} : aGho (fF K n) fa_T K n (fJX K n) ag_ruUP2 := by
  refine aGho_of ⟨rfl, rfl⟩ ?_
  intro p σ ρ hH hX hA hM
  have hG := aAG_of hA.1 (fun i e v he hv => (hA.2 i e v he hv).1)
  clear hA
  obtain ⟨v0, v1, v2, v3, v4, rfl, g0, g1, g2, g3, g4⟩ := fA_5 hG
  clear hG
  obtain ⟨x0, rfl, b0, d0⟩ := fG_ref (by decide) g0
  obtain ⟨x1, rfl, b1, d1⟩ := aG_int g1
  dsimp only at b1 d1
  obtain ⟨x2, rfl, b2, d2⟩ := aG_int g2
  dsimp only at b2 d2
  obtain ⟨x3, rfl, b3, d3⟩ := aG_int g3
  dsimp only at b3 d3
  obtain ⟨x4, rfl, b4, d4⟩ := fG_ref (by decide) g4
  obtain ⟨m1, m2, m3, m4⟩ := hM
  obtain ⟨a0, c0, fs0, w0, e1, s0, t0, e4⟩ := m1 (0, 3, 4) (List.mem_of_getElem? (i := 0) rfl)
  obtain rfl : x0 = a0 := Sum.inl.inj (Option.some.inj (Sum.inr.inj (Sum.inr.inj (Option.some.inj (show some (fR x0) = some _ from e1)))))
  obtain rfl : fR x4 = w0 := Option.some.inj (show some (fR x4) = some w0 from e4)
  clear e1 e4
  obtain ⟨a, mc0, ty0, gc0, ic0, e1, sc0, jc0, e4, e5⟩ := m2 (4, ([(1, 1)], 0), 3) (List.mem_of_getElem? (i := 0) rfl)
  obtain rfl : x4 = a := Sum.inl.inj (Option.some.inj (Sum.inr.inj (Sum.inr.inj (Option.some.inj (show some (fR x4) = some _ from e1)))))
  obtain ⟨gc0, rfl⟩ : ∃ g, gc0 = .inl g := by
    rcases gc0 with g | g
    · exact ⟨g, rfl⟩
    · exact absurd (show some (fI x3) = some (.inr (.inl (g ic0))) from e5) (fun h => by cases h)
  have sc0 : σ x4 = .inl (ty0, mc0, .inl gc0) := sc0
  have ec0 : x3 = gc0 ic0 := Sum.inl.inj (Option.some.inj (show some (fI x3) = some _ from e5))
  have kc0 : (ic0 : Int) = (1 * x1.toInt + 0) + 0 := by
    obtain ⟨z, e6, e7⟩ := e4
    obtain rfl : (1 * x1.toInt + 0) = z := Option.some.inj (show some (1 * x1.toInt + 0) = some z from e6)
    exact e7
  clear e1 e4 e5
  obtain rfl : ic0 = x1.toInt.toNat := by omega
  have f0 : fB K n p 62 [fR x0, fI x1, fI x2] σ := by
    obtain ⟨w, e6, e7⟩ := m4 (995, [0, 1, 2]) (List.mem_of_getElem? (i := 0) rfl)
    obtain rfl : [fR x0, fI x1, fI x2] = w := Option.some.inj (show some [fR x0, fI x1, fI x2] = some w from e6)
    exact (fF_b (r := 995) (by decide) rfl).mp e7
  clear m1 m2 m3 m4
  obtain ⟨a, h, N, t, e, w, h1, hN, hq, l1, l2, H⟩ := f0
  cases e
  obtain rfl := fRo_c w.1 s0 t0 sc0
  have ez : x3.toInt = (t.1 x1.toInt.toNat).toInt := by rw [ec0]
  have r0 : 0 ≤ (1 * x1.toInt + (-1 * x3.toInt + 0)) + -1 := by
    omega
  have q0 : fB K n (p) 61 [fR x0, fI x3, fI x2] σ := by
    rw [ec0]
    exact ⟨_, _, _, t, rfl, w, by omega, by omega, hq, H⟩
  exact ⟨p, fun _ => rfl, ⟨(fun q h => by cases h), fun q h => (by cases h), (aAllc ⟨_, rfl, r0⟩ (fun f h => by cases h)), (aAllc ⟨_, rfl, (fF_b (r := 979) (by decide) rfl).mpr q0⟩ (fun f h => by cases h))⟩, [], List.mem_cons_self, fun f h => (by cases h)⟩
set_option maxRecDepth 8192 in
theorem rw_ruLMc {K : Nat → Nat} {n : Nat} : aGho (fF K n) fa_T K n (fJX K n) ag_ruLMc := by
  refine aGho_of ⟨rfl, rfl⟩ ?_
  intro p σ ρ hH hX hA hM
  have hG := aAG_of hA.1 (fun i e v he hv => (hA.2 i e v he hv).1)
  clear hA
  obtain ⟨v0, v1, v2, v3, v4, v5, rfl, g0, g1, g2, g3, g4, g5⟩ := fA_6 hG
  clear hG
  obtain ⟨x0, rfl, b0, d0⟩ := fG_ref (by decide) g0
  obtain ⟨x1, rfl, b1, d1⟩ := aG_int g1
  dsimp only at b1 d1
  obtain ⟨x2, rfl, b2, d2⟩ := aG_int g2
  dsimp only at b2 d2
  obtain ⟨x3, rfl, b3, d3⟩ := aG_int g3
  dsimp only at b3 d3
  obtain ⟨x4, rfl, b4, d4⟩ := aG_int g4
  dsimp only at b4 d4
  obtain ⟨x5, rfl, b5, d5⟩ := fG_ref (by decide) g5
  obtain ⟨m1, m2, m3, m4⟩ := hM
  obtain ⟨a0, c0, fs0, w0, e1, s0, t0, e4⟩ := m1 (0, 1, 2) (List.mem_of_getElem? (i := 0) rfl)
  obtain rfl : x0 = a0 := Sum.inl.inj (Option.some.inj (Sum.inr.inj (Sum.inr.inj (Option.some.inj (show some (fR x0) = some _ from e1)))))
  obtain rfl : fI x2 = w0 := Option.some.inj (show some (fI x2) = some w0 from e4)
  clear e1 e4
  obtain ⟨a1, c1, fs1, w1, e1, s1, t1, e4⟩ := m1 (0, 4, 5) (List.mem_of_getElem? (i := 1) rfl)
  obtain rfl : x0 = a1 := Sum.inl.inj (Option.some.inj (Sum.inr.inj (Sum.inr.inj (Option.some.inj (show some (fR x0) = some _ from e1)))))
  obtain rfl : fR x5 = w1 := Option.some.inj (show some (fR x5) = some w1 from e4)
  clear e1 e4
  obtain ⟨a, mc0, ty0, gc0, ic0, e1, sc0, jc0, e4, e5⟩ := m2 (5, ([(3, 1)], 0), 4) (List.mem_of_getElem? (i := 0) rfl)
  obtain rfl : x5 = a := Sum.inl.inj (Option.some.inj (Sum.inr.inj (Sum.inr.inj (Option.some.inj (show some (fR x5) = some _ from e1)))))
  obtain ⟨gc0, rfl⟩ : ∃ g, gc0 = .inl g := by
    rcases gc0 with g | g
    · exact ⟨g, rfl⟩
    · exact absurd (show some (fI x4) = some (.inr (.inl (g ic0))) from e5) (fun h => by cases h)
  have sc0 : σ x5 = .inl (ty0, mc0, .inl gc0) := sc0
  have ec0 : x4 = gc0 ic0 := Sum.inl.inj (Option.some.inj (show some (fI x4) = some _ from e5))
  have kc0 : (ic0 : Int) = (1 * x3.toInt + 0) + 0 := by
    obtain ⟨z, e6, e7⟩ := e4
    obtain rfl : (1 * x3.toInt + 0) = z := Option.some.inj (show some (1 * x3.toInt + 0) = some z from e6)
    exact e7
  clear e1 e4 e5
  obtain rfl : ic0 = x3.toInt.toNat := by omega
  have f0 : fB K n p 61 [fR x0, fI x1, fI x2] σ := by
    obtain ⟨w, e6, e7⟩ := m4 (979, [0, 1, 2]) (List.mem_of_getElem? (i := 0) rfl)
    obtain rfl : [fR x0, fI x1, fI x2] = w := Option.some.inj (show some [fR x0, fI x1, fI x2] = some w from e6)
    exact (fF_b (r := 979) (by decide) rfl).mp e7
  have f1 : fB K n p 104 [fR x0, fI x3, fI x1] σ := by
    obtain ⟨w, e6, e7⟩ := m4 (1667, [0, 3, 1]) (List.mem_of_getElem? (i := 1) rfl)
    obtain rfl : [fR x0, fI x3, fI x1] = w := Option.some.inj (show some [fR x0, fI x3, fI x1] = some w from e6)
    exact (fF_b (r := 1667) (by decide) rfl).mp e7
  clear m1 m2 m3 m4
  obtain ⟨a, h, N, t, e, w, h0, N0, ⟨q, hq⟩, H⟩ := f0
  cases e
  subst hq
  obtain ⟨a4, c4, h4, N4, pa4, e4, w4, u4, l4a, l4b, p4⟩ := f1
  cases e4
  obtain rfl := fRo_c w.2.1 s1 t1 sc0
  obtain rfl := fFi_i u4 s0 t0
  obtain rfl := fRo_u w4 w.1
  have q0 : fB K n (.inl q) 3 [fI x4] σ := by
    have hm := fTk_mv H (c := x3.toInt.toNat) (by omega) (by omega) (by rw [p4]; omega)
    rw [ec0]
    exact ⟨_, rfl, hm⟩
  exact ⟨.inl q, fun _ => rfl, ⟨(fun q h => by cases h), fun q h => (by cases h), (fun f h => by cases h), (aAllc ⟨_, rfl, (fF_b (r := 49) (by decide) rfl).mpr q0⟩ (fun f h => by cases h))⟩, [], List.mem_cons_self, fun f h => (by cases h)⟩
set_option maxRecDepth 8192 in
theorem rw_ruCMh {K : Nat → Nat} {n : Nat} : aGho (fF K n) fa_T K n (fJX K n) ag_ruCMh := by
  refine aGho_of ⟨rfl, rfl⟩ ?_
  intro p σ ρ hH hX hA hM
  have hG := aAG_of hA.1 (fun i e v he hv => (hA.2 i e v he hv).1)
  clear hA
  obtain ⟨v0, v1, v2, v3, v4, rfl, g0, g1, g2, g3, g4⟩ := fA_5 hG
  clear hG
  obtain ⟨x0, rfl, b0, d0⟩ := fG_ref (by decide) g0
  obtain ⟨x1, rfl, b1, d1⟩ := aG_int g1
  dsimp only at b1 d1
  obtain ⟨x2, rfl, b2, d2⟩ := aG_int g2
  dsimp only at b2 d2
  obtain ⟨x3, rfl, b3, d3⟩ := aG_int g3
  dsimp only at b3 d3
  obtain ⟨x4, rfl, b4, d4⟩ := fG_ref (by decide) g4
  obtain ⟨m1, m2, m3, m4⟩ := hM
  obtain ⟨a0, c0, fs0, w0, e1, s0, t0, e4⟩ := m1 (0, 4, 4) (List.mem_of_getElem? (i := 0) rfl)
  obtain rfl : x0 = a0 := Sum.inl.inj (Option.some.inj (Sum.inr.inj (Sum.inr.inj (Option.some.inj (show some (fR x0) = some _ from e1)))))
  obtain rfl : fR x4 = w0 := Option.some.inj (show some (fR x4) = some w0 from e4)
  clear e1 e4
  obtain ⟨a, mc0, ty0, gc0, ic0, e1, sc0, jc0, e4, e5⟩ := m2 (4, ([(2, 1)], 0), 3) (List.mem_of_getElem? (i := 0) rfl)
  obtain rfl : x4 = a := Sum.inl.inj (Option.some.inj (Sum.inr.inj (Sum.inr.inj (Option.some.inj (show some (fR x4) = some _ from e1)))))
  obtain ⟨gc0, rfl⟩ : ∃ g, gc0 = .inl g := by
    rcases gc0 with g | g
    · exact ⟨g, rfl⟩
    · exact absurd (show some (fI x3) = some (.inr (.inl (g ic0))) from e5) (fun h => by cases h)
  have sc0 : σ x4 = .inl (ty0, mc0, .inl gc0) := sc0
  have ec0 : x3 = gc0 ic0 := Sum.inl.inj (Option.some.inj (show some (fI x3) = some _ from e5))
  have kc0 : (ic0 : Int) = (1 * x2.toInt + 0) + 0 := by
    obtain ⟨z, e6, e7⟩ := e4
    obtain rfl : (1 * x2.toInt + 0) = z := Option.some.inj (show some (1 * x2.toInt + 0) = some z from e6)
    exact e7
  clear e1 e4 e5
  obtain rfl : ic0 = x2.toInt.toNat := by omega
  have f0 : fB K n p 104 [fR x0, fI x2, fI x1] σ := by
    obtain ⟨w, e6, e7⟩ := m4 (1667, [0, 2, 1]) (List.mem_of_getElem? (i := 0) rfl)
    obtain rfl : [fR x0, fI x2, fI x1] = w := Option.some.inj (show some [fR x0, fI x2, fI x1] = some w from e6)
    exact (fF_b (r := 1667) (by decide) rfl).mp e7
  clear m1 m2 m3 m4
  obtain ⟨a4, c4, h4, N4, pa4, e4, w4, u4, l4a, l4b, p4⟩ := f0
  cases e4
  obtain ⟨mvg, w5, e5⟩ := fRo_mk hH b0 d0 s0 t0 b4 d4 (q := ((0, 32767), [])) rfl
  rw [sc0] at e5
  cases e5
  have q0 : fB K n (p) 105 [fR x0, fI x2, fI x1, fI x3] σ := by
    exact ⟨_, _, _, _, _, pa4, gc0, rfl, w4, u4, w5, l4a, l4b, p4, ec0.symm⟩
  exact ⟨p, fun _ => rfl, ⟨(fun q h => by cases h), fun q h => (by cases h), (fun f h => by cases h), (aAllc ⟨_, rfl, (fF_b (r := 1684) (by decide) rfl).mpr q0⟩ (fun f h => by cases h))⟩, [], List.mem_cons_self, fun f h => (by cases h)⟩
set_option maxRecDepth 8192 in
theorem rw_ruPD {K : Nat → Nat} {n : Nat} : aGho (fF K n) fa_T K n (fJX K n) ag_ruPD := by
  refine aGho_of ⟨rfl, rfl⟩ ?_
  intro p σ ρ hH hX hA hM
  have hG := aAG_of hA.1 (fun i e v he hv => (hA.2 i e v he hv).1)
  clear hA
  obtain ⟨v0, v1, v2, v3, v4, v5, v6, rfl, g0, g1, g2, g3, g4, g5, g6⟩ := fA_7 hG
  clear hG
  obtain ⟨x0, rfl, b0, d0⟩ := fG_ref (by decide) g0
  obtain ⟨x1, rfl, b1, d1⟩ := aG_int g1
  dsimp only at b1 d1
  obtain ⟨x2, rfl, b2, d2⟩ := aG_int g2
  dsimp only at b2 d2
  obtain ⟨x3, rfl, b3, d3⟩ := aG_int g3
  dsimp only at b3 d3
  obtain ⟨x4, rfl, b4, d4⟩ := aG_int g4
  dsimp only at b4 d4
  obtain ⟨x5, rfl⟩ := aG_lng g5
  obtain ⟨x6, rfl, b6, d6⟩ := fG_ref (by decide) g6
  obtain ⟨m1, m2, m3, m4⟩ := hM
  obtain ⟨a0, c0, fs0, w0, e1, s0, t0, e4⟩ := m1 (0, 7, 6) (List.mem_of_getElem? (i := 0) rfl)
  obtain rfl : x0 = a0 := Sum.inl.inj (Option.some.inj (Sum.inr.inj (Sum.inr.inj (Option.some.inj (show some (fR x0) = some _ from e1)))))
  obtain rfl : fR x6 = w0 := Option.some.inj (show some (fR x6) = some w0 from e4)
  clear e1 e4
  obtain ⟨a1, c1, fs1, w1, e1, s1, t1, e4⟩ := m1 (0, 1, 2) (List.mem_of_getElem? (i := 1) rfl)
  obtain rfl : x0 = a1 := Sum.inl.inj (Option.some.inj (Sum.inr.inj (Sum.inr.inj (Option.some.inj (show some (fR x0) = some _ from e1)))))
  obtain rfl : fI x2 = w1 := Option.some.inj (show some (fI x2) = some w1 from e4)
  clear e1 e4
  have f0 : fB K n p 4 [fI x4, (.inr (.inl x5) : jv)] σ := by
    obtain ⟨w, e6, e7⟩ := m4 (66, [4, 5]) (List.mem_of_getElem? (i := 0) rfl)
    obtain rfl : [fI x4, (.inr (.inl x5) : jv)] = w := Option.some.inj (show some [fI x4, (.inr (.inl x5) : jv)] = some w from e6)
    exact (fF_b (r := 66) (by decide) rfl).mp e7
  have f1 : fB K n p 3 [fI x4] σ := by
    obtain ⟨w, e6, e7⟩ := m4 (49, [4]) (List.mem_of_getElem? (i := 1) rfl)
    obtain rfl : [fI x4] = w := Option.some.inj (show some [fI x4] = some w from e6)
    exact (fF_b (r := 49) (by decide) rfl).mp e7
  have f2 : fB K n p 61 [fR x0, fI x1, fI x2] σ := by
    obtain ⟨w, e6, e7⟩ := m4 (979, [0, 1, 2]) (List.mem_of_getElem? (i := 2) rfl)
    obtain rfl : [fR x0, fI x1, fI x2] = w := Option.some.inj (show some [fR x0, fI x1, fI x2] = some w from e6)
    exact (fF_b (r := 979) (by decide) rfl).mp e7
  have f3 : fB K n p 105 [fR x0, fI x3, fI x1, fI x4] σ := by
    obtain ⟨w, e6, e7⟩ := m4 (1684, [0, 3, 1, 4]) (List.mem_of_getElem? (i := 3) rfl)
    obtain rfl : [fR x0, fI x3, fI x1, fI x4] = w := Option.some.inj (show some [fR x0, fI x3, fI x1, fI x4] = some w from e6)
    exact (fF_b (r := 1684) (by decide) rfl).mp e7
  clear m1 m2 m3 m4
  obtain ⟨mu, u, eu, hu1, hu2, -⟩ := f0
  cases eu
  obtain ⟨a, h, N, t, e, w, h0, N0, ⟨q, hq⟩, H⟩ := f2
  cases e
  subst hq
  obtain ⟨a5, c5, h5, m5, N5, pa5, mv5, e5, w5, u5, z5, l5a, l5b, p5, k5⟩ := f3
  cases e5
  obtain rfl := fFi_i u5 s1 t1
  obtain rfl := fRo_u w5 w.1
  obtain rfl := fRo_u z5 w.2.1
  have q0 : fB K n (fSh (.inl q) [fI x4]) 61 [fR x0, fI x3, fI x2] (jup σ x6 (jstl (σ x6) x3.toNatClampNeg x5)) := by
    have hk : ∀ k, k = 38 ∨ k = 39 ∨ k = 40 ∨ k = 41 → ¬ K x6 = k := fun k hk e => by rw [d6] at e; omega
    have hg : ¬ K x6 = 25 := by rw [d6]; decide
    refine ⟨_, _, _, (t.1, t.2.1, t.2.2.1, t.2.2.2.1, vp_updL t.2.2.2.2 x3.toInt.toNat x5), rfl, ⟨fRo_ne w.1 hg (hk _ (by simp)), fRo_ne w.2.1 hg (hk _ (by simp)), fRo_ne w.2.2.1 hg (hk _ (by simp)), fRo_ne w.2.2.2.1 hg (hk _ (by simp)), fRl_st w.2.2.2.2 s0 t0⟩, by omega, N0, ⟨_, rfl⟩, ?_⟩
    have hd := fTk_dn H (c := x3.toInt.toNat) (by omega) (by omega) (by rw [p5]; omega) (u := x5) (by rw [k5]; exact ⟨hu1, hu2⟩)
    rw [k5] at hd
    exact hd
  exact ⟨.inl q, fun _ => rfl, ⟨(fun q h => by cases h), fun q h => (by cases h), (fun f h => by cases h), (aAllc ⟨_, rfl, fF_pl (r := 979) (by decide) (by decide) (Nat.le_of_ble_eq_true rfl) q0⟩ (fun f h => by cases h))⟩, [], List.mem_cons_self, fun f h => (by cases h)⟩
set_option maxRecDepth 8192 in
theorem rw_ruCL0 {K : Nat → Nat} {n : Nat} : aGho (fF K n) fa_T K n (fJX K n) ag_ruCL0 := by
  refine aGho_of ⟨rfl, rfl⟩ ?_
  intro p σ ρ hH hX hA hM
  have hG := aAG_of hA.1 (fun i e v he hv => (hA.2 i e v he hv).1)
  clear hA
  obtain ⟨v0, v1, v2, v3, v4, v5, v6, v7, v8, rfl, g0, g1, g2, g3, g4, g5, g6, g7, g8⟩ := fA_9 hG
  clear hG
  obtain ⟨x0, rfl, b0, d0⟩ := fG_ref (by decide) g0
  obtain ⟨x1, rfl, b1, d1⟩ := aG_int g1
  dsimp only at b1 d1
  obtain ⟨x2, rfl, b2, d2⟩ := aG_int g2
  dsimp only at b2 d2
  obtain ⟨x3, rfl, b3, d3⟩ := aG_int g3
  dsimp only at b3 d3
  obtain ⟨x4, rfl, b4, d4⟩ := aG_int g4
  dsimp only at b4 d4
  obtain ⟨x5, rfl, b5, d5⟩ := fG_ref (by decide) g5
  obtain ⟨x6, rfl, b6, d6⟩ := aG_int g6
  dsimp only at b6 d6
  obtain ⟨x7, rfl, b7, d7⟩ := fG_ref (by decide) g7
  obtain ⟨x8, rfl, b8, d8⟩ := fG_ref (by decide) g8
  obtain ⟨m1, m2, m3, m4⟩ := hM
  obtain ⟨a0, c0, fs0, w0, e1, s0, t0, e4⟩ := m1 (0, 5, 5) (List.mem_of_getElem? (i := 0) rfl)
  obtain rfl : x0 = a0 := Sum.inl.inj (Option.some.inj (Sum.inr.inj (Sum.inr.inj (Option.some.inj (show some (fR x0) = some _ from e1)))))
  obtain rfl : fR x5 = w0 := Option.some.inj (show some (fR x5) = some w0 from e4)
  clear e1 e4
  obtain ⟨a1, c1, fs1, w1, e1, s1, t1, e4⟩ := m1 (0, 1, 6) (List.mem_of_getElem? (i := 1) rfl)
  obtain rfl : x0 = a1 := Sum.inl.inj (Option.some.inj (Sum.inr.inj (Sum.inr.inj (Option.some.inj (show some (fR x0) = some _ from e1)))))
  obtain rfl : fI x6 = w1 := Option.some.inj (show some (fI x6) = some w1 from e4)
  clear e1 e4
  obtain ⟨a2, c2, fs2, w2, e1, s2, t2, e4⟩ := m1 (0, 3, 7) (List.mem_of_getElem? (i := 2) rfl)
  obtain rfl : x0 = a2 := Sum.inl.inj (Option.some.inj (Sum.inr.inj (Sum.inr.inj (Option.some.inj (show some (fR x0) = some _ from e1)))))
  obtain rfl : fR x7 = w2 := Option.some.inj (show some (fR x7) = some w2 from e4)
  clear e1 e4
  obtain ⟨a3, c3, fs3, w3, e1, s3, t3, e4⟩ := m1 (0, 6, 8) (List.mem_of_getElem? (i := 3) rfl)
  obtain rfl : x0 = a3 := Sum.inl.inj (Option.some.inj (Sum.inr.inj (Sum.inr.inj (Option.some.inj (show some (fR x0) = some _ from e1)))))
  obtain rfl : fR x8 = w3 := Option.some.inj (show some (fR x8) = some w3 from e4)
  clear e1 e4
  obtain ⟨a, mc0, ty0, gc0, ic0, e1, sc0, jc0, e4, e5⟩ := m2 (5, ([(1, 1)], 0), 2) (List.mem_of_getElem? (i := 0) rfl)
  obtain rfl : x5 = a := Sum.inl.inj (Option.some.inj (Sum.inr.inj (Sum.inr.inj (Option.some.inj (show some (fR x5) = some _ from e1)))))
  obtain ⟨gc0, rfl⟩ : ∃ g, gc0 = .inl g := by
    rcases gc0 with g | g
    · exact ⟨g, rfl⟩
    · exact absurd (show some (fI x2) = some (.inr (.inl (g ic0))) from e5) (fun h => by cases h)
  have sc0 : σ x5 = .inl (ty0, mc0, .inl gc0) := sc0
  have ec0 : x2 = gc0 ic0 := Sum.inl.inj (Option.some.inj (show some (fI x2) = some _ from e5))
  have kc0 : (ic0 : Int) = (1 * x1.toInt + 0) + 0 := by
    obtain ⟨z, e6, e7⟩ := e4
    obtain rfl : (1 * x1.toInt + 0) = z := Option.some.inj (show some (1 * x1.toInt + 0) = some z from e6)
    exact e7
  clear e1 e4 e5
  obtain rfl : ic0 = x1.toInt.toNat := by omega
  have l0 : 0 ≤ (1 * x6.toInt + (-1 * x4.toInt + 0)) + 0 := by
    obtain ⟨z, e6, e7⟩ := m3 ([(6, 1), (4, -1)], 0) (List.mem_of_getElem? (i := 0) rfl)
    obtain rfl : (1 * x6.toInt + (-1 * x4.toInt + 0)) = z := Option.some.inj (show some (1 * x6.toInt + (-1 * x4.toInt + 0)) = some z from e6)
    exact e7
  have f0 : fB K n p 61 [fR x0, fI x1, fI x4] σ := by
    obtain ⟨w, e6, e7⟩ := m4 (979, [0, 1, 4]) (List.mem_of_getElem? (i := 0) rfl)
    obtain rfl : [fR x0, fI x1, fI x4] = w := Option.some.inj (show some [fR x0, fI x1, fI x4] = some w from e6)
    exact (fF_b (r := 979) (by decide) rfl).mp e7
  clear m1 m2 m3 m4
  obtain ⟨a, h, N, t, e, w, h0, N0, ⟨q, hq⟩, H⟩ := f0
  cases e
  subst hq
  obtain rfl := fRo_c w.2.2.1 s0 t0 sc0
  obtain ⟨L, L1, L2, L3⟩ := fTk_ch H (k := x1.toInt.toNat) (fTk_le H)
  have hN2 := H.2.1
  have q0 : fB K n (.inl q) 106 [fR x0, fI x1, fI x2, fI x3] σ := by
    refine ⟨_, _, _, _, x6, t.1, t.2.2.1, t.2.2.2.1, L, rfl, w.1, w.2.2.1, w.2.2.2.1, fFi_mk hH b0 d0 s1 t1, by omega, by omega, L1, L2, fun c hc => ?_, by omega, ?_⟩
    · obtain ⟨y1, y2, y3⟩ := L3 c hc
      exact ⟨y1, by omega, fI0 (by omega)⟩
    · rw [show x3.toInt.toNat = 0 by omega, List.drop_zero, ec0]
      exact L2
  exact ⟨.inl q, fun _ => rfl, ⟨(fun q h => by cases h), fun q h => (by cases h), (fun f h => by cases h), (aAllc ⟨_, rfl, (fF_b (r := 1700) (by decide) rfl).mpr q0⟩ (fun f h => by cases h))⟩, [], List.mem_cons_self, fun f h => (by cases h)⟩
set_option maxRecDepth 8192 in
theorem rw_ruCL0l {K : Nat → Nat} {n : Nat} : aGho (fF K n) fa_T K n (fJX K n) ag_ruCL0l := by
  refine aGho_of ⟨rfl, rfl⟩ ?_
  intro p σ ρ hH hX hA hM
  have hG := aAG_of hA.1 (fun i e v he hv => (hA.2 i e v he hv).1)
  clear hA
  obtain ⟨v0, v1, v2, v3, v4, v5, v6, v7, v8, v9, rfl, g0, g1, g2, g3, g4, g5, g6, g7, g8, g9⟩ := fA_10 hG
  clear hG
  obtain ⟨x0, rfl, b0, d0⟩ := fG_ref (by decide) g0
  obtain ⟨x1, rfl, b1, d1⟩ := aG_int g1
  dsimp only at b1 d1
  obtain ⟨x2, rfl, b2, d2⟩ := aG_int g2
  dsimp only at b2 d2
  obtain ⟨x3, rfl, b3, d3⟩ := aG_int g3
  dsimp only at b3 d3
  obtain ⟨x4, rfl, b4, d4⟩ := aG_int g4
  dsimp only at b4 d4
  obtain ⟨x5, rfl, b5, d5⟩ := fG_ref (by decide) g5
  obtain ⟨x6, rfl, b6, d6⟩ := aG_int g6
  dsimp only at b6 d6
  obtain ⟨x7, rfl, b7, d7⟩ := fG_ref (by decide) g7
  obtain ⟨x8, rfl, b8, d8⟩ := fG_ref (by decide) g8
  obtain ⟨x9, rfl, b9, d9⟩ := aG_int g9
  dsimp only at b9 d9
  obtain ⟨m1, m2, m3, m4⟩ := hM
  obtain ⟨a0, c0, fs0, w0, e1, s0, t0, e4⟩ := m1 (0, 5, 5) (List.mem_of_getElem? (i := 0) rfl)
  obtain rfl : x0 = a0 := Sum.inl.inj (Option.some.inj (Sum.inr.inj (Sum.inr.inj (Option.some.inj (show some (fR x0) = some _ from e1)))))
  obtain rfl : fR x5 = w0 := Option.some.inj (show some (fR x5) = some w0 from e4)
  clear e1 e4
  obtain ⟨a1, c1, fs1, w1, e1, s1, t1, e4⟩ := m1 (0, 1, 6) (List.mem_of_getElem? (i := 1) rfl)
  obtain rfl : x0 = a1 := Sum.inl.inj (Option.some.inj (Sum.inr.inj (Sum.inr.inj (Option.some.inj (show some (fR x0) = some _ from e1)))))
  obtain rfl : fI x6 = w1 := Option.some.inj (show some (fI x6) = some w1 from e4)
  clear e1 e4
  obtain ⟨a2, c2, fs2, w2, e1, s2, t2, e4⟩ := m1 (0, 3, 7) (List.mem_of_getElem? (i := 2) rfl)
  obtain rfl : x0 = a2 := Sum.inl.inj (Option.some.inj (Sum.inr.inj (Sum.inr.inj (Option.some.inj (show some (fR x0) = some _ from e1)))))
  obtain rfl : fR x7 = w2 := Option.some.inj (show some (fR x7) = some w2 from e4)
  clear e1 e4
  obtain ⟨a3, c3, fs3, w3, e1, s3, t3, e4⟩ := m1 (0, 6, 8) (List.mem_of_getElem? (i := 3) rfl)
  obtain rfl : x0 = a3 := Sum.inl.inj (Option.some.inj (Sum.inr.inj (Sum.inr.inj (Option.some.inj (show some (fR x0) = some _ from e1)))))
  obtain rfl : fR x8 = w3 := Option.some.inj (show some (fR x8) = some w3 from e4)
  clear e1 e4
  obtain ⟨a, mc0, ty0, gc0, ic0, e1, sc0, jc0, e4, e5⟩ := m2 (5, ([(1, 1)], 0), 2) (List.mem_of_getElem? (i := 0) rfl)
  obtain rfl : x5 = a := Sum.inl.inj (Option.some.inj (Sum.inr.inj (Sum.inr.inj (Option.some.inj (show some (fR x5) = some _ from e1)))))
  obtain ⟨gc0, rfl⟩ : ∃ g, gc0 = .inl g := by
    rcases gc0 with g | g
    · exact ⟨g, rfl⟩
    · exact absurd (show some (fI x2) = some (.inr (.inl (g ic0))) from e5) (fun h => by cases h)
  have sc0 : σ x5 = .inl (ty0, mc0, .inl gc0) := sc0
  have ec0 : x2 = gc0 ic0 := Sum.inl.inj (Option.some.inj (show some (fI x2) = some _ from e5))
  have kc0 : (ic0 : Int) = (1 * x1.toInt + 0) + 0 := by
    obtain ⟨z, e6, e7⟩ := e4
    obtain rfl : (1 * x1.toInt + 0) = z := Option.some.inj (show some (1 * x1.toInt + 0) = some z from e6)
    exact e7
  clear e1 e4 e5
  obtain rfl : ic0 = x1.toInt.toNat := by omega
  have l0 : 0 ≤ (1 * x6.toInt + (-1 * x4.toInt + 0)) + 0 := by
    obtain ⟨z, e6, e7⟩ := m3 ([(6, 1), (4, -1)], 0) (List.mem_of_getElem? (i := 0) rfl)
    obtain rfl : (1 * x6.toInt + (-1 * x4.toInt + 0)) = z := Option.some.inj (show some (1 * x6.toInt + (-1 * x4.toInt + 0)) = some z from e6)
    exact e7
  have l1 : 0 ≤ (1 * x4.toInt + (-1 * x1.toInt + 0)) + 0 := by
    obtain ⟨z, e6, e7⟩ := m3 ([(4, 1), (1, -1)], 0) (List.mem_of_getElem? (i := 1) rfl)
    obtain rfl : (1 * x4.toInt + (-1 * x1.toInt + 0)) = z := Option.some.inj (show some (1 * x4.toInt + (-1 * x1.toInt + 0)) = some z from e6)
    exact e7
  have f0 : fB K n p 61 [fR x0, fI x9, fI x4] σ := by
    obtain ⟨w, e6, e7⟩ := m4 (979, [0, 9, 4]) (List.mem_of_getElem? (i := 0) rfl)
    obtain rfl : [fR x0, fI x9, fI x4] = w := Option.some.inj (show some [fR x0, fI x9, fI x4] = some w from e6)
    exact (fF_b (r := 979) (by decide) rfl).mp e7
  clear m1 m2 m3 m4
  obtain ⟨a, h, N, t, e, w, h0, N0, ⟨q, hq⟩, H⟩ := f0
  cases e
  subst hq
  obtain rfl := fRo_c w.2.2.1 s0 t0 sc0
  obtain ⟨L, L1, L2, L3⟩ := fTk_ch H (k := x1.toInt.toNat) (by omega)
  have hN2 := H.2.1
  have q0 : fB K n (.inl q) 106 [fR x0, fI x1, fI x2, fI x3] σ := by
    refine ⟨_, _, _, _, x6, t.1, t.2.2.1, t.2.2.2.1, L, rfl, w.1, w.2.2.1, w.2.2.2.1, fFi_mk hH b0 d0 s1 t1, by omega, by omega, L1, L2, fun c hc => ?_, by omega, ?_⟩
    · obtain ⟨y1, y2, y3⟩ := L3 c hc
      exact ⟨y1, by omega, fI0 (by omega)⟩
    · rw [show x3.toInt.toNat = 0 by omega, List.drop_zero, ec0]
      exact L2
  exact ⟨.inl q, fun _ => rfl, ⟨(fun q h => by cases h), fun q h => (by cases h), (fun f h => by cases h), (aAllc ⟨_, rfl, (fF_b (r := 1700) (by decide) rfl).mpr q0⟩ (fun f h => by cases h))⟩, [], List.mem_cons_self, fun f h => (by cases h)⟩
set_option maxRecDepth 8192 in
theorem rw_ruCLs {K : Nat → Nat} {n : Nat} : aGho (fF K n) fa_T K n (fJX K n) ag_ruCLs := by
  refine aGho_of ⟨rfl, rfl⟩ ?_
  intro p σ ρ hH hX hA hM
  have hG := aAG_of hA.1 (fun i e v he hv => (hA.2 i e v he hv).1)
  clear hA
  obtain ⟨v0, v1, v2, v3, v4, v5, v6, rfl, g0, g1, g2, g3, g4, g5, g6⟩ := fA_7 hG
  clear hG
  obtain ⟨x0, rfl, b0, d0⟩ := fG_ref (by decide) g0
  obtain ⟨x1, rfl, b1, d1⟩ := aG_int g1
  dsimp only at b1 d1
  obtain ⟨x2, rfl, b2, d2⟩ := aG_int g2
  dsimp only at b2 d2
  obtain ⟨x3, rfl, b3, d3⟩ := aG_int g3
  dsimp only at b3 d3
  obtain ⟨x4, rfl, b4, d4⟩ := aG_int g4
  dsimp only at b4 d4
  obtain ⟨x5, rfl, b5, d5⟩ := aG_int g5
  dsimp only at b5 d5
  obtain ⟨x6, rfl, b6, d6⟩ := fG_ref (by decide) g6
  obtain ⟨m1, m2, m3, m4⟩ := hM
  obtain ⟨a0, c0, fs0, w0, e1, s0, t0, e4⟩ := m1 (0, 6, 6) (List.mem_of_getElem? (i := 0) rfl)
  obtain rfl : x0 = a0 := Sum.inl.inj (Option.some.inj (Sum.inr.inj (Sum.inr.inj (Option.some.inj (show some (fR x0) = some _ from e1)))))
  obtain rfl : fR x6 = w0 := Option.some.inj (show some (fR x6) = some w0 from e4)
  clear e1 e4
  obtain ⟨a, mc0, ty0, gc0, ic0, e1, sc0, jc0, e4, e5⟩ := m2 (6, ([(2, 1)], 0), 4) (List.mem_of_getElem? (i := 0) rfl)
  obtain rfl : x6 = a := Sum.inl.inj (Option.some.inj (Sum.inr.inj (Sum.inr.inj (Option.some.inj (show some (fR x6) = some _ from e1)))))
  obtain ⟨gc0, rfl⟩ : ∃ g, gc0 = .inl g := by
    rcases gc0 with g | g
    · exact ⟨g, rfl⟩
    · exact absurd (show some (fI x4) = some (.inr (.inl (g ic0))) from e5) (fun h => by cases h)
  have sc0 : σ x6 = .inl (ty0, mc0, .inl gc0) := sc0
  have ec0 : x4 = gc0 ic0 := Sum.inl.inj (Option.some.inj (show some (fI x4) = some _ from e5))
  have kc0 : (ic0 : Int) = (1 * x2.toInt + 0) + 0 := by
    obtain ⟨z, e6, e7⟩ := e4
    obtain rfl : (1 * x2.toInt + 0) = z := Option.some.inj (show some (1 * x2.toInt + 0) = some z from e6)
    exact e7
  clear e1 e4 e5
  obtain rfl : ic0 = x2.toInt.toNat := by omega
  have l0 : 0 ≤ (1 * x2.toInt + 0) + -1 := by
    obtain ⟨z, e6, e7⟩ := m3 ([(2, 1)], -1) (List.mem_of_getElem? (i := 0) rfl)
    obtain rfl : (1 * x2.toInt + 0) = z := Option.some.inj (show some (1 * x2.toInt + 0) = some z from e6)
    exact e7
  have l1 : 0 ≤ (1 * x5.toInt + (-1 * x3.toInt + 0)) + -1 := by
    obtain ⟨z, e6, e7⟩ := m3 ([(5, 1), (3, -1)], -1) (List.mem_of_getElem? (i := 1) rfl)
    obtain rfl : (1 * x5.toInt + (-1 * x3.toInt + 0)) = z := Option.some.inj (show some (1 * x5.toInt + (-1 * x3.toInt + 0)) = some z from e6)
    exact e7
  have l2 : 0 ≤ (-1 * x5.toInt + (1 * x3.toInt + 0)) + 1 := by
    obtain ⟨z, e6, e7⟩ := m3 ([(5, -1), (3, 1)], 1) (List.mem_of_getElem? (i := 2) rfl)
    obtain rfl : (-1 * x5.toInt + (1 * x3.toInt + 0)) = z := Option.some.inj (show some (-1 * x5.toInt + (1 * x3.toInt + 0)) = some z from e6)
    exact e7
  have f0 : fB K n p 106 [fR x0, fI x1, fI x2, fI x3] σ := by
    obtain ⟨w, e6, e7⟩ := m4 (1700, [0, 1, 2, 3]) (List.mem_of_getElem? (i := 0) rfl)
    obtain rfl : [fR x0, fI x1, fI x2, fI x3] = w := Option.some.inj (show some [fR x0, fI x1, fI x2, fI x3] = some w from e6)
    exact (fF_b (r := 1700) (by decide) rfl).mp e7
  clear m1 m2 m3 m4
  obtain ⟨a6, h6, c6, i6, N6, pa6, fi6, af6, L, e6, w6, y6, z6, u6, n6a, n6b, L1, L2, L3, i6a, L4⟩ := f0
  cases e6
  obtain rfl := fRo_c z6 s0 t0 sc0
  have hD := fCn_drop (y := x4.toInt) L4 (fun c hc => (L3 c hc).1) (by omega) (by rw [ec0])
  have q0 : fB K n (p) 106 [fR x0, fI x1, fI x4, fI x5] σ := by
    refine ⟨_, _, _, _, N6, pa6, fi6, _, L, rfl, w6, y6, z6, u6, n6a, n6b, L1, L2, L3, by omega, ?_⟩
    rw [show x5.toInt.toNat = x3.toInt.toNat + 1 by omega]
    exact hD.1
  exact ⟨p, fun _ => rfl, ⟨(fun q h => by cases h), fun q h => (by cases h), (fun f h => by cases h), (aAllc ⟨_, rfl, (fF_b (r := 1700) (by decide) rfl).mpr q0⟩ (fun f h => by cases h))⟩, [], List.mem_cons_self, fun f h => (by cases h)⟩
set_option maxRecDepth 8192 in
theorem rw_ruCLx {K : Nat → Nat} {n : Nat} : aGho (fF K n) fa_T K n (fJX K n) ag_ruCLx := by
  refine aGho_of ⟨rfl, rfl⟩ ?_
  intro p σ ρ hH hX hA hM
  have hG := aAG_of hA.1 (fun i e v he hv => (hA.2 i e v he hv).1)
  clear hA
  obtain ⟨v0, v1, v2, v3, rfl, g0, g1, g2, g3⟩ := fA_4 hG
  clear hG
  obtain ⟨x0, rfl, b0, d0⟩ := fG_ref (by decide) g0
  obtain ⟨x1, rfl, b1, d1⟩ := aG_int g1
  dsimp only at b1 d1
  obtain ⟨x2, rfl, b2, d2⟩ := aG_int g2
  dsimp only at b2 d2
  obtain ⟨x3, rfl, b3, d3⟩ := aG_int g3
  dsimp only at b3 d3
  obtain ⟨m1, m2, m3, m4⟩ := hM
  have l0 : 0 ≤ (1 * x3.toInt + 0) + -300 := by
    obtain ⟨z, e6, e7⟩ := m3 ([(3, 1)], -300) (List.mem_of_getElem? (i := 0) rfl)
    obtain rfl : (1 * x3.toInt + 0) = z := Option.some.inj (show some (1 * x3.toInt + 0) = some z from e6)
    exact e7
  have f0 : fB K n p 106 [fR x0, fI x1, fI x2, fI x3] σ := by
    obtain ⟨w, e6, e7⟩ := m4 (1700, [0, 1, 2, 3]) (List.mem_of_getElem? (i := 0) rfl)
    obtain rfl : [fR x0, fI x1, fI x2, fI x3] = w := Option.some.inj (show some [fR x0, fI x1, fI x2, fI x3] = some w from e6)
    exact (fF_b (r := 1700) (by decide) rfl).mp e7
  clear m1 m2 m3 m4
  obtain ⟨a6, h6, c6, i6, N6, pa6, fi6, af6, L, e6, w6, y6, z6, u6, n6a, n6b, L1, L2, L3, i6a, L4⟩ := f0
  cases e6
  have hz := fCn_end (N := N6.toInt.toNat) L4 L1 (fun c hc => ⟨(L3 c hc).1, by have := (L3 c hc).2.1; omega⟩) (by omega)
  have r0 : 0 ≤ (-1 * x2.toInt + 0) + 0 := by
    omega
  exact ⟨p, fun _ => rfl, ⟨(fun q h => by cases h), fun q h => (by cases h), (aAllc ⟨_, rfl, r0⟩ (fun f h => by cases h)), (fun f h => by cases h)⟩, [], List.mem_cons_self, fun f h => (by cases h)⟩
set_option maxRecDepth 8192 in
theorem rw_ruCLc {K : Nat → Nat} {n : Nat} : aGho (fF K n) fa_T K n (fJX K n) ag_ruCLc := by
  refine aGho_of ⟨rfl, rfl⟩ ?_
  intro p σ ρ hH hX hA hM
  have hG := aAG_of hA.1 (fun i e v he hv => (hA.2 i e v he hv).1)
  clear hA
  obtain ⟨v0, v1, v2, v3, rfl, g0, g1, g2, g3⟩ := fA_4 hG
  clear hG
  obtain ⟨x0, rfl, b0, d0⟩ := fG_ref (by decide) g0
  obtain ⟨x1, rfl, b1, d1⟩ := aG_int g1
  dsimp only at b1 d1
  obtain ⟨x2, rfl, b2, d2⟩ := aG_int g2
  dsimp only at b2 d2
  obtain ⟨x3, rfl, b3, d3⟩ := aG_int g3
  dsimp only at b3 d3
  obtain ⟨m1, m2, m3, m4⟩ := hM
  have l0 : 0 ≤ (1 * x2.toInt + 0) + -1 := by
    obtain ⟨z, e6, e7⟩ := m3 ([(2, 1)], -1) (List.mem_of_getElem? (i := 0) rfl)
    obtain rfl : (1 * x2.toInt + 0) = z := Option.some.inj (show some (1 * x2.toInt + 0) = some z from e6)
    exact e7
  have f0 : fB K n p 106 [fR x0, fI x1, fI x2, fI x3] σ := by
    obtain ⟨w, e6, e7⟩ := m4 (1700, [0, 1, 2, 3]) (List.mem_of_getElem? (i := 0) rfl)
    obtain rfl : [fR x0, fI x1, fI x2, fI x3] = w := Option.some.inj (show some [fR x0, fI x1, fI x2, fI x3] = some w from e6)
    exact (fF_b (r := 1700) (by decide) rfl).mp e7
  clear m1 m2 m3 m4
  obtain ⟨a6, h6, c6, i6, N6, pa6, fi6, af6, L, e6, w6, y6, z6, u6, n6a, n6b, L1, L2, L3, i6a, L4⟩ := f0
  cases e6
  obtain ⟨-, c, hc, ec⟩ := fCn_drop L4 (fun c hc => (L3 c hc).1) (by omega) rfl
  obtain ⟨y1, y2, y3⟩ := L3 c hc
  have q0 : fB K n (p) 104 [fR x0, fI x2, fI x1] σ := by
    exact ⟨_, _, _, N6, pa6, rfl, w6, u6, by omega, by omega, by rw [ec]; simpa using y3⟩
  exact ⟨p, fun _ => rfl, ⟨(fun q h => by cases h), fun q h => (by cases h), (fun f h => by cases h), (aAllc ⟨_, rfl, (fF_b (r := 1667) (by decide) rfl).mpr q0⟩ (fun f h => by cases h))⟩, [], List.mem_cons_self, fun f h => (by cases h)⟩
set_option maxRecDepth 8192 in
theorem rw_ruC0 {K : Nat → Nat} {n : Nat} : aGho (fF K n) fa_T K n (fJX K n) ag_ruC0 := by
  refine aGho_of ⟨rfl, rfl⟩ ?_
  intro p σ ρ hH hX hA hM
  have hG := aAG_of hA.1 (fun i e v he hv => (hA.2 i e v he hv).1)
  clear hA
  obtain ⟨v0, v1, v2, v3, rfl, g0, g1, g2, g3⟩ := fA_4 hG
  clear hG
  obtain ⟨x0, rfl, b0, d0⟩ := fG_ref (by decide) g0
  obtain ⟨x1, rfl, b1, d1⟩ := aG_int g1
  dsimp only at b1 d1
  obtain ⟨x2, rfl, b2, d2⟩ := aG_int g2
  dsimp only at b2 d2
  obtain ⟨x3, rfl, b3, d3⟩ := aG_int g3
  dsimp only at b3 d3
  obtain ⟨m1, m2, m3, m4⟩ := hM
  have l0 : 0 ≤ (-1 * x1.toInt + 0) + 0 := by
    obtain ⟨z, e6, e7⟩ := m3 ([(1, -1)], 0) (List.mem_of_getElem? (i := 0) rfl)
    obtain rfl : (-1 * x1.toInt + 0) = z := Option.some.inj (show some (-1 * x1.toInt + 0) = some z from e6)
    exact e7
  clear m1 m2 m3 m4
  have q0 : fB K n (p) 109 [fR x0, fI x1, fI x2, fI x3] σ := by
    exact ⟨_, _, _, _, rfl, Or.inl (by omega)⟩
  exact ⟨p, fun _ => rfl, ⟨(fun q h => by cases h), fun q h => (by cases h), (fun f h => by cases h), (aAllc ⟨_, rfl, (fF_b (r := 1748) (by decide) rfl).mpr q0⟩ (fun f h => by cases h))⟩, [], List.mem_cons_self, fun f h => (by cases h)⟩
set_option maxRecDepth 8192 in
theorem rw_ruMVc {K : Nat → Nat} {n : Nat} : aGho (fF K n) fa_T K n (fJX K n) ag_ruMVc := by
  refine aGho_of ⟨rfl, rfl⟩ ?_
  intro p σ ρ hH hX hA hM
  have hG := aAG_of hA.1 (fun i e v he hv => (hA.2 i e v he hv).1)
  clear hA
  obtain ⟨v0, v1, v2, v3, rfl, g0, g1, g2, g3⟩ := fA_4 hG
  clear hG
  obtain ⟨x0, rfl, b0, d0⟩ := fG_ref (by decide) g0
  obtain ⟨x1, rfl, b1, d1⟩ := aG_int g1
  dsimp only at b1 d1
  obtain ⟨x2, rfl, b2, d2⟩ := aG_int g2
  dsimp only at b2 d2
  obtain ⟨x3, rfl, b3, d3⟩ := fG_ref (by decide) g3
  obtain ⟨m1, m2, m3, m4⟩ := hM
  obtain ⟨a0, c0, fs0, w0, e1, s0, t0, e4⟩ := m1 (0, 4, 3) (List.mem_of_getElem? (i := 0) rfl)
  obtain rfl : x0 = a0 := Sum.inl.inj (Option.some.inj (Sum.inr.inj (Sum.inr.inj (Option.some.inj (show some (fR x0) = some _ from e1)))))
  obtain rfl : fR x3 = w0 := Option.some.inj (show some (fR x3) = some w0 from e4)
  clear e1 e4
  obtain ⟨a, mc0, ty0, gc0, ic0, e1, sc0, jc0, e4, e5⟩ := m2 (3, ([(1, 1)], 0), 2) (List.mem_of_getElem? (i := 0) rfl)
  obtain rfl : x3 = a := Sum.inl.inj (Option.some.inj (Sum.inr.inj (Sum.inr.inj (Option.some.inj (show some (fR x3) = some _ from e1)))))
  obtain ⟨gc0, rfl⟩ : ∃ g, gc0 = .inl g := by
    rcases gc0 with g | g
    · exact ⟨g, rfl⟩
    · exact absurd (show some (fI x2) = some (.inr (.inl (g ic0))) from e5) (fun h => by cases h)
  have sc0 : σ x3 = .inl (ty0, mc0, .inl gc0) := sc0
  have ec0 : x2 = gc0 ic0 := Sum.inl.inj (Option.some.inj (show some (fI x2) = some _ from e5))
  have kc0 : (ic0 : Int) = (1 * x1.toInt + 0) + 0 := by
    obtain ⟨z, e6, e7⟩ := e4
    obtain rfl : (1 * x1.toInt + 0) = z := Option.some.inj (show some (1 * x1.toInt + 0) = some z from e6)
    exact e7
  clear e1 e4 e5
  obtain rfl : ic0 = x1.toInt.toNat := by omega
  clear m1 m2 m3 m4
  obtain ⟨mvg, w5, e5⟩ := fRo_mk hH b0 d0 s0 t0 b3 d3 (q := ((0, 32767), [])) rfl
  rw [sc0] at e5
  cases e5
  have q0 : fB K n (p) 110 [fR x0, fI x1, fI x2] σ := by
    exact ⟨_, _, _, gc0, rfl, w5, ec0.symm⟩
  exact ⟨p, fun _ => rfl, ⟨(fun q h => by cases h), fun q h => (by cases h), (fun f h => by cases h), (aAllc ⟨_, rfl, (fF_b (r := 1763) (by decide) rfl).mpr q0⟩ (fun f h => by cases h))⟩, [], List.mem_cons_self, fun f h => (by cases h)⟩
set_option maxRecDepth 8192 in
theorem rw_ruCm {K : Nat → Nat} {n : Nat} : aGho (fF K n) fa_T K n (fJX K n) ag_ruCm := by
  refine aGho_of ⟨rfl, rfl⟩ ?_
  intro p σ ρ hH hX hA hM
  have hG := aAG_of hA.1 (fun i e v he hv => (hA.2 i e v he hv).1)
  clear hA
  obtain ⟨v0, v1, v2, v3, v4, v5, rfl, g0, g1, g2, g3, g4, g5⟩ := fA_6 hG
  clear hG
  obtain ⟨x0, rfl, b0, d0⟩ := fG_ref (by decide) g0
  obtain ⟨x1, rfl, b1, d1⟩ := aG_int g1
  dsimp only at b1 d1
  obtain ⟨x2, rfl, b2, d2⟩ := aG_int g2
  dsimp only at b2 d2
  obtain ⟨x3, rfl, b3, d3⟩ := aG_int g3
  dsimp only at b3 d3
  obtain ⟨x4, rfl, b4, d4⟩ := aG_int g4
  dsimp only at b4 d4
  obtain ⟨x5, rfl, b5, d5⟩ := aG_int g5
  dsimp only at b5 d5
  obtain ⟨m1, m2, m3, m4⟩ := hM
  have l0 : 0 ≤ (1 * x2.toInt + 0) + -1 := by
    obtain ⟨z, e6, e7⟩ := m3 ([(2, 1)], -1) (List.mem_of_getElem? (i := 0) rfl)
    obtain rfl : (1 * x2.toInt + 0) = z := Option.some.inj (show some (1 * x2.toInt + 0) = some z from e6)
    exact e7
  have l1 : 0 ≤ (1 * x4.toInt + (-1 * x5.toInt + 0)) + 0 := by
    obtain ⟨z, e6, e7⟩ := m3 ([(4, 1), (5, -1)], 0) (List.mem_of_getElem? (i := 1) rfl)
    obtain rfl : (1 * x4.toInt + (-1 * x5.toInt + 0)) = z := Option.some.inj (show some (1 * x4.toInt + (-1 * x5.toInt + 0)) = some z from e6)
    exact e7
  have l2 : 0 ≤ (-1 * x4.toInt + (1 * x5.toInt + 0)) + 0 := by
    obtain ⟨z, e6, e7⟩ := m3 ([(4, -1), (5, 1)], 0) (List.mem_of_getElem? (i := 2) rfl)
    obtain rfl : (-1 * x4.toInt + (1 * x5.toInt + 0)) = z := Option.some.inj (show some (-1 * x4.toInt + (1 * x5.toInt + 0)) = some z from e6)
    exact e7
  have f0 : fB K n p 106 [fR x0, fI x1, fI x2, fI x3] σ := by
    obtain ⟨w, e6, e7⟩ := m4 (1700, [0, 1, 2, 3]) (List.mem_of_getElem? (i := 0) rfl)
    obtain rfl : [fR x0, fI x1, fI x2, fI x3] = w := Option.some.inj (show some [fR x0, fI x1, fI x2, fI x3] = some w from e6)
    exact (fF_b (r := 1700) (by decide) rfl).mp e7
  have f1 : fB K n p 110 [fR x0, fI x2, fI x4] σ := by
    obtain ⟨w, e6, e7⟩ := m4 (1763, [0, 2, 4]) (List.mem_of_getElem? (i := 1) rfl)
    obtain rfl : [fR x0, fI x2, fI x4] = w := Option.some.inj (show some [fR x0, fI x2, fI x4] = some w from e6)
    exact (fF_b (r := 1763) (by decide) rfl).mp e7
  clear m1 m2 m3 m4
  obtain ⟨a6, h6, c6, i6, N6, pa6, fi6, af6, L, e6, w6, y6, z6, u6, n6a, n6b, L1, L2, L3, i6a, L4⟩ := f0
  cases e6
  obtain ⟨a7, c7, m7, mv7, e7, w7, k7⟩ := f1
  cases e7
  obtain ⟨-, c, hc, ec⟩ := fCn_drop L4 (fun c hc => (L3 c hc).1) (by omega) rfl
  obtain ⟨y1, y2, y3⟩ := L3 c hc
  obtain rfl : x5 = x4 := fI0 (by omega)
  have q0 : fB K n (p) 109 [fR x0, fI x2, fI x1, fI x5] σ := by
    exact ⟨_, _, _, _, rfl, Or.inr ⟨N6, pa6, mv7, w6, u6, w7, by omega, by omega, by rw [ec]; simpa using y3, k7⟩⟩
  exact ⟨p, fun _ => rfl, ⟨(fun q h => by cases h), fun q h => (by cases h), (fun f h => by cases h), (aAllc ⟨_, rfl, (fF_b (r := 1748) (by decide) rfl).mpr q0⟩ (fun f h => by cases h))⟩, [], List.mem_cons_self, fun f h => (by cases h)⟩
set_option maxRecDepth 8192 in
theorem rw_ruCMn {K : Nat → Nat} {n : Nat} : aGho (fF K n) fa_T K n (fJX K n) ag_ruCMn := by
  refine aGho_of ⟨rfl, rfl⟩ ?_
  intro p σ ρ hH hX hA hM
  have hG := aAG_of hA.1 (fun i e v he hv => (hA.2 i e v he hv).1)
  clear hA
  obtain ⟨v0, v1, v2, v3, rfl, g0, g1, g2, g3⟩ := fA_4 hG
  clear hG
  obtain ⟨x0, rfl, b0, d0⟩ := fG_ref (by decide) g0
  obtain ⟨x1, rfl, b1, d1⟩ := aG_int g1
  dsimp only at b1 d1
  obtain ⟨x2, rfl, b2, d2⟩ := aG_int g2
  dsimp only at b2 d2
  obtain ⟨x3, rfl, b3, d3⟩ := aG_int g3
  dsimp only at b3 d3
  obtain ⟨m1, m2, m3, m4⟩ := hM
  have l0 : 0 ≤ (1 * x1.toInt + 0) + -1 := by
    obtain ⟨z, e6, e7⟩ := m3 ([(1, 1)], -1) (List.mem_of_getElem? (i := 0) rfl)
    obtain rfl : (1 * x1.toInt + 0) = z := Option.some.inj (show some (1 * x1.toInt + 0) = some z from e6)
    exact e7
  have f0 : fB K n p 109 [fR x0, fI x1, fI x2, fI x3] σ := by
    obtain ⟨w, e6, e7⟩ := m4 (1748, [0, 1, 2, 3]) (List.mem_of_getElem? (i := 0) rfl)
    obtain rfl : [fR x0, fI x1, fI x2, fI x3] = w := Option.some.inj (show some [fR x0, fI x1, fI x2, fI x3] = some w from e6)
    exact (fF_b (r := 1748) (by decide) rfl).mp e7
  clear m1 m2 m3 m4
  obtain ⟨a7, c7, h7, m7, e7, k7⟩ := f0
  cases e7
  obtain ⟨N7, pa7, mv7, w7, u7, z7, l7a, l7b, p7, q7⟩ := k7.resolve_left (by omega)
  have q0 : fB K n (p) 105 [fR x0, fI x1, fI x2, fI x3] σ := by
    exact ⟨_, _, _, _, N7, pa7, mv7, rfl, w7, u7, z7, l7a, l7b, p7, q7⟩
  exact ⟨p, fun _ => rfl, ⟨(fun q h => by cases h), fun q h => (by cases h), (fun f h => by cases h), (aAllc ⟨_, rfl, (fF_b (r := 1684) (by decide) rfl).mpr q0⟩ (fun f h => by cases h))⟩, [], List.mem_cons_self, fun f h => (by cases h)⟩
set_option maxRecDepth 8192 in
theorem rw_ruPC0 {K : Nat → Nat} {n : Nat} : aGho (fF K n) fa_T K n (fJX K n) ag_ruPC0 := by
  refine aGho_of ⟨rfl, rfl⟩ ?_
  intro p σ ρ hH hX hA hM
  have hG := aAG_of hA.1 (fun i e v he hv => (hA.2 i e v he hv).1)
  clear hA
  obtain ⟨v0, v1, v2, v3, v4, v5, rfl, g0, g1, g2, g3, g4, g5⟩ := fA_6 hG
  clear hG
  obtain ⟨x0, rfl, b0, d0⟩ := fG_ref (by decide) g0
  obtain ⟨x1, rfl, b1, d1⟩ := aG_int g1
  dsimp only at b1 d1
  obtain ⟨x2, rfl, b2, d2⟩ := aG_int g2
  dsimp only at b2 d2
  obtain ⟨x3, rfl, b3, d3⟩ := aG_int g3
  dsimp only at b3 d3
  obtain ⟨x4, rfl, b4, d4⟩ := fG_ref (by decide) g4
  obtain ⟨x5, rfl, b5, d5⟩ := fG_ref (by decide) g5
  obtain ⟨m1, m2, m3, m4⟩ := hM
  obtain ⟨a0, c0, fs0, w0, e1, s0, t0, e4⟩ := m1 (0, 1, 3) (List.mem_of_getElem? (i := 0) rfl)
  obtain rfl : x0 = a0 := Sum.inl.inj (Option.some.inj (Sum.inr.inj (Sum.inr.inj (Option.some.inj (show some (fR x0) = some _ from e1)))))
  obtain rfl : fI x3 = w0 := Option.some.inj (show some (fI x3) = some w0 from e4)
  clear e1 e4
  obtain ⟨a1, c1, fs1, w1, e1, s1, t1, e4⟩ := m1 (0, 3, 4) (List.mem_of_getElem? (i := 1) rfl)
  obtain rfl : x0 = a1 := Sum.inl.inj (Option.some.inj (Sum.inr.inj (Sum.inr.inj (Option.some.inj (show some (fR x0) = some _ from e1)))))
  obtain rfl : fR x4 = w1 := Option.some.inj (show some (fR x4) = some w1 from e4)
  clear e1 e4
  obtain ⟨a2, c2, fs2, w2, e1, s2, t2, e4⟩ := m1 (0, 12, 5) (List.mem_of_getElem? (i := 2) rfl)
  obtain rfl : x0 = a2 := Sum.inl.inj (Option.some.inj (Sum.inr.inj (Sum.inr.inj (Option.some.inj (show some (fR x0) = some _ from e1)))))
  obtain rfl : fR x5 = w2 := Option.some.inj (show some (fR x5) = some w2 from e4)
  clear e1 e4
  have l0 : 0 ≤ (1 * x3.toInt + (-1 * x2.toInt + 0)) + 0 := by
    obtain ⟨z, e6, e7⟩ := m3 ([(3, 1), (2, -1)], 0) (List.mem_of_getElem? (i := 0) rfl)
    obtain rfl : (1 * x3.toInt + (-1 * x2.toInt + 0)) = z := Option.some.inj (show some (1 * x3.toInt + (-1 * x2.toInt + 0)) = some z from e6)
    exact e7
  clear m1 m2 m3 m4
  obtain ⟨pa, wp, -⟩ := fRo_mk hH b0 d0 s1 t1 b4 d4 (q := ((0, 300), [])) rfl
  obtain ⟨pt, wt, hpt⟩ := fRo_mk hH b0 d0 s2 t2 b5 d5 (q := ((-2147483648, 2147483647), [])) rfl
  have q0 : fB K n (p) 102 [fR x0, fI x1, fI x2] σ := by
    exact ⟨_, _, _, x3, pa, pt, rfl, ⟨wp, wt, fFi_mk hH b0 d0 s0 t0⟩, fun j hj => by omega, fun j hj => by omega, fun h => by omega, by omega⟩
  exact ⟨p, fun _ => rfl, ⟨(fun q h => by cases h), fun q h => (by cases h), (fun f h => by cases h), (aAllc ⟨_, rfl, (fF_b (r := 1635) (by decide) rfl).mpr q0⟩ (fun f h => by cases h))⟩, [], List.mem_cons_self, fun f h => (by cases h)⟩
set_option maxRecDepth 8192 in
theorem rw_ruPCs {K : Nat → Nat} {n : Nat} : aGho (fF K n) fa_T K n (fJX K n) ag_ruPCs := by
  refine aGho_of ⟨rfl, rfl⟩ ?_
  intro p σ ρ hH hX hA hM
  have hG := aAG_of hA.1 (fun i e v he hv => (hA.2 i e v he hv).1)
  clear hA
  obtain ⟨v0, v1, v2, v3, rfl, g0, g1, g2, g3⟩ := fA_4 hG
  clear hG
  obtain ⟨x0, rfl, b0, d0⟩ := fG_ref (by decide) g0
  obtain ⟨x1, rfl, b1, d1⟩ := aG_int g1
  dsimp only at b1 d1
  obtain ⟨x2, rfl, b2, d2⟩ := aG_int g2
  dsimp only at b2 d2
  obtain ⟨x3, rfl, b3, d3⟩ := fG_ref (by decide) g3
  obtain ⟨m1, m2, m3, m4⟩ := hM
  obtain ⟨a0, c0, fs0, w0, e1, s0, t0, e4⟩ := m1 (0, 12, 3) (List.mem_of_getElem? (i := 0) rfl)
  obtain rfl : x0 = a0 := Sum.inl.inj (Option.some.inj (Sum.inr.inj (Sum.inr.inj (Option.some.inj (show some (fR x0) = some _ from e1)))))
  obtain rfl : fR x3 = w0 := Option.some.inj (show some (fR x3) = some w0 from e4)
  clear e1 e4
  have l0 : 0 ≤ (1 * x2.toInt + 0) + -1 := by
    obtain ⟨z, e6, e7⟩ := m3 ([(2, 1)], -1) (List.mem_of_getElem? (i := 0) rfl)
    obtain rfl : (1 * x2.toInt + 0) = z := Option.some.inj (show some (1 * x2.toInt + 0) = some z from e6)
    exact e7
  have f0 : fB K n p 102 [fR x0, fI x1, fI x2] σ := by
    obtain ⟨w, e6, e7⟩ := m4 (1635, [0, 1, 2]) (List.mem_of_getElem? (i := 0) rfl)
    obtain rfl : [fR x0, fI x1, fI x2] = w := Option.some.inj (show some [fR x0, fI x1, fI x2] = some w from e6)
    exact (fF_b (r := 1635) (by decide) rfl).mp e7
  clear m1 m2 m3 m4
  obtain ⟨a, l, x, N, pa, pt, e, ⟨wp, wt, un⟩, y1, y2, y3, y4⟩ := f0
  cases e
  have q0 : fB K n (p) 108 [fR x0, fI x1] (jup σ x3 (jsto (σ x3) x1.toNatClampNeg x2)) := by
    have hg : ¬ K x3 = 25 := by rw [d3]; decide
    have hk : ¬ K x3 = 38 := by rw [d3]; decide
    refine ⟨_, _, N, pa, upd pt x1.toInt.toNat x2, rfl, ⟨fRo_ne wp hg hk, fRo_st wt s0 t0 (by decide), fFi_ne un hg⟩, fun j hj => ?_, fun j hj => ?_⟩
    · unfold upd
      split
      · omega
      · exact y1 j (by omega)
    · have h1 : ¬ j = x1.toInt.toNat := by omega
      unfold upd
      rw [if_neg h1]
      split
      next e => rw [← y3 (by omega), show x1.toInt.toNat - 1 = j by omega]
      next => exact y2 j (by omega)
  exact ⟨p, fun _ => rfl, ⟨(fun q h => by cases h), fun q h => (by cases h), (fun f h => by cases h), (aAllc ⟨_, rfl, fF_p (r := 1730) (by decide) (by decide) rfl q0⟩ (fun f h => by cases h))⟩, [], List.mem_cons_self, fun f h => (by cases h)⟩
set_option maxRecDepth 8192 in
theorem rw_ruPC2 {K : Nat → Nat} {n : Nat} : aGho (fF K n) fa_T K n (fJX K n) ag_ruPC2 := by
  refine aGho_of ⟨rfl, rfl⟩ ?_
  intro p σ ρ hH hX hA hM
  have hG := aAG_of hA.1 (fun i e v he hv => (hA.2 i e v he hv).1)
  clear hA
  obtain ⟨v0, v1, v2, v3, v4, v5, v6, rfl, g0, g1, g2, g3, g4, g5, g6⟩ := fA_7 hG
  clear hG
  obtain ⟨x0, rfl, b0, d0⟩ := fG_ref (by decide) g0
  obtain ⟨x1, rfl, b1, d1⟩ := aG_int g1
  dsimp only at b1 d1
  obtain ⟨x2, rfl, b2, d2⟩ := aG_int g2
  dsimp only at b2 d2
  obtain ⟨x3, rfl, b3, d3⟩ := aG_int g3
  dsimp only at b3 d3
  obtain ⟨x4, rfl, b4, d4⟩ := aG_int g4
  dsimp only at b4 d4
  obtain ⟨x5, rfl, b5, d5⟩ := fG_ref (by decide) g5
  obtain ⟨x6, rfl, b6, d6⟩ := fG_ref (by decide) g6
  obtain ⟨m1, m2, m3, m4⟩ := hM
  obtain ⟨a0, c0, fs0, w0, e1, s0, t0, e4⟩ := m1 (0, 3, 5) (List.mem_of_getElem? (i := 0) rfl)
  obtain rfl : x0 = a0 := Sum.inl.inj (Option.some.inj (Sum.inr.inj (Sum.inr.inj (Option.some.inj (show some (fR x0) = some _ from e1)))))
  obtain rfl : fR x5 = w0 := Option.some.inj (show some (fR x5) = some w0 from e4)
  clear e1 e4
  obtain ⟨a1, c1, fs1, w1, e1, s1, t1, e4⟩ := m1 (0, 12, 6) (List.mem_of_getElem? (i := 1) rfl)
  obtain rfl : x0 = a1 := Sum.inl.inj (Option.some.inj (Sum.inr.inj (Sum.inr.inj (Option.some.inj (show some (fR x0) = some _ from e1)))))
  obtain rfl : fR x6 = w1 := Option.some.inj (show some (fR x6) = some w1 from e4)
  clear e1 e4
  obtain ⟨a, mc0, ty0, gc0, ic0, e1, sc0, jc0, e4, e5⟩ := m2 (5, ([(3, 1)], 0), 4) (List.mem_of_getElem? (i := 0) rfl)
  obtain rfl : x5 = a := Sum.inl.inj (Option.some.inj (Sum.inr.inj (Sum.inr.inj (Option.some.inj (show some (fR x5) = some _ from e1)))))
  obtain ⟨gc0, rfl⟩ : ∃ g, gc0 = .inl g := by
    rcases gc0 with g | g
    · exact ⟨g, rfl⟩
    · exact absurd (show some (fI x4) = some (.inr (.inl (g ic0))) from e5) (fun h => by cases h)
  have sc0 : σ x5 = .inl (ty0, mc0, .inl gc0) := sc0
  have ec0 : x4 = gc0 ic0 := Sum.inl.inj (Option.some.inj (show some (fI x4) = some _ from e5))
  have kc0 : (ic0 : Int) = (1 * x3.toInt + 0) + 0 := by
    obtain ⟨z, e6, e7⟩ := e4
    obtain rfl : (1 * x3.toInt + 0) = z := Option.some.inj (show some (1 * x3.toInt + 0) = some z from e6)
    exact e7
  clear e1 e4 e5
  obtain rfl : ic0 = x3.toInt.toNat := by omega
  obtain ⟨a, mc1, ty1, gc1, ic1, e1, sc1, jc1, e4, e5⟩ := m2 (6, ([(1, 1)], 0), 3) (List.mem_of_getElem? (i := 1) rfl)
  obtain rfl : x6 = a := Sum.inl.inj (Option.some.inj (Sum.inr.inj (Sum.inr.inj (Option.some.inj (show some (fR x6) = some _ from e1)))))
  obtain ⟨gc1, rfl⟩ : ∃ g, gc1 = .inl g := by
    rcases gc1 with g | g
    · exact ⟨g, rfl⟩
    · exact absurd (show some (fI x3) = some (.inr (.inl (g ic1))) from e5) (fun h => by cases h)
  have sc1 : σ x6 = .inl (ty1, mc1, .inl gc1) := sc1
  have ec1 : x3 = gc1 ic1 := Sum.inl.inj (Option.some.inj (show some (fI x3) = some _ from e5))
  have kc1 : (ic1 : Int) = (1 * x1.toInt + 0) + 0 := by
    obtain ⟨z, e6, e7⟩ := e4
    obtain rfl : (1 * x1.toInt + 0) = z := Option.some.inj (show some (1 * x1.toInt + 0) = some z from e6)
    exact e7
  clear e1 e4 e5
  obtain rfl : ic1 = x1.toInt.toNat := by omega
  have l0 : 0 ≤ (1 * x3.toInt + 0) + -1 := by
    obtain ⟨z, e6, e7⟩ := m3 ([(3, 1)], -1) (List.mem_of_getElem? (i := 0) rfl)
    obtain rfl : (1 * x3.toInt + 0) = z := Option.some.inj (show some (1 * x3.toInt + 0) = some z from e6)
    exact e7
  have l1 : 0 ≤ (1 * x2.toInt + (-1 * x1.toInt + 0)) + -1 := by
    obtain ⟨z, e6, e7⟩ := m3 ([(2, 1), (1, -1)], -1) (List.mem_of_getElem? (i := 1) rfl)
    obtain rfl : (1 * x2.toInt + (-1 * x1.toInt + 0)) = z := Option.some.inj (show some (1 * x2.toInt + (-1 * x1.toInt + 0)) = some z from e6)
    exact e7
  have l2 : 0 ≤ (-1 * x2.toInt + (1 * x1.toInt + 0)) + 1 := by
    obtain ⟨z, e6, e7⟩ := m3 ([(2, -1), (1, 1)], 1) (List.mem_of_getElem? (i := 2) rfl)
    obtain rfl : (-1 * x2.toInt + (1 * x1.toInt + 0)) = z := Option.some.inj (show some (-1 * x2.toInt + (1 * x1.toInt + 0)) = some z from e6)
    exact e7
  have f0 : fB K n p 108 [fR x0, fI x1] σ := by
    obtain ⟨w, e6, e7⟩ := m4 (1730, [0, 1]) (List.mem_of_getElem? (i := 0) rfl)
    obtain rfl : [fR x0, fI x1] = w := Option.some.inj (show some [fR x0, fI x1] = some w from e6)
    exact (fF_b (r := 1730) (by decide) rfl).mp e7
  have f1 : fB K n p 100 [fR x0] σ := by
    obtain ⟨w, e6, e7⟩ := m4 (1601, [0]) (List.mem_of_getElem? (i := 1) rfl)
    obtain rfl : [fR x0] = w := Option.some.inj (show some [fR x0] = some w from e6)
    exact (fF_b (r := 1601) (by decide) rfl).mp e7
  clear m1 m2 m3 m4
  obtain ⟨a, l, N, pa, pt, e, ⟨wp, wt, un⟩, y1, y2⟩ := f0
  cases e
  obtain ⟨a7, b7, h7, N7, t7, q7, e7, w7, u7, v7, -, -, n7, H7, -⟩ := f1
  cases e7
  obtain rfl := fRo_c wp s0 t0 sc0
  obtain rfl := fRo_c wt s1 t1 sc1
  obtain rfl := fRo_u wp w7.1
  have eN : N7 = N := by obtain ⟨_, _, fs9, hs9, ht9⟩ := un; exact (fFi_i v7 hs9 ht9).symm
  subst eN
  have hx := y1 x1.toInt.toNat (by omega)
  rw [← ec1] at hx
  have hp := fTk_pa H7 (k := x3.toInt.toNat) (by omega) (by omega)
  rw [← ec0] at hp
  have r0 : 0 ≤ (1 * x3.toInt + (-1 * x4.toInt + 0)) + -1 := by
    omega
  have q0 : fB K n (p) 102 [fR x0, fI x2, fI x4] σ := by
    refine ⟨_, _, _, N7, _, _, rfl, ⟨wp, wt, un⟩, fun j hj => y1 j (by omega), fun j hj => y2 j (by omega), fun _ => ?_, by omega⟩
    rw [show x2.toInt.toNat - 1 = x1.toInt.toNat by omega, ← ec1, ← ec0]
  exact ⟨p, fun _ => rfl, ⟨(fun q h => by cases h), fun q h => (by cases h), (aAllc ⟨_, rfl, r0⟩ (fun f h => by cases h)), (aAllc ⟨_, rfl, (fF_b (r := 1635) (by decide) rfl).mpr q0⟩ (fun f h => by cases h))⟩, [], List.mem_cons_self, fun f h => (by cases h)⟩
set_option maxRecDepth 8192 in
theorem rw_ruPD0 {K : Nat → Nat} {n : Nat} : aGho (fF K n) fa_T K n (fJX K n) ag_ruPD0 := by
  refine aGho_of ⟨rfl, rfl⟩ ?_
  intro p σ ρ hH hX hA hM
  have hG := aAG_of hA.1 (fun i e v he hv => (hA.2 i e v he hv).1)
  clear hA
  obtain ⟨v0, v1, v2, v3, v4, rfl, g0, g1, g2, g3, g4⟩ := fA_5 hG
  clear hG
  obtain ⟨x0, rfl, b0, d0⟩ := fG_ref (by decide) g0
  obtain ⟨x1, rfl, b1, d1⟩ := aG_int g1
  dsimp only at b1 d1
  obtain ⟨x2, rfl, b2, d2⟩ := aG_int g2
  dsimp only at b2 d2
  obtain ⟨x3, rfl, b3, d3⟩ := aG_int g3
  dsimp only at b3 d3
  obtain ⟨x4, rfl, b4, d4⟩ := aG_int g4
  dsimp only at b4 d4
  obtain ⟨m1, m2, m3, m4⟩ := hM
  have l0 : 0 ≤ (-1 * x2.toInt + 0) + 0 := by
    obtain ⟨z, e6, e7⟩ := m3 ([(2, -1)], 0) (List.mem_of_getElem? (i := 0) rfl)
    obtain rfl : (-1 * x2.toInt + 0) = z := Option.some.inj (show some (-1 * x2.toInt + 0) = some z from e6)
    exact e7
  have l1 : 0 ≤ (-1 * x4.toInt + 0) + 0 := by
    obtain ⟨z, e6, e7⟩ := m3 ([(4, -1)], 0) (List.mem_of_getElem? (i := 1) rfl)
    obtain rfl : (-1 * x4.toInt + 0) = z := Option.some.inj (show some (-1 * x4.toInt + 0) = some z from e6)
    exact e7
  have l2 : 0 ≤ (1 * x3.toInt + (-1 * x1.toInt + 0)) + 1 := by
    obtain ⟨z, e6, e7⟩ := m3 ([(3, 1), (1, -1)], 1) (List.mem_of_getElem? (i := 2) rfl)
    obtain rfl : (1 * x3.toInt + (-1 * x1.toInt + 0)) = z := Option.some.inj (show some (1 * x3.toInt + (-1 * x1.toInt + 0)) = some z from e6)
    exact e7
  have l3 : 0 ≤ (-1 * x3.toInt + (1 * x1.toInt + 0)) + -1 := by
    obtain ⟨z, e6, e7⟩ := m3 ([(3, -1), (1, 1)], -1) (List.mem_of_getElem? (i := 3) rfl)
    obtain rfl : (-1 * x3.toInt + (1 * x1.toInt + 0)) = z := Option.some.inj (show some (-1 * x3.toInt + (1 * x1.toInt + 0)) = some z from e6)
    exact e7
  have f0 : fB K n p 102 [fR x0, fI x1, fI x2] σ := by
    obtain ⟨w, e6, e7⟩ := m4 (1635, [0, 1, 2]) (List.mem_of_getElem? (i := 0) rfl)
    obtain rfl : [fR x0, fI x1, fI x2] = w := Option.some.inj (show some [fR x0, fI x1, fI x2] = some w from e6)
    exact (fF_b (r := 1635) (by decide) rfl).mp e7
  clear m1 m2 m3 m4
  obtain ⟨a, l, x, N, pa, pt, e, ⟨wp, wt, un⟩, y1, y2, y3, y4⟩ := f0
  cases e
  obtain rfl : x4 = x2 := fI0 (by omega)
  have q0 : fB K n (p) 103 [fR x0, fI x3, fI x4] σ := by
    refine ⟨_, _, _, N, pa, pt, rfl, ⟨wp, wt, un⟩, fun j hj => y1 j (by omega), fun j hj => y2 j (by omega), fun h => ?_⟩
    rw [show x3.toInt.toNat = x1.toInt.toNat - 1 by omega]
    exact y3 (by omega)
  exact ⟨p, fun _ => rfl, ⟨(fun q h => by cases h), fun q h => (by cases h), (fun f h => by cases h), (aAllc ⟨_, rfl, (fF_b (r := 1651) (by decide) rfl).mpr q0⟩ (fun f h => by cases h))⟩, [], List.mem_cons_self, fun f h => (by cases h)⟩
set_option maxRecDepth 8192 in
theorem rw_ruPDc {K : Nat → Nat} {n : Nat} : aGho (fF K n) fa_T K n (fJX K n) ag_ruPDc := by
  refine aGho_of ⟨rfl, rfl⟩ ?_
  intro p σ ρ hH hX hA hM
  have hG := aAG_of hA.1 (fun i e v he hv => (hA.2 i e v he hv).1)
  clear hA
  obtain ⟨v0, v1, v2, v3, v4, v5, rfl, g0, g1, g2, g3, g4, g5⟩ := fA_6 hG
  clear hG
  obtain ⟨x0, rfl, b0, d0⟩ := fG_ref (by decide) g0
  obtain ⟨x1, rfl, b1, d1⟩ := aG_int g1
  dsimp only at b1 d1
  obtain ⟨x2, rfl, b2, d2⟩ := aG_int g2
  dsimp only at b2 d2
  obtain ⟨x3, rfl, b3, d3⟩ := aG_int g3
  dsimp only at b3 d3
  obtain ⟨x4, rfl, b4, d4⟩ := aG_int g4
  dsimp only at b4 d4
  obtain ⟨x5, rfl, b5, d5⟩ := fG_ref (by decide) g5
  obtain ⟨m1, m2, m3, m4⟩ := hM
  obtain ⟨a0, c0, fs0, w0, e1, s0, t0, e4⟩ := m1 (0, 1, 4) (List.mem_of_getElem? (i := 0) rfl)
  obtain rfl : x0 = a0 := Sum.inl.inj (Option.some.inj (Sum.inr.inj (Sum.inr.inj (Option.some.inj (show some (fR x0) = some _ from e1)))))
  obtain rfl : fI x4 = w0 := Option.some.inj (show some (fI x4) = some w0 from e4)
  clear e1 e4
  obtain ⟨a1, c1, fs1, w1, e1, s1, t1, e4⟩ := m1 (0, 12, 5) (List.mem_of_getElem? (i := 1) rfl)
  obtain rfl : x0 = a1 := Sum.inl.inj (Option.some.inj (Sum.inr.inj (Sum.inr.inj (Option.some.inj (show some (fR x0) = some _ from e1)))))
  obtain rfl : fR x5 = w1 := Option.some.inj (show some (fR x5) = some w1 from e4)
  clear e1 e4
  obtain ⟨a, mc0, ty0, gc0, ic0, e1, sc0, jc0, e4, e5⟩ := m2 (5, ([(1, 1)], 0), 3) (List.mem_of_getElem? (i := 0) rfl)
  obtain rfl : x5 = a := Sum.inl.inj (Option.some.inj (Sum.inr.inj (Sum.inr.inj (Option.some.inj (show some (fR x5) = some _ from e1)))))
  obtain ⟨gc0, rfl⟩ : ∃ g, gc0 = .inl g := by
    rcases gc0 with g | g
    · exact ⟨g, rfl⟩
    · exact absurd (show some (fI x3) = some (.inr (.inl (g ic0))) from e5) (fun h => by cases h)
  have sc0 : σ x5 = .inl (ty0, mc0, .inl gc0) := sc0
  have ec0 : x3 = gc0 ic0 := Sum.inl.inj (Option.some.inj (show some (fI x3) = some _ from e5))
  have kc0 : (ic0 : Int) = (1 * x1.toInt + 0) + 0 := by
    obtain ⟨z, e6, e7⟩ := e4
    obtain rfl : (1 * x1.toInt + 0) = z := Option.some.inj (show some (1 * x1.toInt + 0) = some z from e6)
    exact e7
  clear e1 e4 e5
  obtain rfl : ic0 = x1.toInt.toNat := by omega
  have l0 : 0 ≤ (1 * x1.toInt + 0) + 0 := by
    obtain ⟨z, e6, e7⟩ := m3 ([(1, 1)], 0) (List.mem_of_getElem? (i := 0) rfl)
    obtain rfl : (1 * x1.toInt + 0) = z := Option.some.inj (show some (1 * x1.toInt + 0) = some z from e6)
    exact e7
  have f0 : fB K n p 103 [fR x0, fI x1, fI x2] σ := by
    obtain ⟨w, e6, e7⟩ := m4 (1651, [0, 1, 2]) (List.mem_of_getElem? (i := 0) rfl)
    obtain rfl : [fR x0, fI x1, fI x2] = w := Option.some.inj (show some [fR x0, fI x1, fI x2] = some w from e6)
    exact (fF_b (r := 1651) (by decide) rfl).mp e7
  clear m1 m2 m3 m4
  obtain ⟨a, i, x, N, pa, pt, e, ⟨wp, wt, un⟩, y1, y2, y3⟩ := f0
  cases e
  obtain rfl := fFi_i un s0 t0
  obtain rfl := fRo_c wt s1 t1 sc0
  have hx := y1 x1.toInt.toNat (by omega)
  rw [← ec0] at hx
  have r0 : 0 ≤ (1 * x3.toInt + 0) + -1 := by
    omega
  have r1 : 0 ≤ (1 * x4.toInt + (-1 * x3.toInt + 0)) + 0 := by
    omega
  have q0 : fB K n (p) 104 [fR x0, fI x3, fI x2] σ := by
    exact ⟨_, _, _, _, pa, rfl, wp, un, by omega, by omega, by rw [ec0]; exact y3 (by omega)⟩
  exact ⟨p, fun _ => rfl, ⟨(fun q h => by cases h), fun q h => (by cases h), (aAllc ⟨_, rfl, r0⟩ (aAllc ⟨_, rfl, r1⟩ (fun f h => by cases h))), (aAllc ⟨_, rfl, (fF_b (r := 1667) (by decide) rfl).mpr q0⟩ (fun f h => by cases h))⟩, [], List.mem_cons_self, fun f h => (by cases h)⟩
set_option maxRecDepth 8192 in
theorem rw_ruPDs {K : Nat → Nat} {n : Nat} : aGho (fF K n) fa_T K n (fJX K n) ag_ruPDs := by
  refine aGho_of ⟨rfl, rfl⟩ ?_
  intro p σ ρ hH hX hA hM
  have hG := aAG_of hA.1 (fun i e v he hv => (hA.2 i e v he hv).1)
  clear hA
  obtain ⟨v0, v1, v2, v3, v4, v5, rfl, g0, g1, g2, g3, g4, g5⟩ := fA_6 hG
  clear hG
  obtain ⟨x0, rfl, b0, d0⟩ := fG_ref (by decide) g0
  obtain ⟨x1, rfl, b1, d1⟩ := aG_int g1
  dsimp only at b1 d1
  obtain ⟨x2, rfl, b2, d2⟩ := aG_int g2
  dsimp only at b2 d2
  obtain ⟨x3, rfl, b3, d3⟩ := aG_int g3
  dsimp only at b3 d3
  obtain ⟨x4, rfl, b4, d4⟩ := aG_int g4
  dsimp only at b4 d4
  obtain ⟨x5, rfl, b5, d5⟩ := fG_ref (by decide) g5
  obtain ⟨m1, m2, m3, m4⟩ := hM
  obtain ⟨a0, c0, fs0, w0, e1, s0, t0, e4⟩ := m1 (0, 12, 5) (List.mem_of_getElem? (i := 0) rfl)
  obtain rfl : x0 = a0 := Sum.inl.inj (Option.some.inj (Sum.inr.inj (Sum.inr.inj (Option.some.inj (show some (fR x0) = some _ from e1)))))
  obtain rfl : fR x5 = w0 := Option.some.inj (show some (fR x5) = some w0 from e4)
  clear e1 e4
  obtain ⟨a, mc0, ty0, gc0, ic0, e1, sc0, jc0, e4, e5⟩ := m2 (5, ([(1, 1)], 0), 3) (List.mem_of_getElem? (i := 0) rfl)
  obtain rfl : x5 = a := Sum.inl.inj (Option.some.inj (Sum.inr.inj (Sum.inr.inj (Option.some.inj (show some (fR x5) = some _ from e1)))))
  obtain ⟨gc0, rfl⟩ : ∃ g, gc0 = .inl g := by
    rcases gc0 with g | g
    · exact ⟨g, rfl⟩
    · exact absurd (show some (fI x3) = some (.inr (.inl (g ic0))) from e5) (fun h => by cases h)
  have sc0 : σ x5 = .inl (ty0, mc0, .inl gc0) := sc0
  have ec0 : x3 = gc0 ic0 := Sum.inl.inj (Option.some.inj (show some (fI x3) = some _ from e5))
  have kc0 : (ic0 : Int) = (1 * x1.toInt + 0) + 0 := by
    obtain ⟨z, e6, e7⟩ := e4
    obtain rfl : (1 * x1.toInt + 0) = z := Option.some.inj (show some (1 * x1.toInt + 0) = some z from e6)
    exact e7
  clear e1 e4 e5
  obtain rfl : ic0 = x1.toInt.toNat := by omega
  have l0 : 0 ≤ (1 * x1.toInt + 0) + 0 := by
    obtain ⟨z, e6, e7⟩ := m3 ([(1, 1)], 0) (List.mem_of_getElem? (i := 0) rfl)
    obtain rfl : (1 * x1.toInt + 0) = z := Option.some.inj (show some (1 * x1.toInt + 0) = some z from e6)
    exact e7
  have l1 : 0 ≤ (1 * x4.toInt + (-1 * x1.toInt + 0)) + 1 := by
    obtain ⟨z, e6, e7⟩ := m3 ([(4, 1), (1, -1)], 1) (List.mem_of_getElem? (i := 1) rfl)
    obtain rfl : (1 * x4.toInt + (-1 * x1.toInt + 0)) = z := Option.some.inj (show some (1 * x4.toInt + (-1 * x1.toInt + 0)) = some z from e6)
    exact e7
  have l2 : 0 ≤ (-1 * x4.toInt + (1 * x1.toInt + 0)) + -1 := by
    obtain ⟨z, e6, e7⟩ := m3 ([(4, -1), (1, 1)], -1) (List.mem_of_getElem? (i := 2) rfl)
    obtain rfl : (-1 * x4.toInt + (1 * x1.toInt + 0)) = z := Option.some.inj (show some (-1 * x4.toInt + (1 * x1.toInt + 0)) = some z from e6)
    exact e7
  have f0 : fB K n p 103 [fR x0, fI x1, fI x2] σ := by
    obtain ⟨w, e6, e7⟩ := m4 (1651, [0, 1, 2]) (List.mem_of_getElem? (i := 0) rfl)
    obtain rfl : [fR x0, fI x1, fI x2] = w := Option.some.inj (show some [fR x0, fI x1, fI x2] = some w from e6)
    exact (fF_b (r := 1651) (by decide) rfl).mp e7
  clear m1 m2 m3 m4
  obtain ⟨a, i, x, N, pa, pt, e, ⟨wp, wt, un⟩, y1, y2, y3⟩ := f0
  cases e
  obtain rfl := fRo_c wt s0 t0 sc0
  have q0 : fB K n (p) 103 [fR x0, fI x4, fI x3] σ := by
    refine ⟨_, _, _, N, pa, _, rfl, ⟨wp, wt, un⟩, fun j hj => y1 j (by omega), fun j hj => y2 j (by omega), fun h => ?_⟩
    rw [ec0, y2 x4.toInt.toNat (by omega), show x4.toInt.toNat + 1 = x1.toInt.toNat by omega]
  exact ⟨p, fun _ => rfl, ⟨(fun q h => by cases h), fun q h => (by cases h), (fun f h => by cases h), (aAllc ⟨_, rfl, (fF_b (r := 1651) (by decide) rfl).mpr q0⟩ (fun f h => by cases h))⟩, [], List.mem_cons_self, fun f h => (by cases h)⟩
set_option maxRecDepth 8192 in
theorem rw_ruTVe {K : Nat → Nat} {n : Nat} : aGho (fF K n) fa_T K n (fJX K n) ag_ruTVe := by
  refine aGho_of ⟨rfl, rfl⟩ ?_
  intro p σ ρ hH hX hA hM
  have hG := aAG_of hA.1 (fun i e v he hv => (hA.2 i e v he hv).1)
  clear hA
  obtain ⟨v0, v1, v2, v3, rfl, g0, g1, g2, g3⟩ := fA_4 hG
  clear hG
  obtain ⟨x0, rfl, b0, d0⟩ := fG_ref (by decide) g0
  obtain ⟨x1, rfl, b1, d1⟩ := aG_int g1
  dsimp only at b1 d1
  obtain ⟨x2, rfl, b2, d2⟩ := aG_int g2
  dsimp only at b2 d2
  obtain ⟨x3, rfl, b3, d3⟩ := aG_int g3
  dsimp only at b3 d3
  obtain ⟨m1, m2, m3, m4⟩ := hM
  have l0 : 0 ≤ (1 * x2.toInt + (-1 * x3.toInt + 0)) + 0 := by
    obtain ⟨z, e6, e7⟩ := m3 ([(2, 1), (3, -1)], 0) (List.mem_of_getElem? (i := 0) rfl)
    obtain rfl : (1 * x2.toInt + (-1 * x3.toInt + 0)) = z := Option.some.inj (show some (1 * x2.toInt + (-1 * x3.toInt + 0)) = some z from e6)
    exact e7
  have l1 : 0 ≤ (-1 * x2.toInt + (1 * x3.toInt + 0)) + 0 := by
    obtain ⟨z, e6, e7⟩ := m3 ([(2, -1), (3, 1)], 0) (List.mem_of_getElem? (i := 1) rfl)
    obtain rfl : (-1 * x2.toInt + (1 * x3.toInt + 0)) = z := Option.some.inj (show some (-1 * x2.toInt + (1 * x3.toInt + 0)) = some z from e6)
    exact e7
  have f0 : fB K n p 61 [fR x0, fI x1, fI x2] σ := by
    obtain ⟨w, e6, e7⟩ := m4 (979, [0, 1, 2]) (List.mem_of_getElem? (i := 0) rfl)
    obtain rfl : [fR x0, fI x1, fI x2] = w := Option.some.inj (show some [fR x0, fI x1, fI x2] = some w from e6)
    exact (fF_b (r := 979) (by decide) rfl).mp e7
  clear m1 m2 m3 m4
  obtain rfl : x3 = x2 := fI0 (by omega)
  have q0 : fB K n (p) 61 [fR x0, fI x1, fI x3] σ := by
    exact f0
  exact ⟨p, fun _ => rfl, ⟨(fun q h => by cases h), fun q h => (by cases h), (fun f h => by cases h), (aAllc ⟨_, rfl, (fF_b (r := 979) (by decide) rfl).mpr q0⟩ (fun f h => by cases h))⟩, [], List.mem_cons_self, fun f h => (by cases h)⟩
set_option maxRecDepth 8192 in
theorem rw_ruZ1 {K : Nat → Nat} {n : Nat} : aGho (fF K n) fa_T K n (fJX K n) ag_ruZ1 := by
  refine aGho_of ⟨rfl, rfl⟩ ?_
  intro p σ ρ hH hX hA hM
  have hG := aAG_of hA.1 (fun i e v he hv => (hA.2 i e v he hv).1)
  clear hA
  obtain ⟨v0, rfl, g0⟩ := fA_1 hG
  clear hG
  obtain ⟨x0, rfl, b0, d0⟩ := aG_int g0
  dsimp only at b0 d0
  obtain ⟨m1, m2, m3, m4⟩ := hM
  clear m1 m2 m3 m4
  have q0 : fB K n (p) 111 [fI x0] σ := by
    exact ⟨_, rfl⟩
  exact ⟨p, fun _ => rfl, ⟨(fun q h => by cases h), fun q h => (by cases h), (fun f h => by cases h), (aAllc ⟨_, rfl, (fF_b (r := 1777) (by decide) rfl).mpr q0⟩ (fun f h => by cases h))⟩, [], List.mem_cons_self, fun f h => (by cases h)⟩
set_option maxRecDepth 8192 in
theorem rw_ruZ2 {K : Nat → Nat} {n : Nat} : aGho (fF K n) fa_T K n (fJX K n) ag_ruZ2 := by
  refine aGho_of ⟨rfl, rfl⟩ ?_
  intro p σ ρ hH hX hA hM
  have hG := aAG_of hA.1 (fun i e v he hv => (hA.2 i e v he hv).1)
  clear hA
  obtain ⟨v0, rfl, g0⟩ := fA_1 hG
  clear hG
  obtain ⟨x0, rfl, b0, d0⟩ := aG_int g0
  dsimp only at b0 d0
  obtain ⟨m1, m2, m3, m4⟩ := hM
  clear m1 m2 m3 m4
  have q0 : fB K n (p) 112 [fI x0] σ := by
    exact ⟨_, rfl⟩
  exact ⟨p, fun _ => rfl, ⟨(fun q h => by cases h), fun q h => (by cases h), (fun f h => by cases h), (aAllc ⟨_, rfl, (fF_b (r := 1793) (by decide) rfl).mpr q0⟩ (fun f h => by cases h))⟩, [], List.mem_cons_self, fun f h => (by cases h)⟩
set_option maxRecDepth 8192 in
theorem rw_ruNW {K : Nat → Nat} {n : Nat} : aGho (fF K n) fa_T K n (fJX K n) ag_ruNW := by
  refine aGho_of ⟨rfl, rfl⟩ ?_
  intro p σ ρ hH hX hA hM
  have hG := aAG_of hA.1 (fun i e v he hv => (hA.2 i e v he hv).1)
  clear hA
  obtain ⟨v0, v1, v2, v3, v4, v5, v6, v7, v8, v9, v10, rfl, g0, g1, g2, g3, g4, g5, g6, g7, g8, g9, g10⟩ := fA_11 hG
  clear hG
  obtain ⟨x0, rfl, b0, d0⟩ := fG_ref (by decide) g0
  obtain ⟨x1, rfl, b1, d1⟩ := aG_int g1
  dsimp only at b1 d1
  obtain ⟨x2, rfl, b2, d2⟩ := aG_int g2
  dsimp only at b2 d2
  obtain ⟨x3, rfl, b3, d3⟩ := aG_int g3
  dsimp only at b3 d3
  obtain ⟨x4, rfl, b4, d4⟩ := aG_int g4
  dsimp only at b4 d4
  obtain ⟨x5, rfl, b5, d5⟩ := aG_int g5
  dsimp only at b5 d5
  obtain ⟨x6, rfl, b6, d6⟩ := fG_ref (by decide) g6
  obtain ⟨x7, rfl, b7, d7⟩ := fG_ref (by decide) g7
  obtain ⟨x8, rfl, b8, d8⟩ := fG_ref (by decide) g8
  obtain ⟨x9, rfl, b9, d9⟩ := fG_ref (by decide) g9
  obtain ⟨x10, rfl, b10, d10⟩ := fG_ref (by decide) g10
  obtain ⟨m1, m2, m3, m4⟩ := hM
  obtain ⟨a0, c0, fs0, w0, e1, s0, t0, e4⟩ := m1 (0, 3, 6) (List.mem_of_getElem? (i := 0) rfl)
  obtain rfl : x0 = a0 := Sum.inl.inj (Option.some.inj (Sum.inr.inj (Sum.inr.inj (Option.some.inj (show some (fR x0) = some _ from e1)))))
  obtain rfl : fR x6 = w0 := Option.some.inj (show some (fR x6) = some w0 from e4)
  clear e1 e4
  obtain ⟨a1, c1, fs1, w1, e1, s1, t1, e4⟩ := m1 (0, 4, 7) (List.mem_of_getElem? (i := 1) rfl)
  obtain rfl : x0 = a1 := Sum.inl.inj (Option.some.inj (Sum.inr.inj (Sum.inr.inj (Option.some.inj (show some (fR x0) = some _ from e1)))))
  obtain rfl : fR x7 = w1 := Option.some.inj (show some (fR x7) = some w1 from e4)
  clear e1 e4
  obtain ⟨a2, c2, fs2, w2, e1, s2, t2, e4⟩ := m1 (0, 5, 8) (List.mem_of_getElem? (i := 2) rfl)
  obtain rfl : x0 = a2 := Sum.inl.inj (Option.some.inj (Sum.inr.inj (Sum.inr.inj (Option.some.inj (show some (fR x0) = some _ from e1)))))
  obtain rfl : fR x8 = w2 := Option.some.inj (show some (fR x8) = some w2 from e4)
  clear e1 e4
  obtain ⟨a3, c3, fs3, w3, e1, s3, t3, e4⟩ := m1 (0, 6, 9) (List.mem_of_getElem? (i := 3) rfl)
  obtain rfl : x0 = a3 := Sum.inl.inj (Option.some.inj (Sum.inr.inj (Sum.inr.inj (Option.some.inj (show some (fR x0) = some _ from e1)))))
  obtain rfl : fR x9 = w3 := Option.some.inj (show some (fR x9) = some w3 from e4)
  clear e1 e4
  obtain ⟨a4, c4, fs4, w4, e1, s4, t4, e4⟩ := m1 (0, 7, 10) (List.mem_of_getElem? (i := 4) rfl)
  obtain rfl : x0 = a4 := Sum.inl.inj (Option.some.inj (Sum.inr.inj (Sum.inr.inj (Option.some.inj (show some (fR x0) = some _ from e1)))))
  obtain rfl : fR x10 = w4 := Option.some.inj (show some (fR x10) = some w4 from e4)
  clear e1 e4
  obtain ⟨a, mc0, ty0, gc0, ic0, e1, sc0, jc0, e4, e5⟩ := m2 (6, ([(1, 1)], 0), 2) (List.mem_of_getElem? (i := 0) rfl)
  obtain rfl : x6 = a := Sum.inl.inj (Option.some.inj (Sum.inr.inj (Sum.inr.inj (Option.some.inj (show some (fR x6) = some _ from e1)))))
  obtain ⟨gc0, rfl⟩ : ∃ g, gc0 = .inl g := by
    rcases gc0 with g | g
    · exact ⟨g, rfl⟩
    · exact absurd (show some (fI x2) = some (.inr (.inl (g ic0))) from e5) (fun h => by cases h)
  have sc0 : σ x6 = .inl (ty0, mc0, .inl gc0) := sc0
  have ec0 : x2 = gc0 ic0 := Sum.inl.inj (Option.some.inj (show some (fI x2) = some _ from e5))
  have kc0 : (ic0 : Int) = (1 * x1.toInt + 0) + 0 := by
    obtain ⟨z, e6, e7⟩ := e4
    obtain rfl : (1 * x1.toInt + 0) = z := Option.some.inj (show some (1 * x1.toInt + 0) = some z from e6)
    exact e7
  clear e1 e4 e5
  obtain rfl : ic0 = x1.toInt.toNat := by omega
  obtain ⟨a, mc1, ty1, gc1, ic1, e1, sc1, jc1, e4, e5⟩ := m2 (7, ([(1, 1)], 0), 3) (List.mem_of_getElem? (i := 1) rfl)
  obtain rfl : x7 = a := Sum.inl.inj (Option.some.inj (Sum.inr.inj (Sum.inr.inj (Option.some.inj (show some (fR x7) = some _ from e1)))))
  obtain ⟨gc1, rfl⟩ : ∃ g, gc1 = .inl g := by
    rcases gc1 with g | g
    · exact ⟨g, rfl⟩
    · exact absurd (show some (fI x3) = some (.inr (.inl (g ic1))) from e5) (fun h => by cases h)
  have sc1 : σ x7 = .inl (ty1, mc1, .inl gc1) := sc1
  have ec1 : x3 = gc1 ic1 := Sum.inl.inj (Option.some.inj (show some (fI x3) = some _ from e5))
  have kc1 : (ic1 : Int) = (1 * x1.toInt + 0) + 0 := by
    obtain ⟨z, e6, e7⟩ := e4
    obtain rfl : (1 * x1.toInt + 0) = z := Option.some.inj (show some (1 * x1.toInt + 0) = some z from e6)
    exact e7
  clear e1 e4 e5
  obtain rfl : ic1 = x1.toInt.toNat := by omega
  obtain ⟨a, mc2, ty2, gc2, ic2, e1, sc2, jc2, e4, e5⟩ := m2 (8, ([(1, 1)], 0), 4) (List.mem_of_getElem? (i := 2) rfl)
  obtain rfl : x8 = a := Sum.inl.inj (Option.some.inj (Sum.inr.inj (Sum.inr.inj (Option.some.inj (show some (fR x8) = some _ from e1)))))
  obtain ⟨gc2, rfl⟩ : ∃ g, gc2 = .inl g := by
    rcases gc2 with g | g
    · exact ⟨g, rfl⟩
    · exact absurd (show some (fI x4) = some (.inr (.inl (g ic2))) from e5) (fun h => by cases h)
  have sc2 : σ x8 = .inl (ty2, mc2, .inl gc2) := sc2
  have ec2 : x4 = gc2 ic2 := Sum.inl.inj (Option.some.inj (show some (fI x4) = some _ from e5))
  have kc2 : (ic2 : Int) = (1 * x1.toInt + 0) + 0 := by
    obtain ⟨z, e6, e7⟩ := e4
    obtain rfl : (1 * x1.toInt + 0) = z := Option.some.inj (show some (1 * x1.toInt + 0) = some z from e6)
    exact e7
  clear e1 e4 e5
  obtain rfl : ic2 = x1.toInt.toNat := by omega
  obtain ⟨a, mc3, ty3, gc3, ic3, e1, sc3, jc3, e4, e5⟩ := m2 (9, ([(1, 1)], 0), 5) (List.mem_of_getElem? (i := 3) rfl)
  obtain rfl : x9 = a := Sum.inl.inj (Option.some.inj (Sum.inr.inj (Sum.inr.inj (Option.some.inj (show some (fR x9) = some _ from e1)))))
  obtain ⟨gc3, rfl⟩ : ∃ g, gc3 = .inl g := by
    rcases gc3 with g | g
    · exact ⟨g, rfl⟩
    · exact absurd (show some (fI x5) = some (.inr (.inl (g ic3))) from e5) (fun h => by cases h)
  have sc3 : σ x9 = .inl (ty3, mc3, .inl gc3) := sc3
  have ec3 : x5 = gc3 ic3 := Sum.inl.inj (Option.some.inj (show some (fI x5) = some _ from e5))
  have kc3 : (ic3 : Int) = (1 * x1.toInt + 0) + 0 := by
    obtain ⟨z, e6, e7⟩ := e4
    obtain rfl : (1 * x1.toInt + 0) = z := Option.some.inj (show some (1 * x1.toInt + 0) = some z from e6)
    exact e7
  clear e1 e4 e5
  obtain rfl : ic3 = x1.toInt.toNat := by omega
  clear m1 m2 m3 m4
  obtain ⟨pa, wpa, epa⟩ := fRo_mk hH b0 d0 s0 t0 b6 d6 (q := ((0, 300), [])) rfl
  rw [sc0] at epa
  cases epa
  obtain ⟨mv, wmv, emv⟩ := fRo_mk hH b0 d0 s1 t1 b7 d7 (q := ((0, 32767), [])) rfl
  rw [sc1] at emv
  cases emv
  obtain ⟨fi, wfi, efi⟩ := fRo_mk hH b0 d0 s2 t2 b8 d8 (q := ((0, 300), [])) rfl
  rw [sc2] at efi
  cases efi
  obtain ⟨af, waf, eaf⟩ := fRo_mk hH b0 d0 s3 t3 b9 d9 (q := ((0, 300), [])) rfl
  rw [sc3] at eaf
  cases eaf
  obtain ⟨un, wun⟩ := fRl_mk hH b0 d0 s4 t4 b10 d10
  have q0 : fB K n (p) 107 [fR x0, fI x1, fI x2, fI x3] σ := by
    exact ⟨_, _, _, _, (gc0, gc1, gc2, gc3, un), rfl, ⟨wpa, wmv, wfi, waf, wun⟩, ec0.symm, ec1.symm, by show (gc2 _).toInt = 0; rw [← ec2]; omega, by show (gc3 _).toInt = 0; rw [← ec3]; omega⟩
  exact ⟨p, fun _ => rfl, ⟨(fun q h => by cases h), fun q h => (by cases h), (fun f h => by cases h), (aAllc ⟨_, rfl, (fF_b (r := 1716) (by decide) rfl).mpr q0⟩ (fun f h => by cases h))⟩, [], List.mem_cons_self, fun f h => (by cases h)⟩
set_option maxRecDepth 8192 in
theorem rw_ruCMa {K : Nat → Nat} {n : Nat} : aGho (fF K n) fa_T K n (fJX K n) ag_ruCMa := by
  refine aGho_of ⟨rfl, rfl⟩ ?_
  intro p σ ρ hH hX hA hM
  have hG := aAG_of hA.1 (fun i e v he hv => (hA.2 i e v he hv).1)
  clear hA
  obtain ⟨v0, v1, v2, v3, v4, v5, rfl, g0, g1, g2, g3, g4, g5⟩ := fA_6 hG
  clear hG
  obtain ⟨x0, rfl, b0, d0⟩ := fG_ref (by decide) g0
  obtain ⟨x1, rfl, b1, d1⟩ := aG_int g1
  dsimp only at b1 d1
  obtain ⟨x2, rfl, b2, d2⟩ := aG_int g2
  dsimp only at b2 d2
  obtain ⟨x3, rfl, b3, d3⟩ := aG_int g3
  dsimp only at b3 d3
  obtain ⟨x4, rfl, b4, d4⟩ := fG_ref (by decide) g4
  obtain ⟨x5, rfl, b5, d5⟩ := fG_ref (by decide) g5
  obtain ⟨m1, m2, m3, m4⟩ := hM
  obtain ⟨a0, c0, fs0, w0, e1, s0, t0, e4⟩ := m1 (0, 1, 1) (List.mem_of_getElem? (i := 0) rfl)
  obtain rfl : x0 = a0 := Sum.inl.inj (Option.some.inj (Sum.inr.inj (Sum.inr.inj (Option.some.inj (show some (fR x0) = some _ from e1)))))
  obtain rfl : fI x1 = w0 := Option.some.inj (show some (fI x1) = some w0 from e4)
  clear e1 e4
  obtain ⟨a1, c1, fs1, w1, e1, s1, t1, e4⟩ := m1 (0, 3, 4) (List.mem_of_getElem? (i := 1) rfl)
  obtain rfl : x0 = a1 := Sum.inl.inj (Option.some.inj (Sum.inr.inj (Sum.inr.inj (Option.some.inj (show some (fR x0) = some _ from e1)))))
  obtain rfl : fR x4 = w1 := Option.some.inj (show some (fR x4) = some w1 from e4)
  clear e1 e4
  obtain ⟨a2, c2, fs2, w2, e1, s2, t2, e4⟩ := m1 (0, 4, 5) (List.mem_of_getElem? (i := 2) rfl)
  obtain rfl : x0 = a2 := Sum.inl.inj (Option.some.inj (Sum.inr.inj (Sum.inr.inj (Option.some.inj (show some (fR x0) = some _ from e1)))))
  obtain rfl : fR x5 = w2 := Option.some.inj (show some (fR x5) = some w2 from e4)
  clear e1 e4
  obtain ⟨a, mc0, ty0, gc0, ic0, e1, sc0, jc0, e4, e5⟩ := m2 (4, ([(1, 1)], 0), 2) (List.mem_of_getElem? (i := 0) rfl)
  obtain rfl : x4 = a := Sum.inl.inj (Option.some.inj (Sum.inr.inj (Sum.inr.inj (Option.some.inj (show some (fR x4) = some _ from e1)))))
  obtain ⟨gc0, rfl⟩ : ∃ g, gc0 = .inl g := by
    rcases gc0 with g | g
    · exact ⟨g, rfl⟩
    · exact absurd (show some (fI x2) = some (.inr (.inl (g ic0))) from e5) (fun h => by cases h)
  have sc0 : σ x4 = .inl (ty0, mc0, .inl gc0) := sc0
  have ec0 : x2 = gc0 ic0 := Sum.inl.inj (Option.some.inj (show some (fI x2) = some _ from e5))
  have kc0 : (ic0 : Int) = (1 * x1.toInt + 0) + 0 := by
    obtain ⟨z, e6, e7⟩ := e4
    obtain rfl : (1 * x1.toInt + 0) = z := Option.some.inj (show some (1 * x1.toInt + 0) = some z from e6)
    exact e7
  clear e1 e4 e5
  obtain rfl : ic0 = x1.toInt.toNat := by omega
  obtain ⟨a, mc1, ty1, gc1, ic1, e1, sc1, jc1, e4, e5⟩ := m2 (5, ([(1, 1)], 0), 3) (List.mem_of_getElem? (i := 1) rfl)
  obtain rfl : x5 = a := Sum.inl.inj (Option.some.inj (Sum.inr.inj (Sum.inr.inj (Option.some.inj (show some (fR x5) = some _ from e1)))))
  obtain ⟨gc1, rfl⟩ : ∃ g, gc1 = .inl g := by
    rcases gc1 with g | g
    · exact ⟨g, rfl⟩
    · exact absurd (show some (fI x3) = some (.inr (.inl (g ic1))) from e5) (fun h => by cases h)
  have sc1 : σ x5 = .inl (ty1, mc1, .inl gc1) := sc1
  have ec1 : x3 = gc1 ic1 := Sum.inl.inj (Option.some.inj (show some (fI x3) = some _ from e5))
  have kc1 : (ic1 : Int) = (1 * x1.toInt + 0) + 0 := by
    obtain ⟨z, e6, e7⟩ := e4
    obtain rfl : (1 * x1.toInt + 0) = z := Option.some.inj (show some (1 * x1.toInt + 0) = some z from e6)
    exact e7
  clear e1 e4 e5
  obtain rfl : ic1 = x1.toInt.toNat := by omega
  have l0 : 0 ≤ (1 * x1.toInt + 0) + -1 := by
    obtain ⟨z, e6, e7⟩ := m3 ([(1, 1)], -1) (List.mem_of_getElem? (i := 0) rfl)
    obtain rfl : (1 * x1.toInt + 0) = z := Option.some.inj (show some (1 * x1.toInt + 0) = some z from e6)
    exact e7
  clear m1 m2 m3 m4
  obtain ⟨pa, wpa, epa⟩ := fRo_mk hH b0 d0 s1 t1 b4 d4 (q := ((0, 300), [])) rfl
  rw [sc0] at epa
  cases epa
  obtain ⟨mv, wmv, emv⟩ := fRo_mk hH b0 d0 s2 t2 b5 d5 (q := ((0, 32767), [])) rfl
  rw [sc1] at emv
  cases emv
  have q0 : fB K n (p) 105 [fR x0, fI x1, fI x2, fI x3] σ := by
    exact ⟨_, _, _, _, _, gc0, gc1, rfl, wpa, fFi_mk hH b0 d0 s0 t0, wmv, by omega, by omega, ec0.symm, ec1.symm⟩
  exact ⟨p, fun _ => rfl, ⟨(fun q h => by cases h), fun q h => (by cases h), (fun f h => by cases h), (aAllc ⟨_, rfl, (fF_b (r := 1684) (by decide) rfl).mpr q0⟩ (fun f h => by cases h))⟩, [], List.mem_cons_self, fun f h => (by cases h)⟩
set_option maxRecDepth 8192 in
theorem rw_ruAF {K : Nat → Nat} {n : Nat} : aGho (fF K n) fa_T K n (fJX K n) ag_ruAF := by
  refine aGho_of ⟨rfl, rfl⟩ ?_
  intro p σ ρ hH hX hA hM
  have hG := aAG_of hA.1 (fun i e v he hv => (hA.2 i e v he hv).1)
  clear hA
  obtain ⟨v0, v1, v2, v3, rfl, g0, g1, g2, g3⟩ := fA_4 hG
  clear hG
  obtain ⟨x0, rfl, b0, d0⟩ := fG_ref (by decide) g0
  obtain ⟨x1, rfl, b1, d1⟩ := aG_int g1
  dsimp only at b1 d1
  obtain ⟨x2, rfl, b2, d2⟩ := aG_int g2
  dsimp only at b2 d2
  obtain ⟨x3, rfl, b3, d3⟩ := fG_ref (by decide) g3
  obtain ⟨m1, m2, m3, m4⟩ := hM
  obtain ⟨a0, c0, fs0, w0, e1, s0, t0, e4⟩ := m1 (0, 6, 3) (List.mem_of_getElem? (i := 0) rfl)
  obtain rfl : x0 = a0 := Sum.inl.inj (Option.some.inj (Sum.inr.inj (Sum.inr.inj (Option.some.inj (show some (fR x0) = some _ from e1)))))
  obtain rfl : fR x3 = w0 := Option.some.inj (show some (fR x3) = some w0 from e4)
  clear e1 e4
  obtain ⟨a, mc0, ty0, gc0, ic0, e1, sc0, jc0, e4, e5⟩ := m2 (3, ([(1, 1)], 0), 2) (List.mem_of_getElem? (i := 0) rfl)
  obtain rfl : x3 = a := Sum.inl.inj (Option.some.inj (Sum.inr.inj (Sum.inr.inj (Option.some.inj (show some (fR x3) = some _ from e1)))))
  obtain ⟨gc0, rfl⟩ : ∃ g, gc0 = .inl g := by
    rcases gc0 with g | g
    · exact ⟨g, rfl⟩
    · exact absurd (show some (fI x2) = some (.inr (.inl (g ic0))) from e5) (fun h => by cases h)
  have sc0 : σ x3 = .inl (ty0, mc0, .inl gc0) := sc0
  have ec0 : x2 = gc0 ic0 := Sum.inl.inj (Option.some.inj (show some (fI x2) = some _ from e5))
  have kc0 : (ic0 : Int) = (1 * x1.toInt + 0) + 0 := by
    obtain ⟨z, e6, e7⟩ := e4
    obtain rfl : (1 * x1.toInt + 0) = z := Option.some.inj (show some (1 * x1.toInt + 0) = some z from e6)
    exact e7
  clear e1 e4 e5
  obtain rfl : ic0 = x1.toInt.toNat := by omega
  clear m1 m2 m3 m4
  obtain ⟨af, waf, eaf⟩ := fRo_mk hH b0 d0 s0 t0 b3 d3 (q := ((0, 300), [])) rfl
  rw [sc0] at eaf
  cases eaf
  have q0 : fB K n (p) 113 [fR x0, fI x1, fI x2] σ := by
    exact ⟨_, _, _, gc0, rfl, waf, ec0.symm⟩
  exact ⟨p, fun _ => rfl, ⟨(fun q h => by cases h), fun q h => (by cases h), (fun f h => by cases h), (aAllc ⟨_, rfl, (fF_b (r := 1811) (by decide) rfl).mpr q0⟩ (fun f h => by cases h))⟩, [], List.mem_cons_self, fun f h => (by cases h)⟩
set_option maxRecDepth 8192 in
theorem rw_ruAD1 {K : Nat → Nat} {n : Nat} : aGho (fF K n) fa_T K n (fJX K n) ag_ruAD1 := by
  refine aGho_of ⟨rfl, rfl⟩ ?_
  intro p σ ρ hH hX hA hM
  have hG := aAG_of hA.1 (fun i e v he hv => (hA.2 i e v he hv).1)
  clear hA
  obtain ⟨v0, v1, v2, v3, v4, v5, v6, rfl, g0, g1, g2, g3, g4, g5, g6⟩ := fA_7 hG
  clear hG
  obtain ⟨x0, rfl, b0, d0⟩ := fG_ref (by decide) g0
  obtain ⟨x1, rfl, b1, d1⟩ := aG_int g1
  dsimp only at b1 d1
  obtain ⟨x2, rfl, b2, d2⟩ := aG_int g2
  dsimp only at b2 d2
  obtain ⟨x3, rfl, b3, d3⟩ := aG_int g3
  dsimp only at b3 d3
  obtain ⟨x4, rfl, b4, d4⟩ := aG_int g4
  dsimp only at b4 d4
  obtain ⟨x5, rfl, b5, d5⟩ := fG_ref (by decide) g5
  obtain ⟨x6, rfl, b6, d6⟩ := aG_int g6
  dsimp only at b6 d6
  obtain ⟨m1, m2, m3, m4⟩ := hM
  obtain ⟨a0, c0, fs0, w0, e1, s0, t0, e4⟩ := m1 (0, 5, 5) (List.mem_of_getElem? (i := 0) rfl)
  obtain rfl : x0 = a0 := Sum.inl.inj (Option.some.inj (Sum.inr.inj (Sum.inr.inj (Option.some.inj (show some (fR x0) = some _ from e1)))))
  obtain rfl : fR x5 = w0 := Option.some.inj (show some (fR x5) = some w0 from e4)
  clear e1 e4
  obtain ⟨a, mc0, ty0, gc0, ic0, e1, sc0, jc0, e4, e5⟩ := m2 (5, ([(1, 1)], 0), 6) (List.mem_of_getElem? (i := 0) rfl)
  obtain rfl : x5 = a := Sum.inl.inj (Option.some.inj (Sum.inr.inj (Sum.inr.inj (Option.some.inj (show some (fR x5) = some _ from e1)))))
  obtain ⟨gc0, rfl⟩ : ∃ g, gc0 = .inl g := by
    rcases gc0 with g | g
    · exact ⟨g, rfl⟩
    · exact absurd (show some (fI x6) = some (.inr (.inl (g ic0))) from e5) (fun h => by cases h)
  have sc0 : σ x5 = .inl (ty0, mc0, .inl gc0) := sc0
  have ec0 : x6 = gc0 ic0 := Sum.inl.inj (Option.some.inj (show some (fI x6) = some _ from e5))
  have kc0 : (ic0 : Int) = (1 * x1.toInt + 0) + 0 := by
    obtain ⟨z, e6, e7⟩ := e4
    obtain rfl : (1 * x1.toInt + 0) = z := Option.some.inj (show some (1 * x1.toInt + 0) = some z from e6)
    exact e7
  clear e1 e4 e5
  obtain rfl : ic0 = x1.toInt.toNat := by omega
  have l0 : 0 ≤ (-1 * x6.toInt + 0) + 0 := by
    obtain ⟨z, e6, e7⟩ := m3 ([(6, -1)], 0) (List.mem_of_getElem? (i := 0) rfl)
    obtain rfl : (-1 * x6.toInt + 0) = z := Option.some.inj (show some (-1 * x6.toInt + 0) = some z from e6)
    exact e7
  have l1 : 0 ≤ (-1 * x2.toInt + 0) + 299 := by
    obtain ⟨z, e6, e7⟩ := m3 ([(2, -1)], 299) (List.mem_of_getElem? (i := 1) rfl)
    obtain rfl : (-1 * x2.toInt + 0) = z := Option.some.inj (show some (-1 * x2.toInt + 0) = some z from e6)
    exact e7
  have l2 : 0 ≤ (1 * x3.toInt + (-1 * x2.toInt + 0)) + -1 := by
    obtain ⟨z, e6, e7⟩ := m3 ([(3, 1), (2, -1)], -1) (List.mem_of_getElem? (i := 2) rfl)
    obtain rfl : (1 * x3.toInt + (-1 * x2.toInt + 0)) = z := Option.some.inj (show some (1 * x3.toInt + (-1 * x2.toInt + 0)) = some z from e6)
    exact e7
  have l3 : 0 ≤ (-1 * x3.toInt + (1 * x2.toInt + 0)) + 1 := by
    obtain ⟨z, e6, e7⟩ := m3 ([(3, -1), (2, 1)], 1) (List.mem_of_getElem? (i := 3) rfl)
    obtain rfl : (-1 * x3.toInt + (1 * x2.toInt + 0)) = z := Option.some.inj (show some (-1 * x3.toInt + (1 * x2.toInt + 0)) = some z from e6)
    exact e7
  have f0 : fB K n p 61 [fR x0, fI x1, fI x2] σ := by
    obtain ⟨w, e6, e7⟩ := m4 (979, [0, 1, 2]) (List.mem_of_getElem? (i := 0) rfl)
    obtain rfl : [fR x0, fI x1, fI x2] = w := Option.some.inj (show some [fR x0, fI x1, fI x2] = some w from e6)
    exact (fF_b (r := 979) (by decide) rfl).mp e7
  have f1 : fB K n p 107 [fR x0, fI x3, fI x1, fI x4] σ := by
    obtain ⟨w, e6, e7⟩ := m4 (1716, [0, 3, 1, 4]) (List.mem_of_getElem? (i := 1) rfl)
    obtain rfl : [fR x0, fI x3, fI x1, fI x4] = w := Option.some.inj (show some [fR x0, fI x3, fI x1, fI x4] = some w from e6)
    exact (fF_b (r := 1716) (by decide) rfl).mp e7
  have f2 : fB K n p 3 [fI x4] σ := by
    obtain ⟨w, e6, e7⟩ := m4 (49, [4]) (List.mem_of_getElem? (i := 2) rfl)
    obtain rfl : [fI x4] = w := Option.some.inj (show some [fI x4] = some w from e6)
    exact (fF_b (r := 49) (by decide) rfl).mp e7
  clear m1 m2 m3 m4
  obtain ⟨a, h, N, t, e, w, h0, N0, ⟨q, hq⟩, H⟩ := f0
  cases e
  subst hq
  obtain ⟨a8, c8, h8, m8, t8, e8, w8, p8, k8, z8, y8⟩ := f1
  cases e8
  obtain rfl := fTw_u w8 w
  obtain ⟨m9, e9, M⟩ := f2
  cases e9
  have hG := fGood_pl (fTk_good H).1 M
  have hN := fTk_le H
  obtain rfl := fRo_c w.2.2.1 s0 t0 sc0
  have q0 : fB K n (.inl q) 61 [fR x0, fI x1, fI x3] (jup σ x5 (jsto (σ x5) x1.toNatClampNeg x3)) := by
    have hg : ¬ K x5 = 25 := by rw [d5]; decide
    have hk : ∀ k, ¬ k = 40 → ¬ K x5 = k := fun k h e => h (by rw [← e]; exact d5)
    refine ⟨_, _, _, (t8.1, t8.2.1, upd t8.2.2.1 x1.toInt.toNat x3, t8.2.2.2.1, t8.2.2.2.2), rfl, ⟨fRo_ne w.1 hg (hk _ (by decide)), fRo_ne w.2.1 hg (hk _ (by decide)), fRo_st w.2.2.1 s0 t0 (by decide), fRo_ne w.2.2.2.1 hg (hk _ (by decide)), fRl_ne w.2.2.2.2 hg (hk _ (by decide))⟩, h0, by omega, ⟨q, rfl⟩, ?_⟩
    rw [show x3.toInt.toNat = x2.toInt.toNat + 1 by omega] at p8 k8 z8 y8 ⊢
    refine fTk_add H (by omega) M hG (fun k _ => rfl) (fun k _ => rfl) rfl (by rw [p8]; omega) k8 ?_ (fun k _ hk9 => ?_) (fun k _ _ => rfl) (fun L n1 c1 l1 => ?_)
    · show (upd t8.2.2.1 x1.toInt.toNat x3 (x2.toInt.toNat + 1)).toInt = 0
      unfold upd
      rw [if_neg (by omega)]
      exact z8
    · show upd t8.2.2.1 x1.toInt.toNat x3 k = t8.2.2.1 k
      unfold upd
      rw [if_neg hk9]
    · have hx0 : (t8.2.2.1 x1.toInt.toNat).toInt = 0 := by rw [← ec0]; omega
      show fCn t8.2.2.2.1 (upd t8.2.2.1 x1.toInt.toNat x3 x1.toInt.toNat).toInt _
      have e9 : upd t8.2.2.1 x1.toInt.toNat x3 x1.toInt.toNat = x3 := by unfold upd; rw [if_pos rfl]
      rw [e9]
      cases L with
      | nil => exact ⟨by omega, y8⟩
      | cons c r =>
        have h1 := c1.1
        have h2 := (l1 c List.mem_cons_self).1
        omega
  exact ⟨.inl q, fun _ => rfl, ⟨(fun q h => by cases h), fun q h => (by cases h), (fun f h => by cases h), (aAllc ⟨_, rfl, fF_p (r := 979) (by decide) (by decide) rfl q0⟩ (fun f h => by cases h))⟩, [], List.mem_cons_self, fun f h => (by cases h)⟩
set_option maxRecDepth 8192 in
theorem rw_ruAD2 {K : Nat → Nat} {n : Nat} : aGho (fF K n) fa_T K n (fJX K n) ag_ruAD2 := by
  refine aGho_of ⟨rfl, rfl⟩ ?_
  intro p σ ρ hH hX hA hM
  have hG := aAG_of hA.1 (fun i e v he hv => (hA.2 i e v he hv).1)
  clear hA
  obtain ⟨v0, v1, v2, v3, v4, v5, v6, v7, v8, rfl, g0, g1, g2, g3, g4, g5, g6, g7, g8⟩ := fA_9 hG
  clear hG
  obtain ⟨x0, rfl, b0, d0⟩ := fG_ref (by decide) g0
  obtain ⟨x1, rfl, b1, d1⟩ := aG_int g1
  dsimp only at b1 d1
  obtain ⟨x2, rfl, b2, d2⟩ := aG_int g2
  dsimp only at b2 d2
  obtain ⟨x3, rfl, b3, d3⟩ := aG_int g3
  dsimp only at b3 d3
  obtain ⟨x4, rfl, b4, d4⟩ := aG_int g4
  dsimp only at b4 d4
  obtain ⟨x5, rfl, b5, d5⟩ := fG_ref (by decide) g5
  obtain ⟨x6, rfl, b6, d6⟩ := aG_int g6
  dsimp only at b6 d6
  obtain ⟨x7, rfl, b7, d7⟩ := aG_int g7
  dsimp only at b7 d7
  obtain ⟨x8, rfl, b8, d8⟩ := aG_int g8
  dsimp only at b8 d8
  obtain ⟨m1, m2, m3, m4⟩ := hM
  obtain ⟨a0, c0, fs0, w0, e1, s0, t0, e4⟩ := m1 (0, 6, 5) (List.mem_of_getElem? (i := 0) rfl)
  obtain rfl : x0 = a0 := Sum.inl.inj (Option.some.inj (Sum.inr.inj (Sum.inr.inj (Option.some.inj (show some (fR x0) = some _ from e1)))))
  obtain rfl : fR x5 = w0 := Option.some.inj (show some (fR x5) = some w0 from e4)
  clear e1 e4
  have l0 : 0 ≤ (-1 * x7.toInt + 0) + 0 := by
    obtain ⟨z, e6, e7⟩ := m3 ([(7, -1)], 0) (List.mem_of_getElem? (i := 0) rfl)
    obtain rfl : (-1 * x7.toInt + 0) = z := Option.some.inj (show some (-1 * x7.toInt + 0) = some z from e6)
    exact e7
  have l1 : 0 ≤ (-1 * x2.toInt + 0) + 299 := by
    obtain ⟨z, e6, e7⟩ := m3 ([(2, -1)], 299) (List.mem_of_getElem? (i := 1) rfl)
    obtain rfl : (-1 * x2.toInt + 0) = z := Option.some.inj (show some (-1 * x2.toInt + 0) = some z from e6)
    exact e7
  have l2 : 0 ≤ (1 * x6.toInt + 0) + -1 := by
    obtain ⟨z, e6, e7⟩ := m3 ([(6, 1)], -1) (List.mem_of_getElem? (i := 2) rfl)
    obtain rfl : (1 * x6.toInt + 0) = z := Option.some.inj (show some (1 * x6.toInt + 0) = some z from e6)
    exact e7
  have l3 : 0 ≤ (1 * x3.toInt + (-1 * x2.toInt + 0)) + -1 := by
    obtain ⟨z, e6, e7⟩ := m3 ([(3, 1), (2, -1)], -1) (List.mem_of_getElem? (i := 3) rfl)
    obtain rfl : (1 * x3.toInt + (-1 * x2.toInt + 0)) = z := Option.some.inj (show some (1 * x3.toInt + (-1 * x2.toInt + 0)) = some z from e6)
    exact e7
  have l4 : 0 ≤ (-1 * x3.toInt + (1 * x2.toInt + 0)) + 1 := by
    obtain ⟨z, e6, e7⟩ := m3 ([(3, -1), (2, 1)], 1) (List.mem_of_getElem? (i := 4) rfl)
    obtain rfl : (-1 * x3.toInt + (1 * x2.toInt + 0)) = z := Option.some.inj (show some (-1 * x3.toInt + (1 * x2.toInt + 0)) = some z from e6)
    exact e7
  have f0 : fB K n p 61 [fR x0, fI x1, fI x2] σ := by
    obtain ⟨w, e6, e7⟩ := m4 (979, [0, 1, 2]) (List.mem_of_getElem? (i := 0) rfl)
    obtain rfl : [fR x0, fI x1, fI x2] = w := Option.some.inj (show some [fR x0, fI x1, fI x2] = some w from e6)
    exact (fF_b (r := 979) (by decide) rfl).mp e7
  have f1 : fB K n p 107 [fR x0, fI x3, fI x1, fI x4] σ := by
    obtain ⟨w, e6, e7⟩ := m4 (1716, [0, 3, 1, 4]) (List.mem_of_getElem? (i := 1) rfl)
    obtain rfl : [fR x0, fI x3, fI x1, fI x4] = w := Option.some.inj (show some [fR x0, fI x3, fI x1, fI x4] = some w from e6)
    exact (fF_b (r := 1716) (by decide) rfl).mp e7
  have f2 : fB K n p 3 [fI x4] σ := by
    obtain ⟨w, e6, e7⟩ := m4 (49, [4]) (List.mem_of_getElem? (i := 2) rfl)
    obtain rfl : [fI x4] = w := Option.some.inj (show some [fI x4] = some w from e6)
    exact (fF_b (r := 49) (by decide) rfl).mp e7
  have f3 : fB K n p 106 [fR x0, fI x1, fI x6, fI x8] σ := by
    obtain ⟨w, e6, e7⟩ := m4 (1700, [0, 1, 6, 8]) (List.mem_of_getElem? (i := 3) rfl)
    obtain rfl : [fR x0, fI x1, fI x6, fI x8] = w := Option.some.inj (show some [fR x0, fI x1, fI x6, fI x8] = some w from e6)
    exact (fF_b (r := 1700) (by decide) rfl).mp e7
  have f4 : fB K n p 113 [fR x0, fI x6, fI x7] σ := by
    obtain ⟨w, e6, e7⟩ := m4 (1811, [0, 6, 7]) (List.mem_of_getElem? (i := 4) rfl)
    obtain rfl : [fR x0, fI x6, fI x7] = w := Option.some.inj (show some [fR x0, fI x6, fI x7] = some w from e6)
    exact (fF_b (r := 1811) (by decide) rfl).mp e7
  clear m1 m2 m3 m4
  obtain ⟨a, h, N, t, e, w, h0, N0, ⟨q, hq⟩, H⟩ := f0
  cases e
  subst hq
  obtain ⟨a8, c8, h8, m8, t8, e8, w8, p8, k8, z8, y8⟩ := f1
  cases e8
  obtain rfl := fTw_u w8 w
  obtain ⟨m9, e9, M⟩ := f2
  cases e9
  have hG := fGood_pl (fTk_good H).1 M
  have hN := fTk_le H
  obtain ⟨a6, h6, c6, i6, N6, pa6, fi6, af6, L, e6, w6, y6, z6, u6, n6a, n6b, L1, L2, L3, i6a, L4⟩ := f3
  cases e6
  obtain ⟨a7, c7, v7, af7, e7, w7, k7⟩ := f4
  cases e7
  obtain rfl := fRo_u w7 w.2.2.2.1
  obtain rfl := fRo_u z6 w.2.2.2.1
  obtain rfl := fRo_u y6 w.2.2.1
  have q0 : fB K n (.inl q) 61 [fR x0, fI x1, fI x3] (jup σ x5 (jsto (σ x5) x6.toNatClampNeg x3)) := by
    have hg : ¬ K x5 = 25 := by rw [d5]; decide
    have hk : ∀ k, ¬ k = 41 → ¬ K x5 = k := fun k h e => h (by rw [← e]; exact d5)
    refine ⟨_, _, _, (t8.1, t8.2.1, t8.2.2.1, upd t8.2.2.2.1 x6.toInt.toNat x3, t8.2.2.2.2), rfl, ⟨fRo_ne w.1 hg (hk _ (by decide)), fRo_ne w.2.1 hg (hk _ (by decide)), fRo_ne w.2.2.1 hg (hk _ (by decide)), fRo_st w.2.2.2.1 s0 t0 (by decide), fRl_ne w.2.2.2.2 hg (hk _ (by decide))⟩, h0, by omega, ⟨q, rfl⟩, ?_⟩
    rw [show x3.toInt.toNat = x2.toInt.toNat + 1 by omega] at p8 k8 z8 y8 ⊢
    obtain ⟨-, c, hc, ec⟩ := fCn_drop L4 (fun c hc => (L3 c hc).1) (by omega) rfl
    obtain ⟨y1, y2, y3⟩ := L3 c hc
    obtain rfl := fRo_u w6 w.1
    have hc6 : x6.toInt.toNat = c := by omega
    refine fTk_add H (by omega) M hG (fun k _ => rfl) (fun k _ => rfl) rfl (by rw [p8]; omega) k8 z8 (fun k _ _ => rfl) (fun k hk8 hk9 => ?_) (fun L n1 c1 l1 => ?_)
    · show upd t8.2.2.2.1 x6.toInt.toNat x3 k = t8.2.2.2.1 k
      unfold upd
      rw [if_neg (fun e => hk9 (by rw [e, hc6, y3]; omega))]
    · have eL : L = _ := fCn_uq c1 L2 (fun d hd => (l1 d hd).1) (fun d hd => (L3 d hd).1)
      subst eL
      refine fCn_app (N := x2.toInt.toNat) c1 n1 (fun d hd => ⟨(l1 d hd).2, (l1 d hd).1⟩) (fun d hd h9 => ?_) (fun d hd h9 => ?_) ?_ (fun h9 => ?_) (fun _ => rfl)
      · show upd t8.2.2.2.1 x6.toInt.toNat x3 d = t8.2.2.2.1 d
        unfold upd
        split
        next e => subst e; rw [k7] at h9; exact absurd (by omega) h9
        next => rfl
      · show (upd t8.2.2.2.1 x6.toInt.toNat x3 d).toInt = _
        have e9 : d = x6.toInt.toNat := fCn_last c1 n1 (fun d hd => (l1 d hd).1) hd (by rw [hc6]; exact hc) h9 (by rw [k7]; omega)
        unfold upd
        rw [if_pos e9]
        omega
      · show (upd t8.2.2.2.1 x6.toInt.toNat x3 (x2.toInt.toNat + 1)).toInt = 0
        have : x6.toInt.toNat ≤ x2.toInt.toNat := by have := (l1 c hc).2; omega
        unfold upd
        rw [if_neg (by omega)]
        exact y8
      · exfalso
        cases L with
        | nil => cases hc
        | cons d r =>
          have h1 : (t8.2.2.1 x1.toInt.toNat).toInt = (d : Int) := c1.1
          have h2 := (l1 d List.mem_cons_self).1
          omega
  exact ⟨.inl q, fun _ => rfl, ⟨(fun q h => by cases h), fun q h => (by cases h), (fun f h => by cases h), (aAllc ⟨_, rfl, fF_p (r := 979) (by decide) (by decide) rfl q0⟩ (fun f h => by cases h))⟩, [], List.mem_cons_self, fun f h => (by cases h)⟩
set_option maxRecDepth 8192 in
theorem rw_ruLD1 {K : Nat → Nat} {n : Nat} : aGho (fF K n) fa_T K n (fJX K n) ag_ruLD1 := by
  refine aGho_of ⟨rfl, rfl⟩ ?_
  intro p σ ρ hH hX hA hM
  have hG := aAG_of hA.1 (fun i e v he hv => (hA.2 i e v he hv).1)
  clear hA
  obtain ⟨v0, v1, v2, v3, v4, v5, v6, v7, v8, v9, v10, rfl, g0, g1, g2, g3, g4, g5, g6, g7, g8, g9, g10⟩ := fA_11 hG
  clear hG
  obtain ⟨x0, rfl, b0, d0⟩ := fG_ref (by decide) g0
  obtain ⟨x1, rfl, b1, d1⟩ := aG_int g1
  dsimp only at b1 d1
  obtain ⟨x2, rfl, b2, d2⟩ := aG_int g2
  dsimp only at b2 d2
  obtain ⟨x3, rfl, b3, d3⟩ := aG_int g3
  dsimp only at b3 d3
  obtain ⟨x4, rfl, b4, d4⟩ := aG_int g4
  dsimp only at b4 d4
  obtain ⟨x5, rfl, b5, d5⟩ := aG_int g5
  dsimp only at b5 d5
  obtain ⟨x6, rfl, b6, d6⟩ := aG_int g6
  dsimp only at b6 d6
  obtain ⟨x7, rfl, b7, d7⟩ := aG_int g7
  dsimp only at b7 d7
  obtain ⟨x8, rfl, b8, d8⟩ := aG_int g8
  dsimp only at b8 d8
  obtain ⟨x9, rfl, b9, d9⟩ := fG_ref (by decide) g9
  obtain ⟨x10, rfl, b10, d10⟩ := fG_ref (by decide) g10
  obtain ⟨m1, m2, m3, m4⟩ := hM
  obtain ⟨a0, c0, fs0, w0, e1, s0, t0, e4⟩ := m1 (0, 6, 9) (List.mem_of_getElem? (i := 0) rfl)
  obtain rfl : x0 = a0 := Sum.inl.inj (Option.some.inj (Sum.inr.inj (Sum.inr.inj (Option.some.inj (show some (fR x0) = some _ from e1)))))
  obtain rfl : fR x9 = w0 := Option.some.inj (show some (fR x9) = some w0 from e4)
  clear e1 e4
  obtain ⟨a1, c1, fs1, w1, e1, s1, t1, e4⟩ := m1 (0, 5, 10) (List.mem_of_getElem? (i := 1) rfl)
  obtain rfl : x0 = a1 := Sum.inl.inj (Option.some.inj (Sum.inr.inj (Sum.inr.inj (Option.some.inj (show some (fR x0) = some _ from e1)))))
  obtain rfl : fR x10 = w1 := Option.some.inj (show some (fR x10) = some w1 from e4)
  clear e1 e4
  obtain ⟨a, mc0, ty0, gc0, ic0, e1, sc0, jc0, e4, e5⟩ := m2 (9, ([(4, 1)], 0), 8) (List.mem_of_getElem? (i := 0) rfl)
  obtain rfl : x9 = a := Sum.inl.inj (Option.some.inj (Sum.inr.inj (Sum.inr.inj (Option.some.inj (show some (fR x9) = some _ from e1)))))
  obtain ⟨gc0, rfl⟩ : ∃ g, gc0 = .inl g := by
    rcases gc0 with g | g
    · exact ⟨g, rfl⟩
    · exact absurd (show some (fI x8) = some (.inr (.inl (g ic0))) from e5) (fun h => by cases h)
  have sc0 : σ x9 = .inl (ty0, mc0, .inl gc0) := sc0
  have ec0 : x8 = gc0 ic0 := Sum.inl.inj (Option.some.inj (show some (fI x8) = some _ from e5))
  have kc0 : (ic0 : Int) = (1 * x4.toInt + 0) + 0 := by
    obtain ⟨z, e6, e7⟩ := e4
    obtain rfl : (1 * x4.toInt + 0) = z := Option.some.inj (show some (1 * x4.toInt + 0) = some z from e6)
    exact e7
  clear e1 e4 e5
  obtain rfl : ic0 = x4.toInt.toNat := by omega
  have l0 : 0 ≤ (1 * x4.toInt + 0) + -1 := by
    obtain ⟨z, e6, e7⟩ := m3 ([(4, 1)], -1) (List.mem_of_getElem? (i := 0) rfl)
    obtain rfl : (1 * x4.toInt + 0) = z := Option.some.inj (show some (1 * x4.toInt + 0) = some z from e6)
    exact e7
  have l1 : 0 ≤ (1 * x5.toInt + 0) + -1 := by
    obtain ⟨z, e6, e7⟩ := m3 ([(5, 1)], -1) (List.mem_of_getElem? (i := 1) rfl)
    obtain rfl : (1 * x5.toInt + 0) = z := Option.some.inj (show some (1 * x5.toInt + 0) = some z from e6)
    exact e7
  have l2 : 0 ≤ (1 * x2.toInt + (-1 * x4.toInt + 0)) + 0 := by
    obtain ⟨z, e6, e7⟩ := m3 ([(2, 1), (4, -1)], 0) (List.mem_of_getElem? (i := 2) rfl)
    obtain rfl : (1 * x2.toInt + (-1 * x4.toInt + 0)) = z := Option.some.inj (show some (1 * x2.toInt + (-1 * x4.toInt + 0)) = some z from e6)
    exact e7
  have l3 : 0 ≤ (1 * x6.toInt + (-1 * x4.toInt + 0)) + 0 := by
    obtain ⟨z, e6, e7⟩ := m3 ([(6, 1), (4, -1)], 0) (List.mem_of_getElem? (i := 3) rfl)
    obtain rfl : (1 * x6.toInt + (-1 * x4.toInt + 0)) = z := Option.some.inj (show some (1 * x6.toInt + (-1 * x4.toInt + 0)) = some z from e6)
    exact e7
  have l4 : 0 ≤ (-1 * x6.toInt + (1 * x4.toInt + 0)) + 0 := by
    obtain ⟨z, e6, e7⟩ := m3 ([(6, -1), (4, 1)], 0) (List.mem_of_getElem? (i := 4) rfl)
    obtain rfl : (-1 * x6.toInt + (1 * x4.toInt + 0)) = z := Option.some.inj (show some (-1 * x6.toInt + (1 * x4.toInt + 0)) = some z from e6)
    exact e7
  have f0 : fB K n p 61 [fR x0, fI x1, fI x2] σ := by
    obtain ⟨w, e6, e7⟩ := m4 (979, [0, 1, 2]) (List.mem_of_getElem? (i := 0) rfl)
    obtain rfl : [fR x0, fI x1, fI x2] = w := Option.some.inj (show some [fR x0, fI x1, fI x2] = some w from e6)
    exact (fF_b (r := 979) (by decide) rfl).mp e7
  have f1 : fB K n p 106 [fR x0, fI x3, fI x5, fI x7] σ := by
    obtain ⟨w, e6, e7⟩ := m4 (1700, [0, 3, 5, 7]) (List.mem_of_getElem? (i := 1) rfl)
    obtain rfl : [fR x0, fI x3, fI x5, fI x7] = w := Option.some.inj (show some [fR x0, fI x3, fI x5, fI x7] = some w from e6)
    exact (fF_b (r := 1700) (by decide) rfl).mp e7
  have f2 : fB K n p 113 [fR x0, fI x5, fI x6] σ := by
    obtain ⟨w, e6, e7⟩ := m4 (1811, [0, 5, 6]) (List.mem_of_getElem? (i := 2) rfl)
    obtain rfl : [fR x0, fI x5, fI x6] = w := Option.some.inj (show some [fR x0, fI x5, fI x6] = some w from e6)
    exact (fF_b (r := 1811) (by decide) rfl).mp e7
  have f3 : fB K n p 104 [fR x0, fI x4, fI x3] σ := by
    obtain ⟨w, e6, e7⟩ := m4 (1667, [0, 4, 3]) (List.mem_of_getElem? (i := 3) rfl)
    obtain rfl : [fR x0, fI x4, fI x3] = w := Option.some.inj (show some [fR x0, fI x4, fI x3] = some w from e6)
    exact (fF_b (r := 1667) (by decide) rfl).mp e7
  clear m1 m2 m3 m4
  obtain ⟨a, h, N, t, e, w, h0, N0, ⟨q, hq⟩, H⟩ := f0
  cases e
  subst hq
  obtain ⟨a6, h6, c6, i6, N6, pa6, fi6, af6, L, e6, w6, y6, z6, u6, n6a, n6b, L1, L2, L3, i6a, L4⟩ := f1
  cases e6
  obtain ⟨a7, c7, v7, af7, e7, w7, k7⟩ := f2
  cases e7
  obtain ⟨a4, c4, h4, N4, pa4, e4, w4, u4, l4a, l4b, p4⟩ := f3
  cases e4
  obtain rfl := fRo_u w7 w.2.2.2.1
  obtain rfl := fRo_u z6 w.2.2.2.1
  obtain rfl := fRo_u y6 w.2.2.1
  obtain rfl := fRo_c w.2.2.2.1 s0 t0 sc0
  obtain rfl := fRo_u w6 w.1
  obtain rfl := fRo_u w4 w.1
  have q0 : fB K n (.inl q) 64 [fR x0, fI x1, fI x2, fI x3, fI x4] (jup σ x9 (jsto (σ x9) x5.toNatClampNeg x8)) := by
    have hg : ¬ K x9 = 25 := by rw [d9]; decide
    have hk : ∀ k, ¬ k = 41 → ¬ K x9 = k := fun k h e => h (by rw [← e]; exact d9)
    refine ⟨_, _, _, _, _, (t.1, t.2.1, t.2.2.1, upd t.2.2.2.1 x5.toInt.toNat x8, t.2.2.2.2), rfl, ⟨fRo_ne w.1 hg (hk _ (by decide)), fRo_ne w.2.1 hg (hk _ (by decide)), fRo_ne w.2.2.1 hg (hk _ (by decide)), fRo_st w.2.2.2.1 s0 t0 (by decide), fRl_ne w.2.2.2.2 hg (hk _ (by decide))⟩, h0, N0, ⟨q, rfl⟩, ?_⟩
    obtain rfl : x6 = x4 := fI0 (by omega)
    have hpa := fTk_pa H (k := x6.toInt.toNat) (by omega) (by omega)
    rw [p4] at hpa
    have hl := fTk_lead H (ab := x3.toInt.toNat) (bf := x5.toInt.toNat) (nd := x6.toInt.toNat) (i := x7.toInt.toNat) (ndI := x6) L1 L2 (fun c hc => ⟨(L3 c hc).1, ?_, ?_⟩) (by rw [show ((x5.toInt.toNat : Nat) : Int) = x5.toInt by omega]; exact L4) (by omega) (by rw [k7]; omega) (by omega) (by omega) (by omega)
    · rw [ec0]
      exact hl
    · exact fCn_le H L1 L2 (fun d hd => (L3 d hd).1) (by omega) hc
    · rw [(L3 c hc).2.2]; omega
  exact ⟨.inl q, fun _ => rfl, ⟨(fun q h => by cases h), fun q h => (by cases h), (fun f h => by cases h), (aAllc ⟨_, rfl, fF_p (r := 1029) (by decide) (by decide) rfl q0⟩ (fun f h => by cases h))⟩, [], List.mem_cons_self, fun f h => (by cases h)⟩
set_option maxRecDepth 8192 in
theorem rw_ruLD2 {K : Nat → Nat} {n : Nat} : aGho (fF K n) fa_T K n (fJX K n) ag_ruLD2 := by
  refine aGho_of ⟨rfl, rfl⟩ ?_
  intro p σ ρ hH hX hA hM
  have hG := aAG_of hA.1 (fun i e v he hv => (hA.2 i e v he hv).1)
  clear hA
  obtain ⟨v0, v1, v2, v3, v4, v5, v6, v7, rfl, g0, g1, g2, g3, g4, g5, g6, g7⟩ := fA_8 hG
  clear hG
  obtain ⟨x0, rfl, b0, d0⟩ := fG_ref (by decide) g0
  obtain ⟨x1, rfl, b1, d1⟩ := aG_int g1
  dsimp only at b1 d1
  obtain ⟨x2, rfl, b2, d2⟩ := aG_int g2
  dsimp only at b2 d2
  obtain ⟨x3, rfl, b3, d3⟩ := aG_int g3
  dsimp only at b3 d3
  obtain ⟨x4, rfl, b4, d4⟩ := aG_int g4
  dsimp only at b4 d4
  obtain ⟨x5, rfl, b5, d5⟩ := aG_int g5
  dsimp only at b5 d5
  obtain ⟨x6, rfl, b6, d6⟩ := fG_ref (by decide) g6
  obtain ⟨x7, rfl, b7, d7⟩ := fG_ref (by decide) g7
  obtain ⟨m1, m2, m3, m4⟩ := hM
  obtain ⟨a0, c0, fs0, w0, e1, s0, t0, e4⟩ := m1 (0, 6, 6) (List.mem_of_getElem? (i := 0) rfl)
  obtain rfl : x0 = a0 := Sum.inl.inj (Option.some.inj (Sum.inr.inj (Sum.inr.inj (Option.some.inj (show some (fR x0) = some _ from e1)))))
  obtain rfl : fR x6 = w0 := Option.some.inj (show some (fR x6) = some w0 from e4)
  clear e1 e4
  obtain ⟨a1, c1, fs1, w1, e1, s1, t1, e4⟩ := m1 (0, 5, 7) (List.mem_of_getElem? (i := 1) rfl)
  obtain rfl : x0 = a1 := Sum.inl.inj (Option.some.inj (Sum.inr.inj (Sum.inr.inj (Option.some.inj (show some (fR x0) = some _ from e1)))))
  obtain rfl : fR x7 = w1 := Option.some.inj (show some (fR x7) = some w1 from e4)
  clear e1 e4
  obtain ⟨a, mc0, ty0, gc0, ic0, e1, sc0, jc0, e4, e5⟩ := m2 (7, ([(3, 1)], 0), 5) (List.mem_of_getElem? (i := 0) rfl)
  obtain rfl : x7 = a := Sum.inl.inj (Option.some.inj (Sum.inr.inj (Sum.inr.inj (Option.some.inj (show some (fR x7) = some _ from e1)))))
  obtain ⟨gc0, rfl⟩ : ∃ g, gc0 = .inl g := by
    rcases gc0 with g | g
    · exact ⟨g, rfl⟩
    · exact absurd (show some (fI x5) = some (.inr (.inl (g ic0))) from e5) (fun h => by cases h)
  have sc0 : σ x7 = .inl (ty0, mc0, .inl gc0) := sc0
  have ec0 : x5 = gc0 ic0 := Sum.inl.inj (Option.some.inj (show some (fI x5) = some _ from e5))
  have kc0 : (ic0 : Int) = (1 * x3.toInt + 0) + 0 := by
    obtain ⟨z, e6, e7⟩ := e4
    obtain rfl : (1 * x3.toInt + 0) = z := Option.some.inj (show some (1 * x3.toInt + 0) = some z from e6)
    exact e7
  clear e1 e4 e5
  obtain rfl : ic0 = x3.toInt.toNat := by omega
  have f0 : fB K n p 64 [fR x0, fI x1, fI x2, fI x3, fI x4] σ := by
    obtain ⟨w, e6, e7⟩ := m4 (1029, [0, 1, 2, 3, 4]) (List.mem_of_getElem? (i := 0) rfl)
    obtain rfl : [fR x0, fI x1, fI x2, fI x3, fI x4] = w := Option.some.inj (show some [fR x0, fI x1, fI x2, fI x3, fI x4] = some w from e6)
    exact (fF_b (r := 1029) (by decide) rfl).mp e7
  clear m1 m2 m3 m4
  obtain ⟨a, h, N, ab, nd, t, e, w, h0, N0, hq, H⟩ := f0
  cases e
  obtain rfl := fRo_c w.2.2.1 s1 t1 sc0
  have q0 : fB K n (p) 63 [fR x0, fI x1, fI x2, fI x3, fI x4] (jup σ x6 (jsto (σ x6) x4.toNatClampNeg x5)) := by
    have hg : ¬ K x6 = 25 := by rw [d6]; decide
    have hk : ∀ k, ¬ k = 41 → ¬ K x6 = k := fun k h e => h (by rw [← e]; exact d6)
    exact ⟨_, _, _, _, _, (t.1, t.2.1, t.2.2.1, upd t.2.2.2.1 x4.toInt.toNat x5, t.2.2.2.2), rfl, ⟨fRo_ne w.1 hg (hk _ (by decide)), fRo_ne w.2.1 hg (hk _ (by decide)), fRo_ne w.2.2.1 hg (hk _ (by decide)), fRo_st w.2.2.2.1 s0 t0 (by decide), fRl_ne w.2.2.2.2 hg (hk _ (by decide))⟩, h0, N0, hq, by rw [ec0]; exact H⟩
  exact ⟨p, fun _ => rfl, ⟨(fun q h => by cases h), fun q h => (by cases h), (fun f h => by cases h), (aAllc ⟨_, rfl, fF_p (r := 1013) (by decide) (by decide) rfl q0⟩ (fun f h => by cases h))⟩, [], List.mem_cons_self, fun f h => (by cases h)⟩
set_option maxRecDepth 8192 in
theorem rw_ruLD3 {K : Nat → Nat} {n : Nat} : aGho (fF K n) fa_T K n (fJX K n) ag_ruLD3 := by
  refine aGho_of ⟨rfl, rfl⟩ ?_
  intro p σ ρ hH hX hA hM
  have hG := aAG_of hA.1 (fun i e v he hv => (hA.2 i e v he hv).1)
  clear hA
  obtain ⟨v0, v1, v2, v3, v4, v5, rfl, g0, g1, g2, g3, g4, g5⟩ := fA_6 hG
  clear hG
  obtain ⟨x0, rfl, b0, d0⟩ := fG_ref (by decide) g0
  obtain ⟨x1, rfl, b1, d1⟩ := aG_int g1
  dsimp only at b1 d1
  obtain ⟨x2, rfl, b2, d2⟩ := aG_int g2
  dsimp only at b2 d2
  obtain ⟨x3, rfl, b3, d3⟩ := aG_int g3
  dsimp only at b3 d3
  obtain ⟨x4, rfl, b4, d4⟩ := aG_int g4
  dsimp only at b4 d4
  obtain ⟨x5, rfl, b5, d5⟩ := fG_ref (by decide) g5
  obtain ⟨m1, m2, m3, m4⟩ := hM
  obtain ⟨a0, c0, fs0, w0, e1, s0, t0, e4⟩ := m1 (0, 5, 5) (List.mem_of_getElem? (i := 0) rfl)
  obtain rfl : x0 = a0 := Sum.inl.inj (Option.some.inj (Sum.inr.inj (Sum.inr.inj (Option.some.inj (show some (fR x0) = some _ from e1)))))
  obtain rfl : fR x5 = w0 := Option.some.inj (show some (fR x5) = some w0 from e4)
  clear e1 e4
  have f0 : fB K n p 63 [fR x0, fI x1, fI x2, fI x3, fI x4] σ := by
    obtain ⟨w, e6, e7⟩ := m4 (1013, [0, 1, 2, 3, 4]) (List.mem_of_getElem? (i := 0) rfl)
    obtain rfl : [fR x0, fI x1, fI x2, fI x3, fI x4] = w := Option.some.inj (show some [fR x0, fI x1, fI x2, fI x3, fI x4] = some w from e6)
    exact (fF_b (r := 1013) (by decide) rfl).mp e7
  clear m1 m2 m3 m4
  obtain ⟨a, h, N, ab, nd, t, e, w, h0, N0, hq, H⟩ := f0
  cases e
  have q0 : fB K n (p) 61 [fR x0, fI x1, fI x2] (jup σ x5 (jsto (σ x5) x3.toNatClampNeg x4)) := by
    have hg : ¬ K x5 = 25 := by rw [d5]; decide
    have hk : ∀ k, ¬ k = 40 → ¬ K x5 = k := fun k h e => h (by rw [← e]; exact d5)
    exact ⟨_, _, _, (t.1, t.2.1, upd t.2.2.1 x3.toInt.toNat x4, t.2.2.2), rfl, ⟨fRo_ne w.1 hg (hk _ (by decide)), fRo_ne w.2.1 hg (hk _ (by decide)), fRo_st w.2.2.1 s0 t0 (by decide), fRo_ne w.2.2.2.1 hg (hk _ (by decide)), fRl_ne w.2.2.2.2 hg (hk _ (by decide))⟩, h0, N0, hq, H⟩
  exact ⟨p, fun _ => rfl, ⟨(fun q h => by cases h), fun q h => (by cases h), (fun f h => by cases h), (aAllc ⟨_, rfl, fF_p (r := 979) (by decide) (by decide) rfl q0⟩ (fun f h => by cases h))⟩, [], List.mem_cons_self, fun f h => (by cases h)⟩
set_option maxRecDepth 8192 in
theorem rw_ruCHc {K : Nat → Nat} {n : Nat} : aGho (fF K n) fa_T K n (fJX K n) ag_ruCHc := by
  refine aGho_of ⟨rfl, rfl⟩ ?_
  intro p σ ρ hH hX hA hM
  have hG := aAG_of hA.1 (fun i e v he hv => (hA.2 i e v he hv).1)
  clear hA
  obtain ⟨v0, v1, v2, v3, v4, rfl, g0, g1, g2, g3, g4⟩ := fA_5 hG
  clear hG
  obtain ⟨x0, rfl, b0, d0⟩ := fG_ref (by decide) g0
  obtain ⟨x1, rfl, b1, d1⟩ := aG_int g1
  dsimp only at b1 d1
  obtain ⟨x2, rfl, b2, d2⟩ := aG_int g2
  dsimp only at b2 d2
  obtain ⟨x3, rfl, b3, d3⟩ := aG_int g3
  dsimp only at b3 d3
  obtain ⟨x4, rfl, b4, d4⟩ := fG_ref (by decide) g4
  obtain ⟨m1, m2, m3, m4⟩ := hM
  obtain ⟨a0, c0, fs0, w0, e1, s0, t0, e4⟩ := m1 (0, 1, 3) (List.mem_of_getElem? (i := 0) rfl)
  obtain rfl : x0 = a0 := Sum.inl.inj (Option.some.inj (Sum.inr.inj (Sum.inr.inj (Option.some.inj (show some (fR x0) = some _ from e1)))))
  obtain rfl : fI x3 = w0 := Option.some.inj (show some (fI x3) = some w0 from e4)
  clear e1 e4
  obtain ⟨a1, c1, fs1, w1, e1, s1, t1, e4⟩ := m1 (0, 3, 4) (List.mem_of_getElem? (i := 1) rfl)
  obtain rfl : x0 = a1 := Sum.inl.inj (Option.some.inj (Sum.inr.inj (Sum.inr.inj (Option.some.inj (show some (fR x0) = some _ from e1)))))
  obtain rfl : fR x4 = w1 := Option.some.inj (show some (fR x4) = some w1 from e4)
  clear e1 e4
  obtain ⟨a, mc0, ty0, gc0, ic0, e1, sc0, jc0, e4, e5⟩ := m2 (4, ([(1, 1)], 0), 2) (List.mem_of_getElem? (i := 0) rfl)
  obtain rfl : x4 = a := Sum.inl.inj (Option.some.inj (Sum.inr.inj (Sum.inr.inj (Option.some.inj (show some (fR x4) = some _ from e1)))))
  obtain ⟨gc0, rfl⟩ : ∃ g, gc0 = .inl g := by
    rcases gc0 with g | g
    · exact ⟨g, rfl⟩
    · exact absurd (show some (fI x2) = some (.inr (.inl (g ic0))) from e5) (fun h => by cases h)
  have sc0 : σ x4 = .inl (ty0, mc0, .inl gc0) := sc0
  have ec0 : x2 = gc0 ic0 := Sum.inl.inj (Option.some.inj (show some (fI x2) = some _ from e5))
  have kc0 : (ic0 : Int) = (1 * x1.toInt + 0) + 0 := by
    obtain ⟨z, e6, e7⟩ := e4
    obtain rfl : (1 * x1.toInt + 0) = z := Option.some.inj (show some (1 * x1.toInt + 0) = some z from e6)
    exact e7
  clear e1 e4 e5
  obtain rfl : ic0 = x1.toInt.toNat := by omega
  have l0 : 0 ≤ (1 * x1.toInt + 0) + -1 := by
    obtain ⟨z, e6, e7⟩ := m3 ([(1, 1)], -1) (List.mem_of_getElem? (i := 0) rfl)
    obtain rfl : (1 * x1.toInt + 0) = z := Option.some.inj (show some (1 * x1.toInt + 0) = some z from e6)
    exact e7
  have l1 : 0 ≤ (1 * x3.toInt + (-1 * x1.toInt + 0)) + 0 := by
    obtain ⟨z, e6, e7⟩ := m3 ([(3, 1), (1, -1)], 0) (List.mem_of_getElem? (i := 1) rfl)
    obtain rfl : (1 * x3.toInt + (-1 * x1.toInt + 0)) = z := Option.some.inj (show some (1 * x3.toInt + (-1 * x1.toInt + 0)) = some z from e6)
    exact e7
  clear m1 m2 m3 m4
  obtain ⟨pa, wpa, epa⟩ := fRo_mk hH b0 d0 s1 t1 b4 d4 (q := ((0, 300), [])) rfl
  rw [sc0] at epa
  cases epa
  have q0 : fB K n (p) 104 [fR x0, fI x1, fI x2] σ := by
    exact ⟨_, _, _, _, gc0, rfl, wpa, fFi_mk hH b0 d0 s0 t0, by omega, by omega, ec0.symm⟩
  exact ⟨p, fun _ => rfl, ⟨(fun q h => by cases h), fun q h => (by cases h), (fun f h => by cases h), (aAllc ⟨_, rfl, (fF_b (r := 1667) (by decide) rfl).mpr q0⟩ (fun f h => by cases h))⟩, [], List.mem_cons_self, fun f h => (by cases h)⟩
set_option maxRecDepth 8192 in
theorem rw_ruPAl {K : Nat → Nat} {n : Nat} : aGho (fF K n) fa_T K n (fJX K n) ag_ruPAl := by
  refine aGho_of ⟨rfl, rfl⟩ ?_
  intro p σ ρ hH hX hA hM
  have hG := aAG_of hA.1 (fun i e v he hv => (hA.2 i e v he hv).1)
  clear hA
  obtain ⟨v0, v1, v2, v3, v4, v5, rfl, g0, g1, g2, g3, g4, g5⟩ := fA_6 hG
  clear hG
  obtain ⟨x0, rfl, b0, d0⟩ := fG_ref (by decide) g0
  obtain ⟨x1, rfl, b1, d1⟩ := aG_int g1
  dsimp only at b1 d1
  obtain ⟨x2, rfl, b2, d2⟩ := aG_int g2
  dsimp only at b2 d2
  obtain ⟨x3, rfl, b3, d3⟩ := aG_int g3
  dsimp only at b3 d3
  obtain ⟨x4, rfl, b4, d4⟩ := aG_int g4
  dsimp only at b4 d4
  obtain ⟨x5, rfl, b5, d5⟩ := fG_ref (by decide) g5
  obtain ⟨m1, m2, m3, m4⟩ := hM
  obtain ⟨a0, c0, fs0, w0, e1, s0, t0, e4⟩ := m1 (0, 3, 5) (List.mem_of_getElem? (i := 0) rfl)
  obtain rfl : x0 = a0 := Sum.inl.inj (Option.some.inj (Sum.inr.inj (Sum.inr.inj (Option.some.inj (show some (fR x0) = some _ from e1)))))
  obtain rfl : fR x5 = w0 := Option.some.inj (show some (fR x5) = some w0 from e4)
  clear e1 e4
  obtain ⟨a, mc0, ty0, gc0, ic0, e1, sc0, jc0, e4, e5⟩ := m2 (5, ([(3, 1)], 0), 4) (List.mem_of_getElem? (i := 0) rfl)
  obtain rfl : x5 = a := Sum.inl.inj (Option.some.inj (Sum.inr.inj (Sum.inr.inj (Option.some.inj (show some (fR x5) = some _ from e1)))))
  obtain ⟨gc0, rfl⟩ : ∃ g, gc0 = .inl g := by
    rcases gc0 with g | g
    · exact ⟨g, rfl⟩
    · exact absurd (show some (fI x4) = some (.inr (.inl (g ic0))) from e5) (fun h => by cases h)
  have sc0 : σ x5 = .inl (ty0, mc0, .inl gc0) := sc0
  have ec0 : x4 = gc0 ic0 := Sum.inl.inj (Option.some.inj (show some (fI x4) = some _ from e5))
  have kc0 : (ic0 : Int) = (1 * x3.toInt + 0) + 0 := by
    obtain ⟨z, e6, e7⟩ := e4
    obtain rfl : (1 * x3.toInt + 0) = z := Option.some.inj (show some (1 * x3.toInt + 0) = some z from e6)
    exact e7
  clear e1 e4 e5
  obtain rfl : ic0 = x3.toInt.toNat := by omega
  have l0 : 0 ≤ (1 * x3.toInt + 0) + -1 := by
    obtain ⟨z, e6, e7⟩ := m3 ([(3, 1)], -1) (List.mem_of_getElem? (i := 0) rfl)
    obtain rfl : (1 * x3.toInt + 0) = z := Option.some.inj (show some (1 * x3.toInt + 0) = some z from e6)
    exact e7
  have l1 : 0 ≤ (1 * x2.toInt + (-1 * x3.toInt + 0)) + 0 := by
    obtain ⟨z, e6, e7⟩ := m3 ([(2, 1), (3, -1)], 0) (List.mem_of_getElem? (i := 1) rfl)
    obtain rfl : (1 * x2.toInt + (-1 * x3.toInt + 0)) = z := Option.some.inj (show some (1 * x2.toInt + (-1 * x3.toInt + 0)) = some z from e6)
    exact e7
  have f0 : fB K n p 61 [fR x0, fI x1, fI x2] σ := by
    obtain ⟨w, e6, e7⟩ := m4 (979, [0, 1, 2]) (List.mem_of_getElem? (i := 0) rfl)
    obtain rfl : [fR x0, fI x1, fI x2] = w := Option.some.inj (show some [fR x0, fI x1, fI x2] = some w from e6)
    exact (fF_b (r := 979) (by decide) rfl).mp e7
  clear m1 m2 m3 m4
  obtain ⟨a, h, N, t, e, w, h0, N0, ⟨q, hq⟩, H⟩ := f0
  cases e
  subst hq
  obtain rfl := fRo_c w.1 s0 t0 sc0
  have hp := fTk_pa H (k := x3.toInt.toNat) (by omega) (by omega)
  rw [← ec0] at hp
  have r0 : 0 ≤ (1 * x3.toInt + (-1 * x4.toInt + 0)) + -1 := by
    omega
  exact ⟨.inl q, fun _ => rfl, ⟨(fun q h => by cases h), fun q h => (by cases h), (aAllc ⟨_, rfl, r0⟩ (fun f h => by cases h)), (fun f h => by cases h)⟩, [], List.mem_cons_self, fun f h => (by cases h)⟩
set_option maxRecDepth 8192 in
theorem rw_ruMan {K : Nat → Nat} {n : Nat} : aGho (fF K n) fa_T K n (fJX K n) ag_ruMan := by
  refine aGho_of ⟨rfl, rfl⟩ ?_
  intro p σ ρ hH hX hA hM
  have hG := aAG_of hA.1 (fun i e v he hv => (hA.2 i e v he hv).1)
  clear hA
  obtain ⟨v0, v1, v2, v3, v4, v5, rfl, g0, g1, g2, g3, g4, g5⟩ := fA_6 hG
  clear hG
  obtain ⟨x0, rfl, b0, d0⟩ := aG_int g0
  dsimp only at b0 d0
  obtain ⟨x1, rfl, b1, d1⟩ := aG_int g1
  dsimp only at b1 d1
  obtain ⟨x2, rfl, b2, d2⟩ := aG_int g2
  dsimp only at b2 d2
  obtain ⟨x3, rfl, b3, d3⟩ := fG_ref (by decide) g3
  obtain ⟨x4, rfl, b4, d4⟩ := aG_int g4
  dsimp only at b4 d4
  obtain ⟨x5, rfl, b5, d5⟩ := fG_ref (by decide) g5
  obtain ⟨m1, m2, m3, m4⟩ := hM
  obtain ⟨a0, c0, fs0, w0, e1, s0, t0, e4⟩ := m1 (3, 0, 5) (List.mem_of_getElem? (i := 0) rfl)
  obtain rfl : x3 = a0 := Sum.inl.inj (Option.some.inj (Sum.inr.inj (Sum.inr.inj (Option.some.inj (show some (fR x3) = some _ from e1)))))
  obtain rfl : fR x5 = w0 := Option.some.inj (show some (fR x5) = some w0 from e4)
  clear e1 e4
  obtain ⟨a, mc0, ty0, gc0, ic0, e1, sc0, jc0, e4, e5⟩ := m2 (5, ([(4, 1)], 0), 1) (List.mem_of_getElem? (i := 0) rfl)
  obtain rfl : x5 = a := Sum.inl.inj (Option.some.inj (Sum.inr.inj (Sum.inr.inj (Option.some.inj (show some (fR x5) = some _ from e1)))))
  obtain ⟨gc0, rfl⟩ : ∃ g, gc0 = .inl g := by
    rcases gc0 with g | g
    · exact ⟨g, rfl⟩
    · exact absurd (show some (fI x1) = some (.inr (.inl (g ic0))) from e5) (fun h => by cases h)
  have sc0 : σ x5 = .inl (ty0, mc0, .inl gc0) := sc0
  have ec0 : x1 = gc0 ic0 := Sum.inl.inj (Option.some.inj (show some (fI x1) = some _ from e5))
  have kc0 : (ic0 : Int) = (1 * x4.toInt + 0) + 0 := by
    obtain ⟨z, e6, e7⟩ := e4
    obtain rfl : (1 * x4.toInt + 0) = z := Option.some.inj (show some (1 * x4.toInt + 0) = some z from e6)
    exact e7
  clear e1 e4 e5
  obtain rfl : ic0 = x4.toInt.toNat := by omega
  have l0 : 0 ≤ (1 * x0.toInt + (-1 * x1.toInt + (8 * x2.toInt + 0))) + 0 := by
    obtain ⟨z, e6, e7⟩ := m3 ([(0, 1), (1, -1), (2, 8)], 0) (List.mem_of_getElem? (i := 0) rfl)
    obtain rfl : (1 * x0.toInt + (-1 * x1.toInt + (8 * x2.toInt + 0))) = z := Option.some.inj (show some (1 * x0.toInt + (-1 * x1.toInt + (8 * x2.toInt + 0))) = some z from e6)
    exact e7
  have l1 : 0 ≤ (-1 * x0.toInt + (1 * x1.toInt + (-8 * x2.toInt + 0))) + 0 := by
    obtain ⟨z, e6, e7⟩ := m3 ([(0, -1), (1, 1), (2, -8)], 0) (List.mem_of_getElem? (i := 1) rfl)
    obtain rfl : (-1 * x0.toInt + (1 * x1.toInt + (-8 * x2.toInt + 0))) = z := Option.some.inj (show some (-1 * x0.toInt + (1 * x1.toInt + (-8 * x2.toInt + 0))) = some z from e6)
    exact e7
  have f0 : fB K n p 1 [fR x3] σ := by
    obtain ⟨w, e6, e7⟩ := m4 (17, [3]) (List.mem_of_getElem? (i := 0) rfl)
    obtain rfl : [fR x3] = w := Option.some.inj (show some [fR x3] = some w from e6)
    exact (fF_b (r := 17) (by decide) rfl).mp e7
  clear m1 m2 m3 m4
  obtain ⟨a9, e9, A, hg9, q9, hq9⟩ := f0
  cases e9
  obtain ⟨g9, hg, hm⟩ := (fAt_of A s0).1 _ t0
  rw [sc0] at hg
  cases hg
  have hx := hg9.2.2.2.2 x4.toInt.toNat (by omega)
  rw [← hm _ (by omega), ← ec0] at hx
  have r0 : 0 ≤ (-1 * x1.toInt + (8 * x2.toInt + 0)) + 6 := by
    omega
  exact ⟨p, fun _ => rfl, ⟨(fun q h => by cases h), fun q h => (by cases h), (aAllc ⟨_, rfl, r0⟩ (fun f h => by cases h)), (fun f h => by cases h)⟩, [], List.mem_cons_self, fun f h => (by cases h)⟩
set_option maxRecDepth 8192 in
theorem rw_ruBec {K : Nat → Nat} {n : Nat} : aGho (fF K n) fa_T K n (fJX K n) ag_ruBec := by
  refine aGho_of ⟨rfl, rfl⟩ ?_
  intro p σ ρ hH hX hA hM
  have hG := aAG_of hA.1 (fun i e v he hv => (hA.2 i e v he hv).1)
  clear hA
  obtain ⟨v0, v1, v2, rfl, g0, g1, g2⟩ := fA_3 hG
  clear hG
  obtain ⟨x0, rfl, b0, d0⟩ := aG_int g0
  dsimp only at b0 d0
  obtain ⟨x1, rfl, b1, d1⟩ := aG_int g1
  dsimp only at b1 d1
  obtain ⟨x2, rfl, b2, d2⟩ := aG_int g2
  dsimp only at b2 d2
  obtain ⟨m1, m2, m3, m4⟩ := hM
  have l0 : 0 ≤ (1 * x0.toInt + (-1 * x1.toInt + (8 * x2.toInt + 0))) + 0 := by
    obtain ⟨z, e6, e7⟩ := m3 ([(0, 1), (1, -1), (2, 8)], 0) (List.mem_of_getElem? (i := 0) rfl)
    obtain rfl : (1 * x0.toInt + (-1 * x1.toInt + (8 * x2.toInt + 0))) = z := Option.some.inj (show some (1 * x0.toInt + (-1 * x1.toInt + (8 * x2.toInt + 0))) = some z from e6)
    exact e7
  have l1 : 0 ≤ (-1 * x0.toInt + (1 * x1.toInt + (-8 * x2.toInt + 0))) + 0 := by
    obtain ⟨z, e6, e7⟩ := m3 ([(0, -1), (1, 1), (2, -8)], 0) (List.mem_of_getElem? (i := 1) rfl)
    obtain rfl : (-1 * x0.toInt + (1 * x1.toInt + (-8 * x2.toInt + 0))) = z := Option.some.inj (show some (-1 * x0.toInt + (1 * x1.toInt + (-8 * x2.toInt + 0))) = some z from e6)
    exact e7
  have f0 : fB K n p 3 [fI x1] σ := by
    obtain ⟨w, e6, e7⟩ := m4 (49, [1]) (List.mem_of_getElem? (i := 0) rfl)
    obtain rfl : [fI x1] = w := Option.some.inj (show some [fI x1] = some w from e6)
    exact (fF_b (r := 49) (by decide) rfl).mp e7
  clear m1 m2 m3 m4
  obtain ⟨m9, e9, k9, hk1, hk2, hk3, hk4, hk5, hk6, hk7, -⟩ := f0
  cases e9
  have hb := (fMk (m := x1) (f := x2.toInt / 64) (t := x2.toInt % 64) (b := x0.toInt) (by omega) (by omega) (by omega) (by omega)).2.2
  have r0 : 0 ≤ (-1 * x1.toInt + (8 * x2.toInt + 0)) + 6 := by
    by_cases h0 : fMb x1 = 0
    · omega
    · have := (hk7.1 h0).2.2
      omega
  exact ⟨p, fun _ => rfl, ⟨(fun q h => by cases h), fun q h => (by cases h), (aAllc ⟨_, rfl, r0⟩ (fun f h => by cases h)), (fun f h => by cases h)⟩, [], List.mem_cons_self, fun f h => (by cases h)⟩
set_option maxRecDepth 8192 in
theorem rw_ruLE {K : Nat → Nat} {n : Nat} : aGho (fF K n) fa_T K n (fJX K n) ag_ruLE := by
  refine aGho_of ⟨rfl, rfl⟩ ?_
  intro p σ ρ hH hX hA hM
  have hG := aAG_of hA.1 (fun i e v he hv => (hA.2 i e v he hv).1)
  clear hA
  obtain ⟨v0, v1, rfl, g0, g1⟩ := fA_2 hG
  clear hG
  obtain ⟨x0, rfl, b0, d0⟩ := fG_ref (by decide) g0
  obtain ⟨x1, rfl, b1, d1⟩ := aG_int g1
  dsimp only at b1 d1
  obtain ⟨m1, m2, m3, m4⟩ := hM
  have f0 : fB K n p 47 [fR x0, fI x1] σ := by
    obtain ⟨w, e6, e7⟩ := m4 (754, [0, 1]) (List.mem_of_getElem? (i := 0) rfl)
    obtain rfl : [fR x0, fI x1] = w := Option.some.inj (show some [fR x0, fI x1] = some w from e6)
    exact (fF_b (r := 754) (by decide) rfl).mp e7
  clear m1 m2 m3 m4
  obtain ⟨a, hi, e, h⟩ := f0
  cases e
  have q0 : fB K n (p) 66 [fR x0, fI x1] σ := by
    exact ⟨_, _, rfl, d0, h⟩
  exact ⟨p, fun _ => rfl, ⟨(fun q h => by cases h), fun q h => (by cases h), (fun f h => by cases h), (aAllc ⟨_, rfl, (fF_b (r := 1058) (by decide) rfl).mpr q0⟩ (fun f h => by cases h))⟩, [], List.mem_cons_self, fun f h => (by cases h)⟩
set_option maxRecDepth 8192 in
theorem rw_ruLME {K : Nat → Nat} {n : Nat} : aGho (fF K n) fa_T K n (fJX K n) ag_ruLME := by
  refine aGho_of ⟨rfl, rfl⟩ ?_
  intro p σ ρ hH hX hA hM
  have hG := aAG_of hA.1 (fun i e v he hv => (hA.2 i e v he hv).1)
  clear hA
  obtain ⟨v0, v1, v2, v3, rfl, g0, g1, g2, g3⟩ := fA_4 hG
  clear hG
  obtain ⟨x0, rfl, b0, d0⟩ := fG_ref (by decide) g0
  obtain ⟨x1, rfl, b1, d1⟩ := aG_int g1
  dsimp only at b1 d1
  obtain ⟨x2, rfl, b2, d2⟩ := aG_int g2
  dsimp only at b2 d2
  obtain ⟨x3, rfl, b3, d3⟩ := aG_int g3
  dsimp only at b3 d3
  obtain ⟨m1, m2, m3, m4⟩ := hM
  obtain ⟨a, mc0, ty0, gc0, ic0, e1, sc0, jc0, e4, e5⟩ := m2 (0, ([(1, 1)], 0), 3) (List.mem_of_getElem? (i := 0) rfl)
  obtain rfl : x0 = a := Sum.inl.inj (Option.some.inj (Sum.inr.inj (Sum.inr.inj (Option.some.inj (show some (fR x0) = some _ from e1)))))
  obtain ⟨gc0, rfl⟩ : ∃ g, gc0 = .inl g := by
    rcases gc0 with g | g
    · exact ⟨g, rfl⟩
    · exact absurd (show some (fI x3) = some (.inr (.inl (g ic0))) from e5) (fun h => by cases h)
  have sc0 : σ x0 = .inl (ty0, mc0, .inl gc0) := sc0
  have ec0 : x3 = gc0 ic0 := Sum.inl.inj (Option.some.inj (show some (fI x3) = some _ from e5))
  have kc0 : (ic0 : Int) = (1 * x1.toInt + 0) + 0 := by
    obtain ⟨z, e6, e7⟩ := e4
    obtain rfl : (1 * x1.toInt + 0) = z := Option.some.inj (show some (1 * x1.toInt + 0) = some z from e6)
    exact e7
  clear e1 e4 e5
  obtain rfl : ic0 = x1.toInt.toNat := by omega
  have l0 : 0 ≤ (1 * x2.toInt + (-1 * x1.toInt + 0)) + -1 := by
    obtain ⟨z, e6, e7⟩ := m3 ([(2, 1), (1, -1)], -1) (List.mem_of_getElem? (i := 0) rfl)
    obtain rfl : (1 * x2.toInt + (-1 * x1.toInt + 0)) = z := Option.some.inj (show some (1 * x2.toInt + (-1 * x1.toInt + 0)) = some z from e6)
    exact e7
  have f0 : fB K n p 66 [fR x0, fI x2] σ := by
    obtain ⟨w, e6, e7⟩ := m4 (1058, [0, 2]) (List.mem_of_getElem? (i := 0) rfl)
    obtain rfl : [fR x0, fI x2] = w := Option.some.inj (show some [fR x0, fI x2] = some w from e6)
    exact (fF_b (r := 1058) (by decide) rfl).mp e7
  clear m1 m2 m3 m4
  obtain ⟨a, hi, e, hk, h1, h2, m, g, h3, h4⟩ := f0
  cases e
  rw [sc0] at h3
  cases h3
  have q0 : fB K n (p) 3 [fI x3] σ := by
    exact ⟨_, rfl, by rw [ec0]; exact h4 _ (by omega)⟩
  exact ⟨p, fun _ => rfl, ⟨(fun q h => by cases h), fun q h => (by cases h), (fun f h => by cases h), (aAllc ⟨_, rfl, (fF_b (r := 49) (by decide) rfl).mpr q0⟩ (fun f h => by cases h))⟩, [], List.mem_cons_self, fun f h => (by cases h)⟩
set_option maxRecDepth 8192 in
theorem rw_ruL00 {K : Nat → Nat} {n : Nat} : aGho (fF K n) fa_T K n (fJX K n) ag_ruL00 := by
  refine aGho_of ⟨rfl, rfl⟩ ?_
  intro p σ ρ hH hX hA hM
  have hG := aAG_of hA.1 (fun i e v he hv => (hA.2 i e v he hv).1)
  clear hA
  obtain ⟨v0, v1, rfl, g0, g1⟩ := fA_2 hG
  clear hG
  obtain ⟨x0, rfl, b0, d0⟩ := fG_ref (by decide) g0
  obtain ⟨x1, rfl, b1, d1⟩ := aG_int g1
  dsimp only at b1 d1
  obtain ⟨m1, m2, m3, m4⟩ := hM
  clear m1 m2 m3 m4
  obtain ⟨g, e⟩ := fRow hH b0 d0 (q := (.int, 1728, (0, 32767), [])) rfl (by intro h; cases h)
  have q0 : fB K n (p) 66 [fR x0, fI x1] σ := by
    exact ⟨_, _, rfl, d0, b0, by unfold fRw; rw [d0]; simp, _, g, e, fun k hk => by omega⟩
  exact ⟨p, fun _ => rfl, ⟨(fun q h => by cases h), fun q h => (by cases h), (fun f h => by cases h), (aAllc ⟨_, rfl, (fF_b (r := 1058) (by decide) rfl).mpr q0⟩ (fun f h => by cases h))⟩, [], List.mem_cons_self, fun f h => (by cases h)⟩
set_option maxRecDepth 8192 in
theorem rw_ruL0p {K : Nat → Nat} {n : Nat} : aGho (fF K n) fa_T K n (fJX K n) ag_ruL0p := by
  refine aGho_of ⟨rfl, rfl⟩ ?_
  intro p σ ρ hH hX hA hM
  have hG := aAG_of hA.1 (fun i e v he hv => (hA.2 i e v he hv).1)
  clear hA
  obtain ⟨v0, v1, v2, rfl, g0, g1, g2⟩ := fA_3 hG
  clear hG
  obtain ⟨x0, rfl, b0, d0⟩ := fG_ref (by decide) g0
  obtain ⟨x1, rfl, b1, d1⟩ := aG_int g1
  dsimp only at b1 d1
  obtain ⟨x2, rfl, b2, d2⟩ := aG_int g2
  dsimp only at b2 d2
  obtain ⟨m1, m2, m3, m4⟩ := hM
  have f0 : fB K n p 66 [fR x0, fI x1] σ := by
    obtain ⟨w, e6, e7⟩ := m4 (1058, [0, 1]) (List.mem_of_getElem? (i := 0) rfl)
    obtain rfl : [fR x0, fI x1] = w := Option.some.inj (show some [fR x0, fI x1] = some w from e6)
    exact (fF_b (r := 1058) (by decide) rfl).mp e7
  have f1 : fB K n p 3 [fI x2] σ := by
    obtain ⟨w, e6, e7⟩ := m4 (49, [2]) (List.mem_of_getElem? (i := 1) rfl)
    obtain rfl : [fI x2] = w := Option.some.inj (show some [fI x2] = some w from e6)
    exact (fF_b (r := 49) (by decide) rfl).mp e7
  clear m1 m2 m3 m4
  obtain ⟨a, hi, e, hk, h⟩ := f0
  cases e
  obtain ⟨m9, e9, M⟩ := f1
  cases e9
  have q0 : fB K n (p) 65 [fR x0, fI x1] (jup σ x0 (jsto (σ x0) x1.toNatClampNeg x2)) := by
    exact ⟨_, _, rfl, hk, fLl_st h (fun _ => M) (fun k h1 h2 => by rw [fNc] at h1; omega)⟩
  exact ⟨p, fun _ => rfl, ⟨(fun q h => by cases h), fun q h => (by cases h), (fun f h => by cases h), (aAllc ⟨_, rfl, fF_p (r := 1042) (by decide) (by decide) rfl q0⟩ (fun f h => by cases h))⟩, [], List.mem_cons_self, fun f h => (by cases h)⟩
set_option maxRecDepth 8192 in
theorem rw_ruL0n {K : Nat → Nat} {n : Nat} : aGho (fF K n) fa_T K n (fJX K n) ag_ruL0n := by
  refine aGho_of ⟨rfl, rfl⟩ ?_
  intro p σ ρ hH hX hA hM
  have hG := aAG_of hA.1 (fun i e v he hv => (hA.2 i e v he hv).1)
  clear hA
  obtain ⟨v0, v1, v2, rfl, g0, g1, g2⟩ := fA_3 hG
  clear hG
  obtain ⟨x0, rfl, b0, d0⟩ := fG_ref (by decide) g0
  obtain ⟨x1, rfl, b1, d1⟩ := aG_int g1
  dsimp only at b1 d1
  obtain ⟨x2, rfl, b2, d2⟩ := aG_int g2
  dsimp only at b2 d2
  obtain ⟨m1, m2, m3, m4⟩ := hM
  have l0 : 0 ≤ (1 * x2.toInt + (-1 * x1.toInt + 0)) + -1 := by
    obtain ⟨z, e6, e7⟩ := m3 ([(2, 1), (1, -1)], -1) (List.mem_of_getElem? (i := 0) rfl)
    obtain rfl : (1 * x2.toInt + (-1 * x1.toInt + 0)) = z := Option.some.inj (show some (1 * x2.toInt + (-1 * x1.toInt + 0)) = some z from e6)
    exact e7
  have l1 : 0 ≤ (-1 * x2.toInt + (1 * x1.toInt + 0)) + 1 := by
    obtain ⟨z, e6, e7⟩ := m3 ([(2, -1), (1, 1)], 1) (List.mem_of_getElem? (i := 1) rfl)
    obtain rfl : (-1 * x2.toInt + (1 * x1.toInt + 0)) = z := Option.some.inj (show some (-1 * x2.toInt + (1 * x1.toInt + 0)) = some z from e6)
    exact e7
  have f0 : fB K n p 65 [fR x0, fI x1] σ := by
    obtain ⟨w, e6, e7⟩ := m4 (1042, [0, 1]) (List.mem_of_getElem? (i := 0) rfl)
    obtain rfl : [fR x0, fI x1] = w := Option.some.inj (show some [fR x0, fI x1] = some w from e6)
    exact (fF_b (r := 1042) (by decide) rfl).mp e7
  clear m1 m2 m3 m4
  obtain ⟨a, hi, e, hk, h1, h2, m, g, h3, h4⟩ := f0
  cases e
  have q0 : fB K n (p) 66 [fR x0, fI x2] σ := by
    exact ⟨_, _, rfl, hk, h1, h2, m, g, h3, fun k hk => h4 k (by omega)⟩
  exact ⟨p, fun _ => rfl, ⟨(fun q h => by cases h), fun q h => (by cases h), (fun f h => by cases h), (aAllc ⟨_, rfl, (fF_b (r := 1058) (by decide) rfl).mpr q0⟩ (fun f h => by cases h))⟩, [], List.mem_cons_self, fun f h => (by cases h)⟩
set_option maxRecDepth 8192 in
theorem rw_ruSB {K : Nat → Nat} {n : Nat} : aGho (fF K n) fa_T K n (fJX K n) ag_ruSB := by
  refine aGho_of ⟨rfl, rfl⟩ ?_
  intro p σ ρ hH hX hA hM
  have hG := aAG_of hA.1 (fun i e v he hv => (hA.2 i e v he hv).1)
  clear hA
  obtain ⟨v0, v1, rfl, g0, g1⟩ := fA_2 hG
  clear hG
  obtain ⟨x0, rfl, b0, d0⟩ := fG_ref (by decide) g0
  obtain ⟨x1, rfl, b1, d1⟩ := fG_ref (by decide) g1
  obtain ⟨m1, m2, m3, m4⟩ := hM
  obtain ⟨a0, c0, fs0, w0, e1, s0, t0, e4⟩ := m1 (0, 7, 1) (List.mem_of_getElem? (i := 0) rfl)
  obtain rfl : x0 = a0 := Sum.inl.inj (Option.some.inj (Sum.inr.inj (Sum.inr.inj (Option.some.inj (show some (fR x0) = some _ from e1)))))
  obtain rfl : fR x1 = w0 := Option.some.inj (show some (fR x1) = some w0 from e4)
  clear e1 e4
  clear m1 m2 m3 m4
  have q0 : fB K n (p) 114 [fR x0, fR x1] σ := by
    exact ⟨_, _, rfl, b0, d0, _, _, s0, t0⟩
  exact ⟨p, fun _ => rfl, ⟨(fun q h => by cases h), fun q h => (by cases h), (fun f h => by cases h), (aAllc ⟨_, rfl, (fF_b (r := 1826) (by decide) rfl).mpr q0⟩ (fun f h => by cases h))⟩, [], List.mem_cons_self, fun f h => (by cases h)⟩
set_option maxRecDepth 8192 in
theorem rw_ruSB0 {K : Nat → Nat} {n : Nat} : aGho (fF K n) fa_T K n (fJX K n) ag_ruSB0 := by
  refine aGho_of ⟨rfl, rfl⟩ ?_
  intro p σ ρ hH hX hA hM
  have hG := aAG_of hA.1 (fun i e v he hv => (hA.2 i e v he hv).1)
  clear hA
  obtain ⟨v0, v1, v2, rfl, g0, g1, g2⟩ := fA_3 hG
  clear hG
  obtain ⟨x0, rfl, b0, d0⟩ := aG_int g0
  dsimp only at b0 d0
  obtain ⟨x1, rfl, b1, d1⟩ := fG_ref (by decide) g1
  obtain ⟨x2, rfl, b2, d2⟩ := fG_ref (by decide) g2
  obtain ⟨m1, m2, m3, m4⟩ := hM
  have l0 : 0 ≤ (-1 * x0.toInt + 0) + 0 := by
    obtain ⟨z, e6, e7⟩ := m3 ([(0, -1)], 0) (List.mem_of_getElem? (i := 0) rfl)
    obtain rfl : (-1 * x0.toInt + 0) = z := Option.some.inj (show some (-1 * x0.toInt + 0) = some z from e6)
    exact e7
  clear m1 m2 m3 m4
  have q0 : fB K n (p) 115 [fI x0, fR x1, fR x2] σ := by
    exact ⟨_, _, _, rfl, Or.inl (by omega)⟩
  exact ⟨p, fun _ => rfl, ⟨(fun q h => by cases h), fun q h => (by cases h), (fun f h => by cases h), (aAllc ⟨_, rfl, (fF_b (r := 1843) (by decide) rfl).mpr q0⟩ (fun f h => by cases h))⟩, [], List.mem_cons_self, fun f h => (by cases h)⟩
set_option maxRecDepth 8192 in
theorem rw_ruSB1 {K : Nat → Nat} {n : Nat} : aGho (fF K n) fa_T K n (fJX K n) ag_ruSB1 := by
  refine aGho_of ⟨rfl, rfl⟩ ?_
  intro p σ ρ hH hX hA hM
  have hG := aAG_of hA.1 (fun i e v he hv => (hA.2 i e v he hv).1)
  clear hA
  obtain ⟨v0, v1, v2, rfl, g0, g1, g2⟩ := fA_3 hG
  clear hG
  obtain ⟨x0, rfl, b0, d0⟩ := aG_int g0
  dsimp only at b0 d0
  obtain ⟨x1, rfl, b1, d1⟩ := fG_ref (by decide) g1
  obtain ⟨x2, rfl, b2, d2⟩ := fG_ref (by decide) g2
  obtain ⟨m1, m2, m3, m4⟩ := hM
  have f0 : fB K n p 114 [fR x1, fR x2] σ := by
    obtain ⟨w, e6, e7⟩ := m4 (1826, [1, 2]) (List.mem_of_getElem? (i := 0) rfl)
    obtain rfl : [fR x1, fR x2] = w := Option.some.inj (show some [fR x1, fR x2] = some w from e6)
    exact (fF_b (r := 1826) (by decide) rfl).mp e7
  clear m1 m2 m3 m4
  obtain ⟨a, b, e, h⟩ := f0
  cases e
  have q0 : fB K n (p) 115 [fI x0, fR x1, fR x2] σ := by
    exact ⟨_, _, _, rfl, Or.inr h⟩
  exact ⟨p, fun _ => rfl, ⟨(fun q h => by cases h), fun q h => (by cases h), (fun f h => by cases h), (aAllc ⟨_, rfl, (fF_b (r := 1843) (by decide) rfl).mpr q0⟩ (fun f h => by cases h))⟩, [], List.mem_cons_self, fun f h => (by cases h)⟩
set_option maxRecDepth 8192 in
theorem rw_ruSB2 {K : Nat → Nat} {n : Nat} : aGho (fF K n) fa_T K n (fJX K n) ag_ruSB2 := by
  refine aGho_of ⟨rfl, rfl⟩ ?_
  intro p σ ρ hH hX hA hM
  have hG := aAG_of hA.1 (fun i e v he hv => (hA.2 i e v he hv).1)
  clear hA
  obtain ⟨v0, v1, v2, rfl, g0, g1, g2⟩ := fA_3 hG
  clear hG
  obtain ⟨x0, rfl, b0, d0⟩ := aG_int g0
  dsimp only at b0 d0
  obtain ⟨x1, rfl, b1, d1⟩ := fG_ref (by decide) g1
  obtain ⟨x2, rfl, b2, d2⟩ := fG_ref (by decide) g2
  obtain ⟨m1, m2, m3, m4⟩ := hM
  have l0 : 0 ≤ (1 * x0.toInt + 0) + -1 := by
    obtain ⟨z, e6, e7⟩ := m3 ([(0, 1)], -1) (List.mem_of_getElem? (i := 0) rfl)
    obtain rfl : (1 * x0.toInt + 0) = z := Option.some.inj (show some (1 * x0.toInt + 0) = some z from e6)
    exact e7
  have f0 : fB K n p 115 [fI x0, fR x1, fR x2] σ := by
    obtain ⟨w, e6, e7⟩ := m4 (1843, [0, 1, 2]) (List.mem_of_getElem? (i := 0) rfl)
    obtain rfl : [fI x0, fR x1, fR x2] = w := Option.some.inj (show some [fI x0, fR x1, fR x2] = some w from e6)
    exact (fF_b (r := 1843) (by decide) rfl).mp e7
  clear m1 m2 m3 m4
  obtain ⟨x, a, b, e, h⟩ := f0
  cases e
  have q0 : fB K n (p) 114 [fR x1, fR x2] σ := by
    exact ⟨_, _, rfl, h.resolve_left (by omega)⟩
  exact ⟨p, fun _ => rfl, ⟨(fun q h => by cases h), fun q h => (by cases h), (fun f h => by cases h), (aAllc ⟨_, rfl, (fF_b (r := 1826) (by decide) rfl).mpr q0⟩ (fun f h => by cases h))⟩, [], List.mem_cons_self, fun f h => (by cases h)⟩
set_option maxRecDepth 8192 in
theorem rw_ruSBc {K : Nat → Nat} {n : Nat} : aGho (fF K n) fa_T K n (fJX K n) ag_ruSBc := by
  refine aGho_of ⟨rfl, rfl⟩ ?_
  intro p σ ρ hH hX hA hM
  have hG := aAG_of hA.1 (fun i e v he hv => (hA.2 i e v he hv).1)
  clear hA
  obtain ⟨v0, v1, rfl, g0, g1⟩ := fA_2 hG
  clear hG
  obtain ⟨x0, rfl, b0, d0⟩ := fG_ref (by decide) g0
  obtain ⟨x1, rfl, b1, d1⟩ := fG_ref (by decide) g1
  obtain ⟨m1, m2, m3, m4⟩ := hM
  have f0 : fB K n p 114 [fR x0, fR x1] σ := by
    obtain ⟨w, e6, e7⟩ := m4 (1826, [0, 1]) (List.mem_of_getElem? (i := 0) rfl)
    obtain rfl : [fR x0, fR x1] = w := Option.some.inj (show some [fR x0, fR x1] = some w from e6)
    exact (fF_b (r := 1826) (by decide) rfl).mp e7
  clear m1 m2 m3 m4
  obtain ⟨a, b, e, -, -, h⟩ := f0
  cases e
  have z0 : ∃ (c : Nat) (fs : List jv), σ x0 = .inr (c, fs) ∧ fs[7]? = some (fR x1) := by
    exact h
  exact ⟨p, fun _ => rfl, ⟨(aAllc (by obtain ⟨c, fs, h1, h2⟩ := z0; exact ⟨_, c, fs, _, rfl, h1, h2, rfl⟩) (fun q h => by cases h)), fun q h => (by cases h), (fun f h => by cases h), (fun f h => by cases h)⟩, [], List.mem_cons_self, fun f h => (by cases h)⟩
set_option maxRecDepth 8192 in
theorem rw_ruLO0b {K : Nat → Nat} {n : Nat} : aGho (fF K n) fa_T K n (fJX K n) ag_ruLO0b := by
  refine aGho_of ⟨rfl, rfl⟩ ?_
  intro p σ ρ hH hX hA hM
  have hG := aAG_of hA.1 (fun i e v he hv => (hA.2 i e v he hv).1)
  clear hA
  obtain ⟨v0, v1, rfl, g0, g1⟩ := fA_2 hG
  clear hG
  obtain ⟨x0, rfl, b0, d0⟩ := aG_int g0
  dsimp only at b0 d0
  obtain ⟨x1, rfl, b1, d1⟩ := fG_ref (by decide) g1
  obtain ⟨m1, m2, m3, m4⟩ := hM
  have f0 : fB K n p 1 [fR x1] σ := by
    obtain ⟨w, e6, e7⟩ := m4 (17, [1]) (List.mem_of_getElem? (i := 0) rfl)
    obtain rfl : [fR x1] = w := Option.some.inj (show some [fR x1] = some w from e6)
    exact (fF_b (r := 17) (by decide) rfl).mp e7
  clear m1 m2 m3 m4
  have q0 : fB K n (p) 46 [fI x0] σ := by
    exact ⟨_, rfl, Or.inl (by omega)⟩
  exact ⟨p, fun _ => rfl, ⟨(fun q h => by cases h), fun q h => (by cases h), (fun f h => by cases h), (aAllc ⟨_, rfl, (fF_b (r := 737) (by decide) rfl).mpr q0⟩ (fun f h => by cases h))⟩, [], List.mem_cons_self, fun f h => (by cases h)⟩
end
