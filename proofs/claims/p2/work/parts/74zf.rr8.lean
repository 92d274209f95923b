/-! the reference: rules of u3 -/
theorem rw_rwN98 {K : Nat → Nat} {n : Nat} {JX : (Nat → jcell) → Prop} : aGho (rF K n) fa_T K n JX ag_rwN98 := by
  refine aGho_of ⟨rfl, rfl⟩ ?_
  intro p σ ρ hH hX hA hM0
  have hG := aAG_of hA.1 (fun i e v he hv => (hA.2 i e v he hv).1)
  clear hA
  obtain ⟨v0, v1, rfl, g0, g1⟩ := rA_2 hG
  clear hG
  obtain ⟨x0, rfl, b0, d0⟩ := rG_ref (by decide) g0
  obtain ⟨x1, rfl, b1, d1⟩ := aG_int g1
  dsimp only at b1 d1
  obtain ⟨m1, m2, m3, m4⟩ := hM0
  obtain ⟨T, hT⟩ := rTe_ex hH b0 d0
  obtain ⟨a0, c0, fs0, w0, e1, s0, t0, e4⟩ := m1 (0, 29, 1) (List.mem_of_getElem? (i := 0) rfl)
  obtain rfl : x0 = a0 := Sum.inl.inj (Option.some.inj (Sum.inr.inj (Sum.inr.inj (Option.some.inj (show some (rR x0) = some _ from e1)))))
  obtain rfl : rI x1 = w0 := Option.some.inj (show some (rI x1) = some w0 from e4)
  clear e1 e4
  have f0 : rB K n p 220 [rR x0] σ := by
    obtain ⟨w, e6, e7⟩ := m4 (3521, [0]) (List.mem_of_getElem? (i := 0) rfl)
    obtain rfl : [rR x0] = w := Option.some.inj (show some [rR x0] = some w from e6)
    exact (rF_b (r := 3521) (by decide) rfl).mp e7
  have f0 := ro_220.mp f0
  clear m1 m2 m3 m4
  have r0 : 0 ≤ (-1 * x1.toInt + 0) + 1298 := by
    obtain ⟨v, o, h1, h2⟩ := f0
    cases rOb_u o ⟨b0, d0, _, _, s0, t0⟩
    omega
  have r1 : 0 ≤ (1 * x1.toInt + 0) + 0 := by
    obtain ⟨v, o, h1, h2⟩ := f0
    cases rOb_u o ⟨b0, d0, _, _, s0, t0⟩
    omega
  exact ⟨p, fun _ => rfl, ⟨(fun q h => by cases h), fun q h => (by cases h), (aAllc ⟨_, rfl, r0⟩ (aAllc ⟨_, rfl, r1⟩ (fun f h => by cases h))), (fun f h => by cases h)⟩, [], List.mem_cons_self, fun f h => (by cases h)⟩
theorem rw_rwK98 {K : Nat → Nat} {n : Nat} {JX : (Nat → jcell) → Prop} : aGho (rF K n) fa_T K n JX ag_rwK98 := by
  refine aGho_of ⟨rfl, rfl⟩ ?_
  intro p σ ρ hH hX hA hM0
  have hG := aAG_of hA.1 (fun i e v he hv => (hA.2 i e v he hv).1)
  clear hA
  obtain ⟨v0, v1, v2, v3, rfl, g0, g1, g2, g3⟩ := rA_4 hG
  clear hG
  obtain ⟨x0, rfl, b0, d0⟩ := rG_ref (by decide) g0
  obtain ⟨x1, rfl, b1, d1⟩ := rG_ref (by decide) g1
  obtain ⟨x2, rfl, b2, d2⟩ := aG_int g2
  dsimp only at b2 d2
  obtain ⟨x3, rfl, b3, d3⟩ := aG_int g3
  dsimp only at b3 d3
  obtain ⟨m1, m2, m3, m4⟩ := hM0
  obtain ⟨T, hT⟩ := rTe_ex hH b0 d0
  obtain ⟨a0, c0, fs0, w0, e1, s0, t0, e4⟩ := m1 (0, 31, 1) (List.mem_of_getElem? (i := 0) rfl)
  obtain rfl : x0 = a0 := Sum.inl.inj (Option.some.inj (Sum.inr.inj (Sum.inr.inj (Option.some.inj (show some (rR x0) = some _ from e1)))))
  obtain rfl : rR x1 = w0 := Option.some.inj (show some (rR x1) = some w0 from e4)
  clear e1 e4
  obtain ⟨a1, c1, fs1, w1, e1, s1, t1, e4⟩ := m1 (0, 29, 3) (List.mem_of_getElem? (i := 1) rfl)
  obtain rfl : x0 = a1 := Sum.inl.inj (Option.some.inj (Sum.inr.inj (Sum.inr.inj (Option.some.inj (show some (rR x0) = some _ from e1)))))
  obtain rfl : rI x3 = w1 := Option.some.inj (show some (rI x3) = some w1 from e4)
  clear e1 e4
  have f0 : rB K n p 220 [rR x0] σ := by
    obtain ⟨w, e6, e7⟩ := m4 (3521, [0]) (List.mem_of_getElem? (i := 0) rfl)
    obtain rfl : [rR x0] = w := Option.some.inj (show some [rR x0] = some w from e6)
    exact (rF_b (r := 3521) (by decide) rfl).mp e7
  have f0 := ro_220.mp f0
  clear m1 m2 m3 m4
  have q0 : rB K n p 221 [rR x0] (jup σ x1 (jsto (σ x1) x2.toNatClampNeg x3)) := ro_221.mpr (by
    obtain ⟨v, o, h1, h2⟩ := f0
    cases rOb_u o ⟨b0, d0, _, _, s1, t1⟩
    obtain ⟨g, h⟩ := rRo_of (k := 62) (f := 31) hH b0 d0 s0 t0 b1 d1 rfl
    refine ⟨_, rRo_up h s0 t0, ?_⟩
    have hi : x2.toNatClampNeg = x2.toInt.toNat := rfl
    unfold upd
    rw [if_pos (by rw [hi]; omega)]
    exact ⟨h1, h2⟩)
  exact ⟨p, fun _ => rfl, ⟨(fun q h => by cases h), fun q h => (by cases h), (fun f h => by cases h), (aAllc ⟨_, rfl, rF_p (r := 3537) (by decide) (by decide) q0⟩ (fun f h => by cases h))⟩, [], List.mem_cons_self, fun f h => (by cases h)⟩
theorem rw_rwK98b {K : Nat → Nat} {n : Nat} {JX : (Nat → jcell) → Prop} : aGho (rF K n) fa_T K n JX ag_rwK98b := by
  refine aGho_of ⟨rfl, rfl⟩ ?_
  intro p σ ρ hH hX hA hM0
  have hG := aAG_of hA.1 (fun i e v he hv => (hA.2 i e v he hv).1)
  clear hA
  obtain ⟨v0, v1, v2, rfl, g0, g1, g2⟩ := rA_3 hG
  clear hG
  obtain ⟨x0, rfl, b0, d0⟩ := rG_ref (by decide) g0
  obtain ⟨x1, rfl, b1, d1⟩ := rG_ref (by decide) g1
  obtain ⟨x2, rfl, b2, d2⟩ := aG_int g2
  dsimp only at b2 d2
  obtain ⟨m1, m2, m3, m4⟩ := hM0
  obtain ⟨T, hT⟩ := rTe_ex hH b0 d0
  obtain ⟨a0, c0, fs0, w0, e1, s0, t0, e4⟩ := m1 (0, 31, 1) (List.mem_of_getElem? (i := 0) rfl)
  obtain rfl : x0 = a0 := Sum.inl.inj (Option.some.inj (Sum.inr.inj (Sum.inr.inj (Option.some.inj (show some (rR x0) = some _ from e1)))))
  obtain rfl : rR x1 = w0 := Option.some.inj (show some (rR x1) = some w0 from e4)
  clear e1 e4
  obtain ⟨a, mc0, ty0, gc0, ic0, e1, sc0, jc0, e4, e5⟩ := m2 (1, ([], 4), 2) (List.mem_of_getElem? (i := 0) rfl)
  obtain rfl : x1 = a := Sum.inl.inj (Option.some.inj (Sum.inr.inj (Sum.inr.inj (Option.some.inj (show some (rR x1) = some _ from e1)))))
  obtain ⟨gc0, rfl⟩ : ∃ g, gc0 = .inl g := by
    rcases gc0 with g | g
    · exact ⟨g, rfl⟩
    · exact absurd (show some (rI x2) = some (.inr (.inl (g ic0))) from e5) (fun h => by cases h)
  have sc0 : σ x1 = .inl (ty0, mc0, .inl gc0) := sc0
  have ec0 : x2 = gc0 ic0 := Sum.inl.inj (Option.some.inj (show some (rI x2) = some _ from e5))
  have kc0 : (ic0 : Int) = 0 + 4 := by
    obtain ⟨z, e6, e7⟩ := e4
    obtain rfl : 0 = z := Option.some.inj (show some 0 = some z from e6)
    exact e7
  clear e1 e4 e5
  have f0 : rB K n p 221 [rR x0] σ := by
    obtain ⟨w, e6, e7⟩ := m4 (3537, [0]) (List.mem_of_getElem? (i := 0) rfl)
    obtain rfl : [rR x0] = w := Option.some.inj (show some [rR x0] = some w from e6)
    exact (rF_b (r := 3537) (by decide) rfl).mp e7
  have f0 := ro_221.mp f0
  clear m1 m2 m3 m4
  have q0 : rB K n p 220 [rR x0] (jup σ x0 (jstf (σ x0) 29 (rI x2))) := ro_220.mpr (by
    obtain ⟨g, r1, h1, h2⟩ := f0
    have e1 := rRo_c (i := ic0) r1 s0 t0 sc0 ec0
    rw [show ic0 = 4 by omega] at e1
    obtain ⟨w, o⟩ := rOb_ex (k := 62) (f := 29) hH b0 d0 rfl (by decide)
    exact ⟨x2, rOb_ss o, by omega, by omega⟩)
  exact ⟨p, fun _ => rfl, ⟨(fun q h => by cases h), fun q h => (by cases h), (fun f h => by cases h), (aAllc ⟨_, rfl, rF_pf (r := 3521) (f := 29) (by decide) (by decide) q0⟩ (fun f h => by cases h))⟩, [], List.mem_cons_self, fun f h => (by cases h)⟩
theorem rw_rwSF1 {K : Nat → Nat} {n : Nat} {JX : (Nat → jcell) → Prop} : aGho (rF K n) fa_T K n JX ag_rwSF1 := by
  refine aGho_of ⟨rfl, rfl⟩ ?_
  intro p σ ρ hH hX hA hM0
  have hG := aAG_of hA.1 (fun i e v he hv => (hA.2 i e v he hv).1)
  clear hA
  obtain ⟨v0, v1, v2, v3, v4, v5, rfl, g0, g1, g2, g3, g4, g5⟩ := rA_6 hG
  clear hG
  obtain ⟨x0, rfl, b0, d0⟩ := rG_ref (by decide) g0
  obtain ⟨x1, rfl, b1, d1⟩ := aG_int g1
  dsimp only at b1 d1
  obtain ⟨x2, rfl, b2, d2⟩ := aG_int g2
  dsimp only at b2 d2
  obtain ⟨x3, rfl, b3, d3⟩ := aG_int g3
  dsimp only at b3 d3
  obtain ⟨x4, rfl, b4, d4⟩ := aG_int g4
  dsimp only at b4 d4
  obtain ⟨x5, rfl, b5, d5⟩ := aG_int g5
  dsimp only at b5 d5
  obtain ⟨m1, m2, m3, m4⟩ := hM0
  obtain ⟨T, hT⟩ := rTe_ex hH b0 d0
  obtain ⟨a0, c0, fs0, w0, e1, s0, t0, e4⟩ := m1 (0, 25, 3) (List.mem_of_getElem? (i := 0) rfl)
  obtain rfl : x0 = a0 := Sum.inl.inj (Option.some.inj (Sum.inr.inj (Sum.inr.inj (Option.some.inj (show some (rR x0) = some _ from e1)))))
  obtain rfl : rI x3 = w0 := Option.some.inj (show some (rI x3) = some w0 from e4)
  clear e1 e4
  have l0 : 0 ≤ (1 * x2.toInt + (1 * x3.toInt + 0)) + -1 := by
    obtain ⟨z, e6, e7⟩ := m3 ([(2, 1), (3, 1)], -1) (List.mem_of_getElem? (i := 0) rfl)
    obtain rfl : (1 * x2.toInt + (1 * x3.toInt + 0)) = z := Option.some.inj (show some (1 * x2.toInt + (1 * x3.toInt + 0)) = some z from e6)
    exact e7
  have l1 : 0 ≤ (-1 * x2.toInt + (-1 * x3.toInt + 0)) + 1 := by
    obtain ⟨z, e6, e7⟩ := m3 ([(2, -1), (3, -1)], 1) (List.mem_of_getElem? (i := 1) rfl)
    obtain rfl : (-1 * x2.toInt + (-1 * x3.toInt + 0)) = z := Option.some.inj (show some (-1 * x2.toInt + (-1 * x3.toInt + 0)) = some z from e6)
    exact e7
  have f0 : rB K n p 411 [rR x0, rI x1] σ := by
    obtain ⟨w, e6, e7⟩ := m4 (6578, [0, 1]) (List.mem_of_getElem? (i := 0) rfl)
    obtain rfl : [rR x0, rI x1] = w := Option.some.inj (show some [rR x0, rI x1] = some w from e6)
    exact (rF_b (r := 6578) (by decide) rfl).mp e7
  have f0 := ro_411.mp f0
  have f1 : rB K n p 215 [rR x0, rI x2, rI x4] σ := by
    obtain ⟨w, e6, e7⟩ := m4 (3443, [0, 2, 4]) (List.mem_of_getElem? (i := 1) rfl)
    obtain rfl : [rR x0, rI x2, rI x4] = w := Option.some.inj (show some [rR x0, rI x2, rI x4] = some w from e6)
    exact (rF_b (r := 3443) (by decide) rfl).mp e7
  obtain ⟨M9, h9, f1⟩ := ro_215.mp f1
  obtain rfl := rMg_u hT h9
  clear h9
  clear m1 m2 m3 m4
  have q0 : rB K n p 426 [rI x1, rI x5] σ := ro_426.mpr (by
    have eT : T = rV3 p.1 x1.toInt := rMg_u hT f0.2.1
    have eS : 1 - p.1.2.1 = x3.toInt := rTX_f f0.2.2.1 s0 t0
    intro _ j h1 h2 h3
    rw [eT, show x2.toInt = p.1.2.1 by omega] at f1
    exact f1 (by omega) j h1 h2 h3)
  exact ⟨p, fun _ => rfl, ⟨(fun q h => by cases h), fun q h => (by cases h), (fun f h => by cases h), (aAllc ⟨_, rfl, (rF_b (r := 6818) (by decide) rfl).mpr q0⟩ (fun f h => by cases h))⟩, [], List.mem_cons_self, fun f h => (by cases h)⟩
theorem rw_rwSF0 {K : Nat → Nat} {n : Nat} {JX : (Nat → jcell) → Prop} : aGho (rF K n) fa_T K n JX ag_rwSF0 := by
  refine aGho_of ⟨rfl, rfl⟩ ?_
  intro p σ ρ hH hX hA hM0
  have hG := aAG_of hA.1 (fun i e v he hv => (hA.2 i e v he hv).1)
  clear hA
  obtain ⟨v0, v1, rfl, g0, g1⟩ := rA_2 hG
  clear hG
  obtain ⟨x0, rfl, b0, d0⟩ := aG_int g0
  dsimp only at b0 d0
  obtain ⟨x1, rfl, b1, d1⟩ := aG_int g1
  dsimp only at b1 d1
  obtain ⟨m1, m2, m3, m4⟩ := hM0
  clear m1 m2 m3 m4
  have q0 : rB K n p 426 [rI x0, rI x1] σ := ro_426.mpr (by
    intro h
    omega)
  exact ⟨p, fun _ => rfl, ⟨(fun q h => by cases h), fun q h => (by cases h), (fun f h => by cases h), (aAllc ⟨_, rfl, (rF_b (r := 6818) (by decide) rfl).mpr q0⟩ (fun f h => by cases h))⟩, [], List.mem_cons_self, fun f h => (by cases h)⟩
theorem rw_rwCi0 {K : Nat → Nat} {n : Nat} {JX : (Nat → jcell) → Prop} : aGho (rF K n) fa_T K n JX ag_rwCi0 := by
  refine aGho_of ⟨rfl, rfl⟩ ?_
  intro p σ ρ hH hX hA hM0
  have hG := aAG_of hA.1 (fun i e v he hv => (hA.2 i e v he hv).1)
  clear hA
  obtain ⟨v0, v1, v2, rfl, g0, g1, g2⟩ := rA_3 hG
  clear hG
  obtain ⟨x0, rfl, b0, d0⟩ := rG_ref (by decide) g0
  obtain ⟨x1, rfl, b1, d1⟩ := aG_int g1
  dsimp only at b1 d1
  obtain ⟨x2, rfl, b2, d2⟩ := aG_int g2
  dsimp only at b2 d2
  obtain ⟨m1, m2, m3, m4⟩ := hM0
  obtain ⟨T, hT⟩ := rTe_ex hH b0 d0
  clear m1 m2 m3 m4
  have q0 : rB K n p 223 [rR x0, rI x1, rI x1, rI x2] σ := ro_223.mpr ⟨_, hT, by
    intro _ j h1 h2
    omega⟩
  exact ⟨p, fun _ => rfl, ⟨(fun q h => by cases h), fun q h => (by cases h), (fun f h => by cases h), (aAllc ⟨_, rfl, (rF_b (r := 3572) (by decide) rfl).mpr q0⟩ (fun f h => by cases h))⟩, [], List.mem_cons_self, fun f h => (by cases h)⟩
theorem rw_rwCi1 {K : Nat → Nat} {n : Nat} {JX : (Nat → jcell) → Prop} : aGho (rF K n) fa_T K n JX ag_rwCi1 := by
  refine aGho_of ⟨rfl, rfl⟩ ?_
  intro p σ ρ hH hX hA hM0
  have hG := aAG_of hA.1 (fun i e v he hv => (hA.2 i e v he hv).1)
  clear hA
  obtain ⟨v0, v1, v2, v3, v4, v5, v6, rfl, g0, g1, g2, g3, g4, g5, g6⟩ := rA_7 hG
  clear hG
  obtain ⟨x0, rfl, b0, d0⟩ := rG_ref (by decide) g0
  obtain ⟨x1, rfl, b1, d1⟩ := aG_int g1
  dsimp only at b1 d1
  obtain ⟨x2, rfl, b2, d2⟩ := aG_int g2
  dsimp only at b2 d2
  obtain ⟨x3, rfl, b3, d3⟩ := aG_int g3
  dsimp only at b3 d3
  obtain ⟨x4, rfl, b4, d4⟩ := aG_int g4
  dsimp only at b4 d4
  obtain ⟨x5, rfl, b5, d5⟩ := aG_int g5
  dsimp only at b5 d5
  obtain ⟨x6, rfl, b6, d6⟩ := rG_ref (by decide) g6
  obtain ⟨m1, m2, m3, m4⟩ := hM0
  obtain ⟨T, hT⟩ := rTe_ex hH b0 d0
  obtain ⟨a0, c0, fs0, w0, e1, s0, t0, e4⟩ := m1 (0, 24, 6) (List.mem_of_getElem? (i := 0) rfl)
  obtain rfl : x0 = a0 := Sum.inl.inj (Option.some.inj (Sum.inr.inj (Sum.inr.inj (Option.some.inj (show some (rR x0) = some _ from e1)))))
  obtain rfl : rR x6 = w0 := Option.some.inj (show some (rR x6) = some w0 from e4)
  clear e1 e4
  obtain ⟨a, mc0, ty0, gc0, ic0, e1, sc0, jc0, e4, e5⟩ := m2 (6, ([(2, 1)], 0), 4) (List.mem_of_getElem? (i := 0) rfl)
  obtain rfl : x6 = a := Sum.inl.inj (Option.some.inj (Sum.inr.inj (Sum.inr.inj (Option.some.inj (show some (rR x6) = some _ from e1)))))
  obtain ⟨gc0, rfl⟩ : ∃ g, gc0 = .inl g := by
    rcases gc0 with g | g
    · exact ⟨g, rfl⟩
    · exact absurd (show some (rI x4) = some (.inr (.inl (g ic0))) from e5) (fun h => by cases h)
  have sc0 : σ x6 = .inl (ty0, mc0, .inl gc0) := sc0
  have ec0 : x4 = gc0 ic0 := Sum.inl.inj (Option.some.inj (show some (rI x4) = some _ from e5))
  have kc0 : (ic0 : Int) = (1 * x2.toInt + 0) + 0 := by
    obtain ⟨z, e6, e7⟩ := e4
    obtain rfl : (1 * x2.toInt + 0) = z := Option.some.inj (show some (1 * x2.toInt + 0) = some z from e6)
    exact e7
  clear e1 e4 e5
  have y0 : T x2.toInt = x4.toInt := rMg_c hT s0 t0 sc0 (by omega) (by omega) (by omega) ec0
  have f0 : rB K n p 223 [rR x0, rI x1, rI x2, rI x3] σ := by
    obtain ⟨w, e6, e7⟩ := m4 (3572, [0, 1, 2, 3]) (List.mem_of_getElem? (i := 0) rfl)
    obtain rfl : [rR x0, rI x1, rI x2, rI x3] = w := Option.some.inj (show some [rR x0, rI x1, rI x2, rI x3] = some w from e6)
    exact (rF_b (r := 3572) (by decide) rfl).mp e7
  obtain ⟨M9, h9, f0⟩ := ro_223.mp f0
  obtain rfl := rMg_u hT h9
  clear h9
  clear m1 m2 m3 m4
  have q0 : rB K n p 224 [rR x0, rI x1, rI x2, rI x5] σ := ro_224.mpr ⟨_, hT, by
    intro _ j h1 h2
    by_cases cj : j = x2.toInt
    · rw [cj]; omega
    · exact f0 (by omega) j h1 (by omega)⟩
  exact ⟨p, fun _ => rfl, ⟨(fun q h => by cases h), fun q h => (by cases h), (fun f h => by cases h), (aAllc ⟨_, rfl, (rF_b (r := 3588) (by decide) rfl).mpr q0⟩ (fun f h => by cases h))⟩, [], List.mem_cons_self, fun f h => (by cases h)⟩
theorem rw_rwCi2 {K : Nat → Nat} {n : Nat} {JX : (Nat → jcell) → Prop} : aGho (rF K n) fa_T K n JX ag_rwCi2 := by
  refine aGho_of ⟨rfl, rfl⟩ ?_
  intro p σ ρ hH hX hA hM0
  have hG := aAG_of hA.1 (fun i e v he hv => (hA.2 i e v he hv).1)
  clear hA
  obtain ⟨v0, v1, v2, v3, rfl, g0, g1, g2, g3⟩ := rA_4 hG
  clear hG
  obtain ⟨x0, rfl, b0, d0⟩ := rG_ref (by decide) g0
  obtain ⟨x1, rfl, b1, d1⟩ := aG_int g1
  dsimp only at b1 d1
  obtain ⟨x2, rfl, b2, d2⟩ := aG_int g2
  dsimp only at b2 d2
  obtain ⟨x3, rfl, b3, d3⟩ := aG_int g3
  dsimp only at b3 d3
  obtain ⟨m1, m2, m3, m4⟩ := hM0
  obtain ⟨T, hT⟩ := rTe_ex hH b0 d0
  clear m1 m2 m3 m4
  have q0 : rB K n p 224 [rR x0, rI x1, rI x2, rI x3] σ := ro_224.mpr ⟨_, hT, by
    intro h
    omega⟩
  exact ⟨p, fun _ => rfl, ⟨(fun q h => by cases h), fun q h => (by cases h), (fun f h => by cases h), (aAllc ⟨_, rfl, (rF_b (r := 3588) (by decide) rfl).mpr q0⟩ (fun f h => by cases h))⟩, [], List.mem_cons_self, fun f h => (by cases h)⟩
theorem rw_rwCis {K : Nat → Nat} {n : Nat} {JX : (Nat → jcell) → Prop} : aGho (rF K n) fa_T K n JX ag_rwCis := by
  refine aGho_of ⟨rfl, rfl⟩ ?_
  intro p σ ρ hH hX hA hM0
  have hG := aAG_of hA.1 (fun i e v he hv => (hA.2 i e v he hv).1)
  clear hA
  obtain ⟨v0, v1, v2, v3, v4, rfl, g0, g1, g2, g3, g4⟩ := rA_5 hG
  clear hG
  obtain ⟨x0, rfl, b0, d0⟩ := rG_ref (by decide) g0
  obtain ⟨x1, rfl, b1, d1⟩ := aG_int g1
  dsimp only at b1 d1
  obtain ⟨x2, rfl, b2, d2⟩ := aG_int g2
  dsimp only at b2 d2
  obtain ⟨x3, rfl, b3, d3⟩ := aG_int g3
  dsimp only at b3 d3
  obtain ⟨x4, rfl, b4, d4⟩ := aG_int g4
  dsimp only at b4 d4
  obtain ⟨m1, m2, m3, m4⟩ := hM0
  obtain ⟨T, hT⟩ := rTe_ex hH b0 d0
  have l0 : 0 ≤ (1 * x4.toInt + (-1 * x2.toInt + 0)) + -1 := by
    obtain ⟨z, e6, e7⟩ := m3 ([(4, 1), (2, -1)], -1) (List.mem_of_getElem? (i := 0) rfl)
    obtain rfl : (1 * x4.toInt + (-1 * x2.toInt + 0)) = z := Option.some.inj (show some (1 * x4.toInt + (-1 * x2.toInt + 0)) = some z from e6)
    exact e7
  have l1 : 0 ≤ (-1 * x4.toInt + (1 * x2.toInt + 0)) + 1 := by
    obtain ⟨z, e6, e7⟩ := m3 ([(4, -1), (2, 1)], 1) (List.mem_of_getElem? (i := 1) rfl)
    obtain rfl : (-1 * x4.toInt + (1 * x2.toInt + 0)) = z := Option.some.inj (show some (-1 * x4.toInt + (1 * x2.toInt + 0)) = some z from e6)
    exact e7
  have f0 : rB K n p 224 [rR x0, rI x1, rI x2, rI x3] σ := by
    obtain ⟨w, e6, e7⟩ := m4 (3588, [0, 1, 2, 3]) (List.mem_of_getElem? (i := 0) rfl)
    obtain rfl : [rR x0, rI x1, rI x2, rI x3] = w := Option.some.inj (show some [rR x0, rI x1, rI x2, rI x3] = some w from e6)
    exact (rF_b (r := 3588) (by decide) rfl).mp e7
  obtain ⟨M9, h9, f0⟩ := ro_224.mp f0
  obtain rfl := rMg_u hT h9
  clear h9
  clear m1 m2 m3 m4
  have q0 : rB K n p 223 [rR x0, rI x1, rI x4, rI x3] σ := ro_223.mpr ⟨_, hT, by
    intro h j h1 h2
    exact f0 h j h1 (by omega)⟩
  exact ⟨p, fun _ => rfl, ⟨(fun q h => by cases h), fun q h => (by cases h), (fun f h => by cases h), (aAllc ⟨_, rfl, (rF_b (r := 3572) (by decide) rfl).mpr q0⟩ (fun f h => by cases h))⟩, [], List.mem_cons_self, fun f h => (by cases h)⟩
theorem rw_rwCie {K : Nat → Nat} {n : Nat} {JX : (Nat → jcell) → Prop} : aGho (rF K n) fa_T K n JX ag_rwCie := by
  refine aGho_of ⟨rfl, rfl⟩ ?_
  intro p σ ρ hH hX hA hM0
  have hG := aAG_of hA.1 (fun i e v he hv => (hA.2 i e v he hv).1)
  clear hA
  obtain ⟨v0, v1, v2, v3, v4, rfl, g0, g1, g2, g3, g4⟩ := rA_5 hG
  clear hG
  obtain ⟨x0, rfl, b0, d0⟩ := rG_ref (by decide) g0
  obtain ⟨x1, rfl, b1, d1⟩ := aG_int g1
  dsimp only at b1 d1
  obtain ⟨x2, rfl, b2, d2⟩ := aG_int g2
  dsimp only at b2 d2
  obtain ⟨x3, rfl, b3, d3⟩ := aG_int g3
  dsimp only at b3 d3
  obtain ⟨x4, rfl, b4, d4⟩ := aG_int g4
  dsimp only at b4 d4
  obtain ⟨m1, m2, m3, m4⟩ := hM0
  obtain ⟨T, hT⟩ := rTe_ex hH b0 d0
  have l0 : 0 ≤ (1 * x3.toInt + (-1 * x2.toInt + 0)) + -1 := by
    obtain ⟨z, e6, e7⟩ := m3 ([(3, 1), (2, -1)], -1) (List.mem_of_getElem? (i := 0) rfl)
    obtain rfl : (1 * x3.toInt + (-1 * x2.toInt + 0)) = z := Option.some.inj (show some (1 * x3.toInt + (-1 * x2.toInt + 0)) = some z from e6)
    exact e7
  have f0 : rB K n p 223 [rR x0, rI x1, rI x3, rI x4] σ := by
    obtain ⟨w, e6, e7⟩ := m4 (3572, [0, 1, 3, 4]) (List.mem_of_getElem? (i := 0) rfl)
    obtain rfl : [rR x0, rI x1, rI x3, rI x4] = w := Option.some.inj (show some [rR x0, rI x1, rI x3, rI x4] = some w from e6)
    exact (rF_b (r := 3572) (by decide) rfl).mp e7
  obtain ⟨M9, h9, f0⟩ := ro_223.mp f0
  obtain rfl := rMg_u hT h9
  clear h9
  clear m1 m2 m3 m4
  have q0 : rB K n p 222 [rR x0, rI x1, rI x2, rI x4] σ := ro_222.mpr ⟨_, hT, by
    intro h j h1 h2
    exact f0 h j h1 (by omega)⟩
  exact ⟨p, fun _ => rfl, ⟨(fun q h => by cases h), fun q h => (by cases h), (fun f h => by cases h), (aAllc ⟨_, rfl, (rF_b (r := 3556) (by decide) rfl).mpr q0⟩ (fun f h => by cases h))⟩, [], List.mem_cons_self, fun f h => (by cases h)⟩
theorem rw_rwMC0 {K : Nat → Nat} {n : Nat} {JX : (Nat → jcell) → Prop} : aGho (rF K n) fa_T K n JX ag_rwMC0 := by
  refine aGho_of ⟨rfl, rfl⟩ ?_
  intro p σ ρ hH hX hA hM0
  have hG := aAG_of hA.1 (fun i e v he hv => (hA.2 i e v he hv).1)
  clear hA
  obtain ⟨v0, v1, rfl, g0, g1⟩ := rA_2 hG
  clear hG
  obtain ⟨x0, rfl, b0, d0⟩ := aG_int g0
  dsimp only at b0 d0
  obtain ⟨x1, rfl, b1, d1⟩ := aG_int g1
  dsimp only at b1 d1
  obtain ⟨m1, m2, m3, m4⟩ := hM0
  clear m1 m2 m3 m4
  have q0 : rB K n p 428 [rI x0, rI x1] σ := ro_428.mpr (by
    intro h
    omega)
  exact ⟨p, fun _ => rfl, ⟨(fun q h => by cases h), fun q h => (by cases h), (fun f h => by cases h), (aAllc ⟨_, rfl, (rF_b (r := 6850) (by decide) rfl).mpr q0⟩ (fun f h => by cases h))⟩, [], List.mem_cons_self, fun f h => (by cases h)⟩
theorem rw_rwTH10 {K : Nat → Nat} {n : Nat} {JX : (Nat → jcell) → Prop} : aGho (rF K n) fa_T K n JX ag_rwTH10 := by
  refine aGho_of ⟨rfl, rfl⟩ ?_
  intro p σ ρ hH hX hA hM0
  have hG := aAG_of hA.1 (fun i e v he hv => (hA.2 i e v he hv).1)
  clear hA
  obtain ⟨v0, v1, v2, v3, rfl, g0, g1, g2, g3⟩ := rA_4 hG
  clear hG
  obtain ⟨x0, rfl, b0, d0⟩ := rG_ref (by decide) g0
  obtain ⟨x1, rfl, b1, d1⟩ := aG_int g1
  dsimp only at b1 d1
  obtain ⟨x2, rfl, b2, d2⟩ := aG_int g2
  dsimp only at b2 d2
  obtain ⟨x3, rfl, b3, d3⟩ := aG_int g3
  dsimp only at b3 d3
  obtain ⟨m1, m2, m3, m4⟩ := hM0
  obtain ⟨T, hT⟩ := rTe_ex hH b0 d0
  have f0 : rB K n p 204 [rR x0, rI x1, rI x2, rI x3] σ := by
    obtain ⟨w, e6, e7⟩ := m4 (3268, [0, 1, 2, 3]) (List.mem_of_getElem? (i := 0) rfl)
    obtain rfl : [rR x0, rI x1, rI x2, rI x3] = w := Option.some.inj (show some [rR x0, rI x1, rI x2, rI x3] = some w from e6)
    exact (rF_b (r := 3268) (by decide) rfl).mp e7
  obtain ⟨M9, h9, f0⟩ := ro_204.mp f0
  obtain rfl := rMg_u hT h9
  clear h9
  clear m1 m2 m3 m4
  have q0 : rB K n p 230 [rR x0, rI x1] σ := ro_230.mpr ⟨_, hT, by
    rw [if_pos (by omega), show (1 : Int) = x2.toInt by omega]
    exact f0 (by omega)⟩
  exact ⟨p, fun _ => rfl, ⟨(fun q h => by cases h), fun q h => (by cases h), (fun f h => by cases h), (aAllc ⟨_, rfl, (rF_b (r := 3682) (by decide) rfl).mpr q0⟩ (fun f h => by cases h))⟩, [], List.mem_cons_self, fun f h => (by cases h)⟩
theorem rw_rwRG10 {K : Nat → Nat} {n : Nat} {JX : (Nat → jcell) → Prop} : aGho (rF K n) fa_T K n JX ag_rwRG10 := by
  refine aGho_of ⟨rfl, rfl⟩ ?_
  intro p σ ρ hH hX hA hM0
  have hG := aAG_of hA.1 (fun i e v he hv => (hA.2 i e v he hv).1)
  clear hA
  obtain ⟨v0, v1, v2, v3, v4, v5, v6, v7, rfl, g0, g1, g2, g3, g4, g5, g6, g7⟩ := rA_8 hG
  clear hG
  obtain ⟨x0, rfl, b0, d0⟩ := rG_ref (by decide) g0
  obtain ⟨x1, rfl, b1, d1⟩ := aG_int g1
  dsimp only at b1 d1
  obtain ⟨x2, rfl, b2, d2⟩ := aG_int g2
  dsimp only at b2 d2
  obtain ⟨x3, rfl, b3, d3⟩ := aG_int g3
  dsimp only at b3 d3
  obtain ⟨x4, rfl, b4, d4⟩ := aG_int g4
  dsimp only at b4 d4
  obtain ⟨x5, rfl, b5, d5⟩ := aG_int g5
  dsimp only at b5 d5
  obtain ⟨x6, rfl, b6, d6⟩ := aG_int g6
  dsimp only at b6 d6
  obtain ⟨x7, rfl, b7, d7⟩ := aG_int g7
  dsimp only at b7 d7
  obtain ⟨m1, m2, m3, m4⟩ := hM0
  obtain ⟨T, hT⟩ := rTe_ex hH b0 d0
  obtain ⟨a0, c0, fs0, w0, e1, s0, t0, e4⟩ := m1 (0, 25, 7) (List.mem_of_getElem? (i := 0) rfl)
  obtain rfl : x0 = a0 := Sum.inl.inj (Option.some.inj (Sum.inr.inj (Sum.inr.inj (Option.some.inj (show some (rR x0) = some _ from e1)))))
  obtain rfl : rI x7 = w0 := Option.some.inj (show some (rI x7) = some w0 from e4)
  clear e1 e4
  obtain ⟨a1, c1, fs1, w1, e1, s1, t1, e4⟩ := m1 (0, 26, 2) (List.mem_of_getElem? (i := 1) rfl)
  obtain rfl : x0 = a1 := Sum.inl.inj (Option.some.inj (Sum.inr.inj (Sum.inr.inj (Option.some.inj (show some (rR x0) = some _ from e1)))))
  obtain rfl : rI x2 = w1 := Option.some.inj (show some (rI x2) = some w1 from e4)
  clear e1 e4
  have l0 : 0 ≤ (1 * x5.toInt + 0) + -1 := by
    obtain ⟨z, e6, e7⟩ := m3 ([(5, 1)], -1) (List.mem_of_getElem? (i := 0) rfl)
    obtain rfl : (1 * x5.toInt + 0) = z := Option.some.inj (show some (1 * x5.toInt + 0) = some z from e6)
    exact e7
  have l1 : 0 ≤ (-1 * x5.toInt + 0) + 1 := by
    obtain ⟨z, e6, e7⟩ := m3 ([(5, -1)], 1) (List.mem_of_getElem? (i := 1) rfl)
    obtain rfl : (-1 * x5.toInt + 0) = z := Option.some.inj (show some (-1 * x5.toInt + 0) = some z from e6)
    exact e7
  have f0 : rB K n p 400 [rR x0] σ := by
    obtain ⟨w, e6, e7⟩ := m4 (6401, [0]) (List.mem_of_getElem? (i := 0) rfl)
    obtain rfl : [rR x0] = w := Option.some.inj (show some [rR x0] = some w from e6)
    exact (rF_b (r := 6401) (by decide) rfl).mp e7
  obtain ⟨hp, hR⟩ := ro_400.mp f0
  obtain rfl := rMg_u hT hR.1
  have uS : p.1.2.1 = x7.toInt := rTX_f hR.2.1 s0 t0
  have uR : p.1.2.2.1 = x2.toInt := rTX_f hR.2.2.1 s1 t1
  have f1 : rB K n p 114 [rI x2, rI x3, rI x4] σ := by
    obtain ⟨w, e6, e7⟩ := m4 (1827, [2, 3, 4]) (List.mem_of_getElem? (i := 1) rfl)
    obtain rfl : [rI x2, rI x3, rI x4] = w := Option.some.inj (show some [rI x2, rI x3, rI x4] = some w from e6)
    exact (rF_b (r := 1827) (by decide) rfl).mp e7
  have f1 : x4 = x2 >>> (x3 &&& 31) := Sum.inl.inj (ro_114.mp f1)
  have f2 : rB K n p 111 [rI x4, rI x5, rI x6] σ := by
    obtain ⟨w, e6, e7⟩ := m4 (1779, [4, 5, 6]) (List.mem_of_getElem? (i := 2) rfl)
    obtain rfl : [rI x4, rI x5, rI x6] = w := Option.some.inj (show some [rI x4, rI x5, rI x6] = some w from e6)
    exact (rF_b (r := 1779) (by decide) rfl).mp e7
  have f2 : x6 = x4 &&& x5 := Sum.inl.inj (ro_111.mp f2)
  clear m1 m2 m3 m4
  have q0 : rB K n p 444 [rI x1, rI x6] σ := ro_444.mpr (by
    intro _
    refine ⟨1, Or.inl ⟨rfl, by omega⟩, ?_⟩
    rw [uR]
    refine rBitR' (z := 0) f1 f2 b2 d2 (by omega) (by decide) (by omega) (by omega) ?_
    rw [if_pos rfl, if_pos (by omega)]
    rfl)
  exact ⟨p, fun _ => rfl, ⟨(fun q h => by cases h), fun q h => (by cases h), (fun f h => by cases h), (aAllc ⟨_, rfl, (rF_b (r := 7106) (by decide) rfl).mpr q0⟩ (fun f h => by cases h))⟩, [], List.mem_cons_self, fun f h => (by cases h)⟩
theorem rw_rwMC10 {K : Nat → Nat} {n : Nat} {JX : (Nat → jcell) → Prop} : aGho (rF K n) fa_T K n JX ag_rwMC10 := by
  refine aGho_of ⟨rfl, rfl⟩ ?_
  intro p σ ρ hH hX hA hM0
  have hG := aAG_of hA.1 (fun i e v he hv => (hA.2 i e v he hv).1)
  clear hA
  obtain ⟨v0, v1, v2, v3, v4, v5, v6, v7, v8, v9, v10, v11, rfl, g0, g1, g2, g3, g4, g5, g6, g7, g8, g9, g10, g11⟩ := rA_12 hG
  clear hG
  obtain ⟨x0, rfl, b0, d0⟩ := rG_ref (by decide) g0
  obtain ⟨x1, rfl, b1, d1⟩ := aG_int g1
  dsimp only at b1 d1
  obtain ⟨x2, rfl, b2, d2⟩ := aG_int g2
  dsimp only at b2 d2
  obtain ⟨x3, rfl, b3, d3⟩ := aG_int g3
  dsimp only at b3 d3
  obtain ⟨x4, rfl, b4, d4⟩ := aG_int g4
  dsimp only at b4 d4
  obtain ⟨x5, rfl, b5, d5⟩ := aG_int g5
  dsimp only at b5 d5
  obtain ⟨x6, rfl, b6, d6⟩ := aG_int g6
  dsimp only at b6 d6
  obtain ⟨x7, rfl, b7, d7⟩ := aG_int g7
  dsimp only at b7 d7
  obtain ⟨x8, rfl, b8, d8⟩ := aG_int g8
  dsimp only at b8 d8
  obtain ⟨x9, rfl, b9, d9⟩ := aG_int g9
  dsimp only at b9 d9
  obtain ⟨x10, rfl, b10, d10⟩ := aG_int g10
  dsimp only at b10 d10
  obtain ⟨x11, rfl, b11, d11⟩ := aG_int g11
  dsimp only at b11 d11
  obtain ⟨m1, m2, m3, m4⟩ := hM0
  obtain ⟨T, hT⟩ := rTe_ex hH b0 d0
  obtain ⟨a0, c0, fs0, w0, e1, s0, t0, e4⟩ := m1 (0, 25, 11) (List.mem_of_getElem? (i := 0) rfl)
  obtain rfl : x0 = a0 := Sum.inl.inj (Option.some.inj (Sum.inr.inj (Sum.inr.inj (Option.some.inj (show some (rR x0) = some _ from e1)))))
  obtain rfl : rI x11 = w0 := Option.some.inj (show some (rI x11) = some w0 from e4)
  clear e1 e4
  have f0 : rB K n p 400 [rR x0] σ := by
    obtain ⟨w, e6, e7⟩ := m4 (6401, [0]) (List.mem_of_getElem? (i := 0) rfl)
    obtain rfl : [rR x0] = w := Option.some.inj (show some [rR x0] = some w from e6)
    exact (rF_b (r := 6401) (by decide) rfl).mp e7
  obtain ⟨hp, hR⟩ := ro_400.mp f0
  obtain rfl := rMg_u hT hR.1
  have uS : p.1.2.1 = x11.toInt := rTX_f hR.2.1 s0 t0
  have f1 : rB K n p 444 [rI x1, rI x10] σ := by
    obtain ⟨w, e6, e7⟩ := m4 (7106, [1, 10]) (List.mem_of_getElem? (i := 1) rfl)
    obtain rfl : [rI x1, rI x10] = w := Option.some.inj (show some [rI x1, rI x10] = some w from e6)
    exact (rF_b (r := 7106) (by decide) rfl).mp e7
  have f1 := ro_444.mp f1
  have f2 : rB K n p 222 [rR x0, rI x3, rI x4, rI x5] σ := by
    obtain ⟨w, e6, e7⟩ := m4 (3556, [0, 3, 4, 5]) (List.mem_of_getElem? (i := 2) rfl)
    obtain rfl : [rR x0, rI x3, rI x4, rI x5] = w := Option.some.inj (show some [rR x0, rI x3, rI x4, rI x5] = some w from e6)
    exact (rF_b (r := 3556) (by decide) rfl).mp e7
  obtain ⟨M9, h9, f2⟩ := ro_222.mp f2
  obtain rfl := rMg_u hT h9
  clear h9
  have f3 : rB K n p 230 [rR x0, rI x6] σ := by
    obtain ⟨w, e6, e7⟩ := m4 (3682, [0, 6]) (List.mem_of_getElem? (i := 3) rfl)
    obtain rfl : [rR x0, rI x6] = w := Option.some.inj (show some [rR x0, rI x6] = some w from e6)
    exact (rF_b (r := 3682) (by decide) rfl).mp e7
  obtain ⟨M9, h9, f3⟩ := ro_230.mp f3
  obtain rfl := rMg_u hT h9
  clear h9
  have f4 : rB K n p 204 [rR x0, rI x7, rI x8, rI x9] σ := by
    obtain ⟨w, e6, e7⟩ := m4 (3268, [0, 7, 8, 9]) (List.mem_of_getElem? (i := 4) rfl)
    obtain rfl : [rR x0, rI x7, rI x8, rI x9] = w := Option.some.inj (show some [rR x0, rI x7, rI x8, rI x9] = some w from e6)
    exact (rF_b (r := 3268) (by decide) rfl).mp e7
  obtain ⟨M9, h9, f4⟩ := ro_204.mp f4
  obtain rfl := rMg_u hT h9
  clear h9
  clear m1 m2 m3 m4
  have q0 : rB K n p 428 [rI x1, rI x2] σ := ro_428.mpr (by
    intro _
    obtain ⟨h, hh, hr⟩ := f1 (by omega)
    have eh : h = 1 := by
      unfold rTh at hh
      omega
    subst eh
    refine ⟨1, hh, hr, fun j j1 j2 => f2 (by omega) j (by rw [if_pos rfl] at j1; omega) (by rw [if_pos rfl] at j2; omega), ?_, ?_⟩
    · have h3 := f3
      rw [if_pos (by omega), show x6.toInt = 56 * p.1.2.1 + 4 by omega] at h3
      rw [show 1 - p.1.2.1 = 1 by omega]
      exact h3
    · have h4 := f4 (by omega)
      rw [if_pos rfl, show 56 * p.1.2.1 + 5 = x7.toInt by omega, show 1 - p.1.2.1 = x8.toInt by omega]
      exact h4)
  exact ⟨p, fun _ => rfl, ⟨(fun q h => by cases h), fun q h => (by cases h), (fun f h => by cases h), (aAllc ⟨_, rfl, (rF_b (r := 6850) (by decide) rfl).mpr q0⟩ (fun f h => by cases h))⟩, [], List.mem_cons_self, fun f h => (by cases h)⟩
theorem rw_rwTH00 {K : Nat → Nat} {n : Nat} {JX : (Nat → jcell) → Prop} : aGho (rF K n) fa_T K n JX ag_rwTH00 := by
  refine aGho_of ⟨rfl, rfl⟩ ?_
  intro p σ ρ hH hX hA hM0
  have hG := aAG_of hA.1 (fun i e v he hv => (hA.2 i e v he hv).1)
  clear hA
  obtain ⟨v0, v1, v2, v3, rfl, g0, g1, g2, g3⟩ := rA_4 hG
  clear hG
  obtain ⟨x0, rfl, b0, d0⟩ := rG_ref (by decide) g0
  obtain ⟨x1, rfl, b1, d1⟩ := aG_int g1
  dsimp only at b1 d1
  obtain ⟨x2, rfl, b2, d2⟩ := aG_int g2
  dsimp only at b2 d2
  obtain ⟨x3, rfl, b3, d3⟩ := aG_int g3
  dsimp only at b3 d3
  obtain ⟨m1, m2, m3, m4⟩ := hM0
  obtain ⟨T, hT⟩ := rTe_ex hH b0 d0
  have f0 : rB K n p 204 [rR x0, rI x1, rI x2, rI x3] σ := by
    obtain ⟨w, e6, e7⟩ := m4 (3268, [0, 1, 2, 3]) (List.mem_of_getElem? (i := 0) rfl)
    obtain rfl : [rR x0, rI x1, rI x2, rI x3] = w := Option.some.inj (show some [rR x0, rI x1, rI x2, rI x3] = some w from e6)
    exact (rF_b (r := 3268) (by decide) rfl).mp e7
  obtain ⟨M9, h9, f0⟩ := ro_204.mp f0
  obtain rfl := rMg_u hT h9
  clear h9
  clear m1 m2 m3 m4
  have q0 : rB K n p 230 [rR x0, rI x1] σ := ro_230.mpr ⟨_, hT, by
    rw [if_pos (by omega), show (1 : Int) = x2.toInt by omega]
    exact f0 (by omega)⟩
  exact ⟨p, fun _ => rfl, ⟨(fun q h => by cases h), fun q h => (by cases h), (fun f h => by cases h), (aAllc ⟨_, rfl, (rF_b (r := 3682) (by decide) rfl).mpr q0⟩ (fun f h => by cases h))⟩, [], List.mem_cons_self, fun f h => (by cases h)⟩
theorem rw_rwRG00 {K : Nat → Nat} {n : Nat} {JX : (Nat → jcell) → Prop} : aGho (rF K n) fa_T K n JX ag_rwRG00 := by
  refine aGho_of ⟨rfl, rfl⟩ ?_
  intro p σ ρ hH hX hA hM0
  have hG := aAG_of hA.1 (fun i e v he hv => (hA.2 i e v he hv).1)
  clear hA
  obtain ⟨v0, v1, v2, v3, v4, v5, v6, v7, rfl, g0, g1, g2, g3, g4, g5, g6, g7⟩ := rA_8 hG
  clear hG
  obtain ⟨x0, rfl, b0, d0⟩ := rG_ref (by decide) g0
  obtain ⟨x1, rfl, b1, d1⟩ := aG_int g1
  dsimp only at b1 d1
  obtain ⟨x2, rfl, b2, d2⟩ := aG_int g2
  dsimp only at b2 d2
  obtain ⟨x3, rfl, b3, d3⟩ := aG_int g3
  dsimp only at b3 d3
  obtain ⟨x4, rfl, b4, d4⟩ := aG_int g4
  dsimp only at b4 d4
  obtain ⟨x5, rfl, b5, d5⟩ := aG_int g5
  dsimp only at b5 d5
  obtain ⟨x6, rfl, b6, d6⟩ := aG_int g6
  dsimp only at b6 d6
  obtain ⟨x7, rfl, b7, d7⟩ := aG_int g7
  dsimp only at b7 d7
  obtain ⟨m1, m2, m3, m4⟩ := hM0
  obtain ⟨T, hT⟩ := rTe_ex hH b0 d0
  obtain ⟨a0, c0, fs0, w0, e1, s0, t0, e4⟩ := m1 (0, 25, 7) (List.mem_of_getElem? (i := 0) rfl)
  obtain rfl : x0 = a0 := Sum.inl.inj (Option.some.inj (Sum.inr.inj (Sum.inr.inj (Option.some.inj (show some (rR x0) = some _ from e1)))))
  obtain rfl : rI x7 = w0 := Option.some.inj (show some (rI x7) = some w0 from e4)
  clear e1 e4
  obtain ⟨a1, c1, fs1, w1, e1, s1, t1, e4⟩ := m1 (0, 26, 2) (List.mem_of_getElem? (i := 1) rfl)
  obtain rfl : x0 = a1 := Sum.inl.inj (Option.some.inj (Sum.inr.inj (Sum.inr.inj (Option.some.inj (show some (rR x0) = some _ from e1)))))
  obtain rfl : rI x2 = w1 := Option.some.inj (show some (rI x2) = some w1 from e4)
  clear e1 e4
  have l0 : 0 ≤ (1 * x5.toInt + 0) + -1 := by
    obtain ⟨z, e6, e7⟩ := m3 ([(5, 1)], -1) (List.mem_of_getElem? (i := 0) rfl)
    obtain rfl : (1 * x5.toInt + 0) = z := Option.some.inj (show some (1 * x5.toInt + 0) = some z from e6)
    exact e7
  have l1 : 0 ≤ (-1 * x5.toInt + 0) + 1 := by
    obtain ⟨z, e6, e7⟩ := m3 ([(5, -1)], 1) (List.mem_of_getElem? (i := 1) rfl)
    obtain rfl : (-1 * x5.toInt + 0) = z := Option.some.inj (show some (-1 * x5.toInt + 0) = some z from e6)
    exact e7
  have f0 : rB K n p 400 [rR x0] σ := by
    obtain ⟨w, e6, e7⟩ := m4 (6401, [0]) (List.mem_of_getElem? (i := 0) rfl)
    obtain rfl : [rR x0] = w := Option.some.inj (show some [rR x0] = some w from e6)
    exact (rF_b (r := 6401) (by decide) rfl).mp e7
  obtain ⟨hp, hR⟩ := ro_400.mp f0
  obtain rfl := rMg_u hT hR.1
  have uS : p.1.2.1 = x7.toInt := rTX_f hR.2.1 s0 t0
  have uR : p.1.2.2.1 = x2.toInt := rTX_f hR.2.2.1 s1 t1
  have f1 : rB K n p 114 [rI x2, rI x3, rI x4] σ := by
    obtain ⟨w, e6, e7⟩ := m4 (1827, [2, 3, 4]) (List.mem_of_getElem? (i := 1) rfl)
    obtain rfl : [rI x2, rI x3, rI x4] = w := Option.some.inj (show some [rI x2, rI x3, rI x4] = some w from e6)
    exact (rF_b (r := 1827) (by decide) rfl).mp e7
  have f1 : x4 = x2 >>> (x3 &&& 31) := Sum.inl.inj (ro_114.mp f1)
  have f2 : rB K n p 111 [rI x4, rI x5, rI x6] σ := by
    obtain ⟨w, e6, e7⟩ := m4 (1779, [4, 5, 6]) (List.mem_of_getElem? (i := 2) rfl)
    obtain rfl : [rI x4, rI x5, rI x6] = w := Option.some.inj (show some [rI x4, rI x5, rI x6] = some w from e6)
    exact (rF_b (r := 1779) (by decide) rfl).mp e7
  have f2 : x6 = x4 &&& x5 := Sum.inl.inj (ro_111.mp f2)
  clear m1 m2 m3 m4
  have q0 : rB K n p 444 [rI x1, rI x6] σ := ro_444.mpr (by
    intro _
    refine ⟨0, Or.inr ⟨rfl, by omega⟩, ?_⟩
    rw [uR]
    refine rBitR' (z := 1) f1 f2 b2 d2 (by omega) (by decide) (by omega) (by omega) ?_
    rw [if_neg (by decide), if_pos (by omega)]
    rfl)
  exact ⟨p, fun _ => rfl, ⟨(fun q h => by cases h), fun q h => (by cases h), (fun f h => by cases h), (aAllc ⟨_, rfl, (rF_b (r := 7106) (by decide) rfl).mpr q0⟩ (fun f h => by cases h))⟩, [], List.mem_cons_self, fun f h => (by cases h)⟩
theorem rw_rwMC00 {K : Nat → Nat} {n : Nat} {JX : (Nat → jcell) → Prop} : aGho (rF K n) fa_T K n JX ag_rwMC00 := by
  refine aGho_of ⟨rfl, rfl⟩ ?_
  intro p σ ρ hH hX hA hM0
  have hG := aAG_of hA.1 (fun i e v he hv => (hA.2 i e v he hv).1)
  clear hA
  obtain ⟨v0, v1, v2, v3, v4, v5, v6, v7, v8, v9, v10, v11, rfl, g0, g1, g2, g3, g4, g5, g6, g7, g8, g9, g10, g11⟩ := rA_12 hG
  clear hG
  obtain ⟨x0, rfl, b0, d0⟩ := rG_ref (by decide) g0
  obtain ⟨x1, rfl, b1, d1⟩ := aG_int g1
  dsimp only at b1 d1
  obtain ⟨x2, rfl, b2, d2⟩ := aG_int g2
  dsimp only at b2 d2
  obtain ⟨x3, rfl, b3, d3⟩ := aG_int g3
  dsimp only at b3 d3
  obtain ⟨x4, rfl, b4, d4⟩ := aG_int g4
  dsimp only at b4 d4
  obtain ⟨x5, rfl, b5, d5⟩ := aG_int g5
  dsimp only at b5 d5
  obtain ⟨x6, rfl, b6, d6⟩ := aG_int g6
  dsimp only at b6 d6
  obtain ⟨x7, rfl, b7, d7⟩ := aG_int g7
  dsimp only at b7 d7
  obtain ⟨x8, rfl, b8, d8⟩ := aG_int g8
  dsimp only at b8 d8
  obtain ⟨x9, rfl, b9, d9⟩ := aG_int g9
  dsimp only at b9 d9
  obtain ⟨x10, rfl, b10, d10⟩ := aG_int g10
  dsimp only at b10 d10
  obtain ⟨x11, rfl, b11, d11⟩ := aG_int g11
  dsimp only at b11 d11
  obtain ⟨m1, m2, m3, m4⟩ := hM0
  obtain ⟨T, hT⟩ := rTe_ex hH b0 d0
  obtain ⟨a0, c0, fs0, w0, e1, s0, t0, e4⟩ := m1 (0, 25, 11) (List.mem_of_getElem? (i := 0) rfl)
  obtain rfl : x0 = a0 := Sum.inl.inj (Option.some.inj (Sum.inr.inj (Sum.inr.inj (Option.some.inj (show some (rR x0) = some _ from e1)))))
  obtain rfl : rI x11 = w0 := Option.some.inj (show some (rI x11) = some w0 from e4)
  clear e1 e4
  have f0 : rB K n p 400 [rR x0] σ := by
    obtain ⟨w, e6, e7⟩ := m4 (6401, [0]) (List.mem_of_getElem? (i := 0) rfl)
    obtain rfl : [rR x0] = w := Option.some.inj (show some [rR x0] = some w from e6)
    exact (rF_b (r := 6401) (by decide) rfl).mp e7
  obtain ⟨hp, hR⟩ := ro_400.mp f0
  obtain rfl := rMg_u hT hR.1
  have uS : p.1.2.1 = x11.toInt := rTX_f hR.2.1 s0 t0
  have f1 : rB K n p 444 [rI x1, rI x10] σ := by
    obtain ⟨w, e6, e7⟩ := m4 (7106, [1, 10]) (List.mem_of_getElem? (i := 1) rfl)
    obtain rfl : [rI x1, rI x10] = w := Option.some.inj (show some [rI x1, rI x10] = some w from e6)
    exact (rF_b (r := 7106) (by decide) rfl).mp e7
  have f1 := ro_444.mp f1
  have f2 : rB K n p 222 [rR x0, rI x3, rI x4, rI x5] σ := by
    obtain ⟨w, e6, e7⟩ := m4 (3556, [0, 3, 4, 5]) (List.mem_of_getElem? (i := 2) rfl)
    obtain rfl : [rR x0, rI x3, rI x4, rI x5] = w := Option.some.inj (show some [rR x0, rI x3, rI x4, rI x5] = some w from e6)
    exact (rF_b (r := 3556) (by decide) rfl).mp e7
  obtain ⟨M9, h9, f2⟩ := ro_222.mp f2
  obtain rfl := rMg_u hT h9
  clear h9
  have f3 : rB K n p 230 [rR x0, rI x6] σ := by
    obtain ⟨w, e6, e7⟩ := m4 (3682, [0, 6]) (List.mem_of_getElem? (i := 3) rfl)
    obtain rfl : [rR x0, rI x6] = w := Option.some.inj (show some [rR x0, rI x6] = some w from e6)
    exact (rF_b (r := 3682) (by decide) rfl).mp e7
  obtain ⟨M9, h9, f3⟩ := ro_230.mp f3
  obtain rfl := rMg_u hT h9
  clear h9
  have f4 : rB K n p 204 [rR x0, rI x7, rI x8, rI x9] σ := by
    obtain ⟨w, e6, e7⟩ := m4 (3268, [0, 7, 8, 9]) (List.mem_of_getElem? (i := 4) rfl)
    obtain rfl : [rR x0, rI x7, rI x8, rI x9] = w := Option.some.inj (show some [rR x0, rI x7, rI x8, rI x9] = some w from e6)
    exact (rF_b (r := 3268) (by decide) rfl).mp e7
  obtain ⟨M9, h9, f4⟩ := ro_204.mp f4
  obtain rfl := rMg_u hT h9
  clear h9
  clear m1 m2 m3 m4
  have q0 : rB K n p 428 [rI x1, rI x2] σ := ro_428.mpr (by
    intro _
    obtain ⟨h, hh, hr⟩ := f1 (by omega)
    have eh : h = 0 := by
      unfold rTh at hh
      omega
    subst eh
    refine ⟨0, hh, hr, fun j j1 j2 => f2 (by omega) j (by rw [if_neg (by decide)] at j1; omega) (by rw [if_neg (by decide)] at j2; omega), ?_, ?_⟩
    · have h3 := f3
      rw [if_pos (by omega), show x6.toInt = 56 * p.1.2.1 + 4 by omega] at h3
      rw [show 1 - p.1.2.1 = 1 by omega]
      exact h3
    · have h4 := f4 (by omega)
      rw [if_neg (by decide), show 56 * p.1.2.1 + 3 = x7.toInt by omega, show 1 - p.1.2.1 = x8.toInt by omega]
      exact h4)
  exact ⟨p, fun _ => rfl, ⟨(fun q h => by cases h), fun q h => (by cases h), (fun f h => by cases h), (aAllc ⟨_, rfl, (rF_b (r := 6850) (by decide) rfl).mpr q0⟩ (fun f h => by cases h))⟩, [], List.mem_cons_self, fun f h => (by cases h)⟩
theorem rw_rwTH11 {K : Nat → Nat} {n : Nat} {JX : (Nat → jcell) → Prop} : aGho (rF K n) fa_T K n JX ag_rwTH11 := by
  refine aGho_of ⟨rfl, rfl⟩ ?_
  intro p σ ρ hH hX hA hM0
  have hG := aAG_of hA.1 (fun i e v he hv => (hA.2 i e v he hv).1)
  clear hA
  obtain ⟨v0, v1, v2, v3, rfl, g0, g1, g2, g3⟩ := rA_4 hG
  clear hG
  obtain ⟨x0, rfl, b0, d0⟩ := rG_ref (by decide) g0
  obtain ⟨x1, rfl, b1, d1⟩ := aG_int g1
  dsimp only at b1 d1
  obtain ⟨x2, rfl, b2, d2⟩ := aG_int g2
  dsimp only at b2 d2
  obtain ⟨x3, rfl, b3, d3⟩ := aG_int g3
  dsimp only at b3 d3
  obtain ⟨m1, m2, m3, m4⟩ := hM0
  obtain ⟨T, hT⟩ := rTe_ex hH b0 d0
  have f0 : rB K n p 204 [rR x0, rI x1, rI x2, rI x3] σ := by
    obtain ⟨w, e6, e7⟩ := m4 (3268, [0, 1, 2, 3]) (List.mem_of_getElem? (i := 0) rfl)
    obtain rfl : [rR x0, rI x1, rI x2, rI x3] = w := Option.some.inj (show some [rR x0, rI x1, rI x2, rI x3] = some w from e6)
    exact (rF_b (r := 3268) (by decide) rfl).mp e7
  obtain ⟨M9, h9, f0⟩ := ro_204.mp f0
  obtain rfl := rMg_u hT h9
  clear h9
  clear m1 m2 m3 m4
  have q0 : rB K n p 230 [rR x0, rI x1] σ := ro_230.mpr ⟨_, hT, by
    rw [if_neg (by omega), show (0 : Int) = x2.toInt by omega]
    exact f0 (by omega)⟩
  exact ⟨p, fun _ => rfl, ⟨(fun q h => by cases h), fun q h => (by cases h), (fun f h => by cases h), (aAllc ⟨_, rfl, (rF_b (r := 3682) (by decide) rfl).mpr q0⟩ (fun f h => by cases h))⟩, [], List.mem_cons_self, fun f h => (by cases h)⟩
theorem rw_rwRG11 {K : Nat → Nat} {n : Nat} {JX : (Nat → jcell) → Prop} : aGho (rF K n) fa_T K n JX ag_rwRG11 := by
  refine aGho_of ⟨rfl, rfl⟩ ?_
  intro p σ ρ hH hX hA hM0
  have hG := aAG_of hA.1 (fun i e v he hv => (hA.2 i e v he hv).1)
  clear hA
  obtain ⟨v0, v1, v2, v3, v4, v5, v6, v7, rfl, g0, g1, g2, g3, g4, g5, g6, g7⟩ := rA_8 hG
  clear hG
  obtain ⟨x0, rfl, b0, d0⟩ := rG_ref (by decide) g0
  obtain ⟨x1, rfl, b1, d1⟩ := aG_int g1
  dsimp only at b1 d1
  obtain ⟨x2, rfl, b2, d2⟩ := aG_int g2
  dsimp only at b2 d2
  obtain ⟨x3, rfl, b3, d3⟩ := aG_int g3
  dsimp only at b3 d3
  obtain ⟨x4, rfl, b4, d4⟩ := aG_int g4
  dsimp only at b4 d4
  obtain ⟨x5, rfl, b5, d5⟩ := aG_int g5
  dsimp only at b5 d5
  obtain ⟨x6, rfl, b6, d6⟩ := aG_int g6
  dsimp only at b6 d6
  obtain ⟨x7, rfl, b7, d7⟩ := aG_int g7
  dsimp only at b7 d7
  obtain ⟨m1, m2, m3, m4⟩ := hM0
  obtain ⟨T, hT⟩ := rTe_ex hH b0 d0
  obtain ⟨a0, c0, fs0, w0, e1, s0, t0, e4⟩ := m1 (0, 25, 7) (List.mem_of_getElem? (i := 0) rfl)
  obtain rfl : x0 = a0 := Sum.inl.inj (Option.some.inj (Sum.inr.inj (Sum.inr.inj (Option.some.inj (show some (rR x0) = some _ from e1)))))
  obtain rfl : rI x7 = w0 := Option.some.inj (show some (rI x7) = some w0 from e4)
  clear e1 e4
  obtain ⟨a1, c1, fs1, w1, e1, s1, t1, e4⟩ := m1 (0, 26, 2) (List.mem_of_getElem? (i := 1) rfl)
  obtain rfl : x0 = a1 := Sum.inl.inj (Option.some.inj (Sum.inr.inj (Sum.inr.inj (Option.some.inj (show some (rR x0) = some _ from e1)))))
  obtain rfl : rI x2 = w1 := Option.some.inj (show some (rI x2) = some w1 from e4)
  clear e1 e4
  have l0 : 0 ≤ (1 * x5.toInt + 0) + -1 := by
    obtain ⟨z, e6, e7⟩ := m3 ([(5, 1)], -1) (List.mem_of_getElem? (i := 0) rfl)
    obtain rfl : (1 * x5.toInt + 0) = z := Option.some.inj (show some (1 * x5.toInt + 0) = some z from e6)
    exact e7
  have l1 : 0 ≤ (-1 * x5.toInt + 0) + 1 := by
    obtain ⟨z, e6, e7⟩ := m3 ([(5, -1)], 1) (List.mem_of_getElem? (i := 1) rfl)
    obtain rfl : (-1 * x5.toInt + 0) = z := Option.some.inj (show some (-1 * x5.toInt + 0) = some z from e6)
    exact e7
  have f0 : rB K n p 400 [rR x0] σ := by
    obtain ⟨w, e6, e7⟩ := m4 (6401, [0]) (List.mem_of_getElem? (i := 0) rfl)
    obtain rfl : [rR x0] = w := Option.some.inj (show some [rR x0] = some w from e6)
    exact (rF_b (r := 6401) (by decide) rfl).mp e7
  obtain ⟨hp, hR⟩ := ro_400.mp f0
  obtain rfl := rMg_u hT hR.1
  have uS : p.1.2.1 = x7.toInt := rTX_f hR.2.1 s0 t0
  have uR : p.1.2.2.1 = x2.toInt := rTX_f hR.2.2.1 s1 t1
  have f1 : rB K n p 114 [rI x2, rI x3, rI x4] σ := by
    obtain ⟨w, e6, e7⟩ := m4 (1827, [2, 3, 4]) (List.mem_of_getElem? (i := 1) rfl)
    obtain rfl : [rI x2, rI x3, rI x4] = w := Option.some.inj (show some [rI x2, rI x3, rI x4] = some w from e6)
    exact (rF_b (r := 1827) (by decide) rfl).mp e7
  have f1 : x4 = x2 >>> (x3 &&& 31) := Sum.inl.inj (ro_114.mp f1)
  have f2 : rB K n p 111 [rI x4, rI x5, rI x6] σ := by
    obtain ⟨w, e6, e7⟩ := m4 (1779, [4, 5, 6]) (List.mem_of_getElem? (i := 2) rfl)
    obtain rfl : [rI x4, rI x5, rI x6] = w := Option.some.inj (show some [rI x4, rI x5, rI x6] = some w from e6)
    exact (rF_b (r := 1779) (by decide) rfl).mp e7
  have f2 : x6 = x4 &&& x5 := Sum.inl.inj (ro_111.mp f2)
  clear m1 m2 m3 m4
  have q0 : rB K n p 444 [rI x1, rI x6] σ := ro_444.mpr (by
    intro _
    refine ⟨1, Or.inl ⟨rfl, by omega⟩, ?_⟩
    rw [uR]
    refine rBitR' (z := 2) f1 f2 b2 d2 (by omega) (by decide) (by omega) (by omega) ?_
    rw [if_pos rfl, if_neg (by omega)]
    rfl)
  exact ⟨p, fun _ => rfl, ⟨(fun q h => by cases h), fun q h => (by cases h), (fun f h => by cases h), (aAllc ⟨_, rfl, (rF_b (r := 7106) (by decide) rfl).mpr q0⟩ (fun f h => by cases h))⟩, [], List.mem_cons_self, fun f h => (by cases h)⟩
theorem rw_rwMC11 {K : Nat → Nat} {n : Nat} {JX : (Nat → jcell) → Prop} : aGho (rF K n) fa_T K n JX ag_rwMC11 := by
  refine aGho_of ⟨rfl, rfl⟩ ?_
  intro p σ ρ hH hX hA hM0
  have hG := aAG_of hA.1 (fun i e v he hv => (hA.2 i e v he hv).1)
  clear hA
  obtain ⟨v0, v1, v2, v3, v4, v5, v6, v7, v8, v9, v10, v11, rfl, g0, g1, g2, g3, g4, g5, g6, g7, g8, g9, g10, g11⟩ := rA_12 hG
  clear hG
  obtain ⟨x0, rfl, b0, d0⟩ := rG_ref (by decide) g0
  obtain ⟨x1, rfl, b1, d1⟩ := aG_int g1
  dsimp only at b1 d1
  obtain ⟨x2, rfl, b2, d2⟩ := aG_int g2
  dsimp only at b2 d2
  obtain ⟨x3, rfl, b3, d3⟩ := aG_int g3
  dsimp only at b3 d3
  obtain ⟨x4, rfl, b4, d4⟩ := aG_int g4
  dsimp only at b4 d4
  obtain ⟨x5, rfl, b5, d5⟩ := aG_int g5
  dsimp only at b5 d5
  obtain ⟨x6, rfl, b6, d6⟩ := aG_int g6
  dsimp only at b6 d6
  obtain ⟨x7, rfl, b7, d7⟩ := aG_int g7
  dsimp only at b7 d7
  obtain ⟨x8, rfl, b8, d8⟩ := aG_int g8
  dsimp only at b8 d8
  obtain ⟨x9, rfl, b9, d9⟩ := aG_int g9
  dsimp only at b9 d9
  obtain ⟨x10, rfl, b10, d10⟩ := aG_int g10
  dsimp only at b10 d10
  obtain ⟨x11, rfl, b11, d11⟩ := aG_int g11
  dsimp only at b11 d11
  obtain ⟨m1, m2, m3, m4⟩ := hM0
  obtain ⟨T, hT⟩ := rTe_ex hH b0 d0
  obtain ⟨a0, c0, fs0, w0, e1, s0, t0, e4⟩ := m1 (0, 25, 11) (List.mem_of_getElem? (i := 0) rfl)
  obtain rfl : x0 = a0 := Sum.inl.inj (Option.some.inj (Sum.inr.inj (Sum.inr.inj (Option.some.inj (show some (rR x0) = some _ from e1)))))
  obtain rfl : rI x11 = w0 := Option.some.inj (show some (rI x11) = some w0 from e4)
  clear e1 e4
  have f0 : rB K n p 400 [rR x0] σ := by
    obtain ⟨w, e6, e7⟩ := m4 (6401, [0]) (List.mem_of_getElem? (i := 0) rfl)
    obtain rfl : [rR x0] = w := Option.some.inj (show some [rR x0] = some w from e6)
    exact (rF_b (r := 6401) (by decide) rfl).mp e7
  obtain ⟨hp, hR⟩ := ro_400.mp f0
  obtain rfl := rMg_u hT hR.1
  have uS : p.1.2.1 = x11.toInt := rTX_f hR.2.1 s0 t0
  have f1 : rB K n p 444 [rI x1, rI x10] σ := by
    obtain ⟨w, e6, e7⟩ := m4 (7106, [1, 10]) (List.mem_of_getElem? (i := 1) rfl)
    obtain rfl : [rI x1, rI x10] = w := Option.some.inj (show some [rI x1, rI x10] = some w from e6)
    exact (rF_b (r := 7106) (by decide) rfl).mp e7
  have f1 := ro_444.mp f1
  have f2 : rB K n p 222 [rR x0, rI x3, rI x4, rI x5] σ := by
    obtain ⟨w, e6, e7⟩ := m4 (3556, [0, 3, 4, 5]) (List.mem_of_getElem? (i := 2) rfl)
    obtain rfl : [rR x0, rI x3, rI x4, rI x5] = w := Option.some.inj (show some [rR x0, rI x3, rI x4, rI x5] = some w from e6)
    exact (rF_b (r := 3556) (by decide) rfl).mp e7
  obtain ⟨M9, h9, f2⟩ := ro_222.mp f2
  obtain rfl := rMg_u hT h9
  clear h9
  have f3 : rB K n p 230 [rR x0, rI x6] σ := by
    obtain ⟨w, e6, e7⟩ := m4 (3682, [0, 6]) (List.mem_of_getElem? (i := 3) rfl)
    obtain rfl : [rR x0, rI x6] = w := Option.some.inj (show some [rR x0, rI x6] = some w from e6)
    exact (rF_b (r := 3682) (by decide) rfl).mp e7
  obtain ⟨M9, h9, f3⟩ := ro_230.mp f3
  obtain rfl := rMg_u hT h9
  clear h9
  have f4 : rB K n p 204 [rR x0, rI x7, rI x8, rI x9] σ := by
    obtain ⟨w, e6, e7⟩ := m4 (3268, [0, 7, 8, 9]) (List.mem_of_getElem? (i := 4) rfl)
    obtain rfl : [rR x0, rI x7, rI x8, rI x9] = w := Option.some.inj (show some [rR x0, rI x7, rI x8, rI x9] = some w from e6)
    exact (rF_b (r := 3268) (by decide) rfl).mp e7
  obtain ⟨M9, h9, f4⟩ := ro_204.mp f4
  obtain rfl := rMg_u hT h9
  clear h9
  clear m1 m2 m3 m4
  have q0 : rB K n p 428 [rI x1, rI x2] σ := ro_428.mpr (by
    intro _
    obtain ⟨h, hh, hr⟩ := f1 (by omega)
    have eh : h = 1 := by
      unfold rTh at hh
      omega
    subst eh
    refine ⟨1, hh, hr, fun j j1 j2 => f2 (by omega) j (by rw [if_pos rfl] at j1; omega) (by rw [if_pos rfl] at j2; omega), ?_, ?_⟩
    · have h3 := f3
      rw [if_neg (by omega), show x6.toInt = 56 * p.1.2.1 + 4 by omega] at h3
      rw [show 1 - p.1.2.1 = 0 by omega]
      exact h3
    · have h4 := f4 (by omega)
      rw [if_pos rfl, show 56 * p.1.2.1 + 5 = x7.toInt by omega, show 1 - p.1.2.1 = x8.toInt by omega]
      exact h4)
  exact ⟨p, fun _ => rfl, ⟨(fun q h => by cases h), fun q h => (by cases h), (fun f h => by cases h), (aAllc ⟨_, rfl, (rF_b (r := 6850) (by decide) rfl).mpr q0⟩ (fun f h => by cases h))⟩, [], List.mem_cons_self, fun f h => (by cases h)⟩
theorem rw_rwTH01 {K : Nat → Nat} {n : Nat} {JX : (Nat → jcell) → Prop} : aGho (rF K n) fa_T K n JX ag_rwTH01 := by
  refine aGho_of ⟨rfl, rfl⟩ ?_
  intro p σ ρ hH hX hA hM0
  have hG := aAG_of hA.1 (fun i e v he hv => (hA.2 i e v he hv).1)
  clear hA
  obtain ⟨v0, v1, v2, v3, rfl, g0, g1, g2, g3⟩ := rA_4 hG
  clear hG
  obtain ⟨x0, rfl, b0, d0⟩ := rG_ref (by decide) g0
  obtain ⟨x1, rfl, b1, d1⟩ := aG_int g1
  dsimp only at b1 d1
  obtain ⟨x2, rfl, b2, d2⟩ := aG_int g2
  dsimp only at b2 d2
  obtain ⟨x3, rfl, b3, d3⟩ := aG_int g3
  dsimp only at b3 d3
  obtain ⟨m1, m2, m3, m4⟩ := hM0
  obtain ⟨T, hT⟩ := rTe_ex hH b0 d0
  have f0 : rB K n p 204 [rR x0, rI x1, rI x2, rI x3] σ := by
    obtain ⟨w, e6, e7⟩ := m4 (3268, [0, 1, 2, 3]) (List.mem_of_getElem? (i := 0) rfl)
    obtain rfl : [rR x0, rI x1, rI x2, rI x3] = w := Option.some.inj (show some [rR x0, rI x1, rI x2, rI x3] = some w from e6)
    exact (rF_b (r := 3268) (by decide) rfl).mp e7
  obtain ⟨M9, h9, f0⟩ := ro_204.mp f0
  obtain rfl := rMg_u hT h9
  clear h9
  clear m1 m2 m3 m4
  have q0 : rB K n p 230 [rR x0, rI x1] σ := ro_230.mpr ⟨_, hT, by
    rw [if_neg (by omega), show (0 : Int) = x2.toInt by omega]
    exact f0 (by omega)⟩
  exact ⟨p, fun _ => rfl, ⟨(fun q h => by cases h), fun q h => (by cases h), (fun f h => by cases h), (aAllc ⟨_, rfl, (rF_b (r := 3682) (by decide) rfl).mpr q0⟩ (fun f h => by cases h))⟩, [], List.mem_cons_self, fun f h => (by cases h)⟩
theorem rw_rwRG01 {K : Nat → Nat} {n : Nat} {JX : (Nat → jcell) → Prop} : aGho (rF K n) fa_T K n JX ag_rwRG01 := by
  refine aGho_of ⟨rfl, rfl⟩ ?_
  intro p σ ρ hH hX hA hM0
  have hG := aAG_of hA.1 (fun i e v he hv => (hA.2 i e v he hv).1)
  clear hA
  obtain ⟨v0, v1, v2, v3, v4, v5, v6, v7, rfl, g0, g1, g2, g3, g4, g5, g6, g7⟩ := rA_8 hG
  clear hG
  obtain ⟨x0, rfl, b0, d0⟩ := rG_ref (by decide) g0
  obtain ⟨x1, rfl, b1, d1⟩ := aG_int g1
  dsimp only at b1 d1
  obtain ⟨x2, rfl, b2, d2⟩ := aG_int g2
  dsimp only at b2 d2
  obtain ⟨x3, rfl, b3, d3⟩ := aG_int g3
  dsimp only at b3 d3
  obtain ⟨x4, rfl, b4, d4⟩ := aG_int g4
  dsimp only at b4 d4
  obtain ⟨x5, rfl, b5, d5⟩ := aG_int g5
  dsimp only at b5 d5
  obtain ⟨x6, rfl, b6, d6⟩ := aG_int g6
  dsimp only at b6 d6
  obtain ⟨x7, rfl, b7, d7⟩ := aG_int g7
  dsimp only at b7 d7
  obtain ⟨m1, m2, m3, m4⟩ := hM0
  obtain ⟨T, hT⟩ := rTe_ex hH b0 d0
  obtain ⟨a0, c0, fs0, w0, e1, s0, t0, e4⟩ := m1 (0, 25, 7) (List.mem_of_getElem? (i := 0) rfl)
  obtain rfl : x0 = a0 := Sum.inl.inj (Option.some.inj (Sum.inr.inj (Sum.inr.inj (Option.some.inj (show some (rR x0) = some _ from e1)))))
  obtain rfl : rI x7 = w0 := Option.some.inj (show some (rI x7) = some w0 from e4)
  clear e1 e4
  obtain ⟨a1, c1, fs1, w1, e1, s1, t1, e4⟩ := m1 (0, 26, 2) (List.mem_of_getElem? (i := 1) rfl)
  obtain rfl : x0 = a1 := Sum.inl.inj (Option.some.inj (Sum.inr.inj (Sum.inr.inj (Option.some.inj (show some (rR x0) = some _ from e1)))))
  obtain rfl : rI x2 = w1 := Option.some.inj (show some (rI x2) = some w1 from e4)
  clear e1 e4
  have l0 : 0 ≤ (1 * x5.toInt + 0) + -1 := by
    obtain ⟨z, e6, e7⟩ := m3 ([(5, 1)], -1) (List.mem_of_getElem? (i := 0) rfl)
    obtain rfl : (1 * x5.toInt + 0) = z := Option.some.inj (show some (1 * x5.toInt + 0) = some z from e6)
    exact e7
  have l1 : 0 ≤ (-1 * x5.toInt + 0) + 1 := by
    obtain ⟨z, e6, e7⟩ := m3 ([(5, -1)], 1) (List.mem_of_getElem? (i := 1) rfl)
    obtain rfl : (-1 * x5.toInt + 0) = z := Option.some.inj (show some (-1 * x5.toInt + 0) = some z from e6)
    exact e7
  have f0 : rB K n p 400 [rR x0] σ := by
    obtain ⟨w, e6, e7⟩ := m4 (6401, [0]) (List.mem_of_getElem? (i := 0) rfl)
    obtain rfl : [rR x0] = w := Option.some.inj (show some [rR x0] = some w from e6)
    exact (rF_b (r := 6401) (by decide) rfl).mp e7
  obtain ⟨hp, hR⟩ := ro_400.mp f0
  obtain rfl := rMg_u hT hR.1
  have uS : p.1.2.1 = x7.toInt := rTX_f hR.2.1 s0 t0
  have uR : p.1.2.2.1 = x2.toInt := rTX_f hR.2.2.1 s1 t1
  have f1 : rB K n p 114 [rI x2, rI x3, rI x4] σ := by
    obtain ⟨w, e6, e7⟩ := m4 (1827, [2, 3, 4]) (List.mem_of_getElem? (i := 1) rfl)
    obtain rfl : [rI x2, rI x3, rI x4] = w := Option.some.inj (show some [rI x2, rI x3, rI x4] = some w from e6)
    exact (rF_b (r := 1827) (by decide) rfl).mp e7
  have f1 : x4 = x2 >>> (x3 &&& 31) := Sum.inl.inj (ro_114.mp f1)
  have f2 : rB K n p 111 [rI x4, rI x5, rI x6] σ := by
    obtain ⟨w, e6, e7⟩ := m4 (1779, [4, 5, 6]) (List.mem_of_getElem? (i := 2) rfl)
    obtain rfl : [rI x4, rI x5, rI x6] = w := Option.some.inj (show some [rI x4, rI x5, rI x6] = some w from e6)
    exact (rF_b (r := 1779) (by decide) rfl).mp e7
  have f2 : x6 = x4 &&& x5 := Sum.inl.inj (ro_111.mp f2)
  clear m1 m2 m3 m4
  have q0 : rB K n p 444 [rI x1, rI x6] σ := ro_444.mpr (by
    intro _
    refine ⟨0, Or.inr ⟨rfl, by omega⟩, ?_⟩
    rw [uR]
    refine rBitR' (z := 3) f1 f2 b2 d2 (by omega) (by decide) (by omega) (by omega) ?_
    rw [if_neg (by decide), if_neg (by omega)]
    rfl)
  exact ⟨p, fun _ => rfl, ⟨(fun q h => by cases h), fun q h => (by cases h), (fun f h => by cases h), (aAllc ⟨_, rfl, (rF_b (r := 7106) (by decide) rfl).mpr q0⟩ (fun f h => by cases h))⟩, [], List.mem_cons_self, fun f h => (by cases h)⟩
theorem rw_rwMC01 {K : Nat → Nat} {n : Nat} {JX : (Nat → jcell) → Prop} : aGho (rF K n) fa_T K n JX ag_rwMC01 := by
  refine aGho_of ⟨rfl, rfl⟩ ?_
  intro p σ ρ hH hX hA hM0
  have hG := aAG_of hA.1 (fun i e v he hv => (hA.2 i e v he hv).1)
  clear hA
  obtain ⟨v0, v1, v2, v3, v4, v5, v6, v7, v8, v9, v10, v11, rfl, g0, g1, g2, g3, g4, g5, g6, g7, g8, g9, g10, g11⟩ := rA_12 hG
  clear hG
  obtain ⟨x0, rfl, b0, d0⟩ := rG_ref (by decide) g0
  obtain ⟨x1, rfl, b1, d1⟩ := aG_int g1
  dsimp only at b1 d1
  obtain ⟨x2, rfl, b2, d2⟩ := aG_int g2
  dsimp only at b2 d2
  obtain ⟨x3, rfl, b3, d3⟩ := aG_int g3
  dsimp only at b3 d3
  obtain ⟨x4, rfl, b4, d4⟩ := aG_int g4
  dsimp only at b4 d4
  obtain ⟨x5, rfl, b5, d5⟩ := aG_int g5
  dsimp only at b5 d5
  obtain ⟨x6, rfl, b6, d6⟩ := aG_int g6
  dsimp only at b6 d6
  obtain ⟨x7, rfl, b7, d7⟩ := aG_int g7
  dsimp only at b7 d7
  obtain ⟨x8, rfl, b8, d8⟩ := aG_int g8
  dsimp only at b8 d8
  obtain ⟨x9, rfl, b9, d9⟩ := aG_int g9
  dsimp only at b9 d9
  obtain ⟨x10, rfl, b10, d10⟩ := aG_int g10
  dsimp only at b10 d10
  obtain ⟨x11, rfl, b11, d11⟩ := aG_int g11
  dsimp only at b11 d11
  obtain ⟨m1, m2, m3, m4⟩ := hM0
  obtain ⟨T, hT⟩ := rTe_ex hH b0 d0
  obtain ⟨a0, c0, fs0, w0, e1, s0, t0, e4⟩ := m1 (0, 25, 11) (List.mem_of_getElem? (i := 0) rfl)
  obtain rfl : x0 = a0 := Sum.inl.inj (Option.some.inj (Sum.inr.inj (Sum.inr.inj (Option.some.inj (show some (rR x0) = some _ from e1)))))
  obtain rfl : rI x11 = w0 := Option.some.inj (show some (rI x11) = some w0 from e4)
  clear e1 e4
  have f0 : rB K n p 400 [rR x0] σ := by
    obtain ⟨w, e6, e7⟩ := m4 (6401, [0]) (List.mem_of_getElem? (i := 0) rfl)
    obtain rfl : [rR x0] = w := Option.some.inj (show some [rR x0] = some w from e6)
    exact (rF_b (r := 6401) (by decide) rfl).mp e7
  obtain ⟨hp, hR⟩ := ro_400.mp f0
  obtain rfl := rMg_u hT hR.1
  have uS : p.1.2.1 = x11.toInt := rTX_f hR.2.1 s0 t0
  have f1 : rB K n p 444 [rI x1, rI x10] σ := by
    obtain ⟨w, e6, e7⟩ := m4 (7106, [1, 10]) (List.mem_of_getElem? (i := 1) rfl)
    obtain rfl : [rI x1, rI x10] = w := Option.some.inj (show some [rI x1, rI x10] = some w from e6)
    exact (rF_b (r := 7106) (by decide) rfl).mp e7
  have f1 := ro_444.mp f1
  have f2 : rB K n p 222 [rR x0, rI x3, rI x4, rI x5] σ := by
    obtain ⟨w, e6, e7⟩ := m4 (3556, [0, 3, 4, 5]) (List.mem_of_getElem? (i := 2) rfl)
    obtain rfl : [rR x0, rI x3, rI x4, rI x5] = w := Option.some.inj (show some [rR x0, rI x3, rI x4, rI x5] = some w from e6)
    exact (rF_b (r := 3556) (by decide) rfl).mp e7
  obtain ⟨M9, h9, f2⟩ := ro_222.mp f2
  obtain rfl := rMg_u hT h9
  clear h9
  have f3 : rB K n p 230 [rR x0, rI x6] σ := by
    obtain ⟨w, e6, e7⟩ := m4 (3682, [0, 6]) (List.mem_of_getElem? (i := 3) rfl)
    obtain rfl : [rR x0, rI x6] = w := Option.some.inj (show some [rR x0, rI x6] = some w from e6)
    exact (rF_b (r := 3682) (by decide) rfl).mp e7
  obtain ⟨M9, h9, f3⟩ := ro_230.mp f3
  obtain rfl := rMg_u hT h9
  clear h9
  have f4 : rB K n p 204 [rR x0, rI x7, rI x8, rI x9] σ := by
    obtain ⟨w, e6, e7⟩ := m4 (3268, [0, 7, 8, 9]) (List.mem_of_getElem? (i := 4) rfl)
    obtain rfl : [rR x0, rI x7, rI x8, rI x9] = w := Option.some.inj (show some [rR x0, rI x7, rI x8, rI x9] = some w from e6)
    exact (rF_b (r := 3268) (by decide) rfl).mp e7
  obtain ⟨M9, h9, f4⟩ := ro_204.mp f4
  obtain rfl := rMg_u hT h9
  clear h9
  clear m1 m2 m3 m4
  have q0 : rB K n p 428 [rI x1, rI x2] σ := ro_428.mpr (by
    intro _
    obtain ⟨h, hh, hr⟩ := f1 (by omega)
    have eh : h = 0 := by
      unfold rTh at hh
      omega
    subst eh
    refine ⟨0, hh, hr, fun j j1 j2 => f2 (by omega) j (by rw [if_neg (by decide)] at j1; omega) (by rw [if_neg (by decide)] at j2; omega), ?_, ?_⟩
    · have h3 := f3
      rw [if_neg (by omega), show x6.toInt = 56 * p.1.2.1 + 4 by omega] at h3
      rw [show 1 - p.1.2.1 = 0 by omega]
      exact h3
    · have h4 := f4 (by omega)
      rw [if_neg (by decide), show 56 * p.1.2.1 + 3 = x7.toInt by omega, show 1 - p.1.2.1 = x8.toInt by omega]
      exact h4)
  exact ⟨p, fun _ => rfl, ⟨(fun q h => by cases h), fun q h => (by cases h), (fun f h => by cases h), (aAllc ⟨_, rfl, (rF_b (r := 6850) (by decide) rfl).mpr q0⟩ (fun f h => by cases h))⟩, [], List.mem_cons_self, fun f h => (by cases h)⟩
theorem rw_rwRK1 {K : Nat → Nat} {n : Nat} {JX : (Nat → jcell) → Prop} : aGho (rF K n) fa_T K n JX ag_rwRK1 := by
  refine aGho_of ⟨rfl, rfl⟩ ?_
  intro p σ ρ hH hX hA hM0
  have hG := aAG_of hA.1 (fun i e v he hv => (hA.2 i e v he hv).1)
  clear hA
  obtain ⟨v0, rfl, g0⟩ := rA_1 hG
  clear hG
  obtain ⟨x0, rfl, b0, d0⟩ := aG_int g0
  dsimp only at b0 d0
  obtain ⟨m1, m2, m3, m4⟩ := hM0
  clear m1 m2 m3 m4
  have q0 : rB K n p 231 [rI x0] σ := ro_231.mpr (by
    trivial)
  exact ⟨p, fun _ => rfl, ⟨(fun q h => by cases h), fun q h => (by cases h), (fun f h => by cases h), (aAllc ⟨_, rfl, (rF_b (r := 3697) (by decide) rfl).mpr q0⟩ (fun f h => by cases h))⟩, [], List.mem_cons_self, fun f h => (by cases h)⟩
theorem rw_rwRMa {K : Nat → Nat} {n : Nat} {JX : (Nat → jcell) → Prop} : aGho (rF K n) fa_T K n JX ag_rwRMa := by
  refine aGho_of ⟨rfl, rfl⟩ ?_
  intro p σ ρ hH hX hA hM0
  have hG := aAG_of hA.1 (fun i e v he hv => (hA.2 i e v he hv).1)
  clear hA
  obtain ⟨v0, rfl, g0⟩ := rA_1 hG
  clear hG
  obtain ⟨x0, rfl, b0, d0⟩ := aG_int g0
  dsimp only at b0 d0
  obtain ⟨m1, m2, m3, m4⟩ := hM0
  clear m1 m2 m3 m4
  have q0 : rB K n p 232 [rI x0] σ := ro_232.mpr (by
    trivial)
  exact ⟨p, fun _ => rfl, ⟨(fun q h => by cases h), fun q h => (by cases h), (fun f h => by cases h), (aAllc ⟨_, rfl, (rF_b (r := 3713) (by decide) rfl).mpr q0⟩ (fun f h => by cases h))⟩, [], List.mem_cons_self, fun f h => (by cases h)⟩
theorem rw_rwRMb {K : Nat → Nat} {n : Nat} {JX : (Nat → jcell) → Prop} : aGho (rF K n) fa_T K n JX ag_rwRMb := by
  refine aGho_of ⟨rfl, rfl⟩ ?_
  intro p σ ρ hH hX hA hM0
  have hG := aAG_of hA.1 (fun i e v he hv => (hA.2 i e v he hv).1)
  clear hA
  obtain ⟨v0, rfl, g0⟩ := rA_1 hG
  clear hG
  obtain ⟨x0, rfl, b0, d0⟩ := aG_int g0
  dsimp only at b0 d0
  obtain ⟨m1, m2, m3, m4⟩ := hM0
  clear m1 m2 m3 m4
  have q0 : rB K n p 233 [rI x0] σ := ro_233.mpr (by
    trivial)
  exact ⟨p, fun _ => rfl, ⟨(fun q h => by cases h), fun q h => (by cases h), (fun f h => by cases h), (aAllc ⟨_, rfl, (rF_b (r := 3729) (by decide) rfl).mpr q0⟩ (fun f h => by cases h))⟩, [], List.mem_cons_self, fun f h => (by cases h)⟩
theorem rw_rwRKa {K : Nat → Nat} {n : Nat} {JX : (Nat → jcell) → Prop} : aGho (rF K n) fa_T K n JX ag_rwRKa := by
  refine aGho_of ⟨rfl, rfl⟩ ?_
  intro p σ ρ hH hX hA hM0
  have hG := aAG_of hA.1 (fun i e v he hv => (hA.2 i e v he hv).1)
  clear hA
  obtain ⟨v0, rfl, g0⟩ := rA_1 hG
  clear hG
  obtain ⟨x0, rfl, b0, d0⟩ := aG_int g0
  dsimp only at b0 d0
  obtain ⟨m1, m2, m3, m4⟩ := hM0
  clear m1 m2 m3 m4
  have q0 : rB K n p 234 [rI x0] σ := ro_234.mpr (by
    trivial)
  exact ⟨p, fun _ => rfl, ⟨(fun q h => by cases h), fun q h => (by cases h), (fun f h => by cases h), (aAllc ⟨_, rfl, (rF_b (r := 3745) (by decide) rfl).mpr q0⟩ (fun f h => by cases h))⟩, [], List.mem_cons_self, fun f h => (by cases h)⟩
theorem rw_rwRKb {K : Nat → Nat} {n : Nat} {JX : (Nat → jcell) → Prop} : aGho (rF K n) fa_T K n JX ag_rwRKb := by
  refine aGho_of ⟨rfl, rfl⟩ ?_
  intro p σ ρ hH hX hA hM0
  have hG := aAG_of hA.1 (fun i e v he hv => (hA.2 i e v he hv).1)
  clear hA
  obtain ⟨v0, rfl, g0⟩ := rA_1 hG
  clear hG
  obtain ⟨x0, rfl, b0, d0⟩ := aG_int g0
  dsimp only at b0 d0
  obtain ⟨m1, m2, m3, m4⟩ := hM0
  clear m1 m2 m3 m4
  have q0 : rB K n p 235 [rI x0] σ := ro_235.mpr (by
    trivial)
  exact ⟨p, fun _ => rfl, ⟨(fun q h => by cases h), fun q h => (by cases h), (fun f h => by cases h), (aAllc ⟨_, rfl, (rF_b (r := 3761) (by decide) rfl).mpr q0⟩ (fun f h => by cases h))⟩, [], List.mem_cons_self, fun f h => (by cases h)⟩
theorem rw_rwSDx {K : Nat → Nat} {n : Nat} {JX : (Nat → jcell) → Prop} : aGho (rF K n) fa_T K n JX ag_rwSDx := by
  refine aGho_of ⟨rfl, rfl⟩ ?_
  intro p σ ρ hH hX hA hM0
  have hG := aAG_of hA.1 (fun i e v he hv => (hA.2 i e v he hv).1)
  clear hA
  obtain ⟨v0, rfl, g0⟩ := rA_1 hG
  clear hG
  obtain ⟨x0, rfl, b0, d0⟩ := aG_int g0
  dsimp only at b0 d0
  obtain ⟨m1, m2, m3, m4⟩ := hM0
  clear m1 m2 m3 m4
  have q0 : rB K n p 236 [rI x0] σ := ro_236.mpr (by
    trivial)
  exact ⟨p, fun _ => rfl, ⟨(fun q h => by cases h), fun q h => (by cases h), (fun f h => by cases h), (aAllc ⟨_, rfl, (rF_b (r := 3777) (by decide) rfl).mpr q0⟩ (fun f h => by cases h))⟩, [], List.mem_cons_self, fun f h => (by cases h)⟩
theorem rw_rwDV {K : Nat → Nat} {n : Nat} {JX : (Nat → jcell) → Prop} : aGho (rF K n) fa_T K n JX ag_rwDV := by
  refine aGho_of ⟨rfl, rfl⟩ ?_
  intro p σ ρ hH hX hA hM0
  have hG := aAG_of hA.1 (fun i e v he hv => (hA.2 i e v he hv).1)
  clear hA
  obtain ⟨v0, v1, v2, rfl, g0, g1, g2⟩ := rA_3 hG
  clear hG
  obtain ⟨x0, rfl, b0, d0⟩ := aG_int g0
  dsimp only at b0 d0
  obtain ⟨x1, rfl, b1, d1⟩ := aG_int g1
  dsimp only at b1 d1
  obtain ⟨x2, rfl, b2, d2⟩ := aG_int g2
  dsimp only at b2 d2
  obtain ⟨m1, m2, m3, m4⟩ := hM0
  have f0 : rB K n p 116 [rI x0, rI x1, rI x2] σ := by
    obtain ⟨w, e6, e7⟩ := m4 (1859, [0, 1, 2]) (List.mem_of_getElem? (i := 0) rfl)
    obtain rfl : [rI x0, rI x1, rI x2] = w := Option.some.inj (show some [rI x0, rI x1, rI x2] = some w from e6)
    exact (rF_b (r := 1859) (by decide) rfl).mp e7
  have f0 : ¬ x1 = 0 ∧ x2 = x0 / x1 := ⟨(ro_116.mp f0).1, Sum.inl.inj (ro_116.mp f0).2⟩
  clear m1 m2 m3 m4
  have r0 : 0 ≤ (1 * x2.toInt + 0) + 1 := by
    obtain ⟨-, e⟩ := f0
    have e0 : x0 = -8 := Int32.toInt_inj.mp (by rw [show (-8 : Int32).toInt = -8 from rfl]; omega)
    have e1 : x1 = 8 := Int32.toInt_inj.mp (by rw [show (8 : Int32).toInt = 8 from rfl]; omega)
    have e2 : x2.toInt = -1 := by rw [e, e0, e1]; rfl
    omega
  have r1 : 0 ≤ (-1 * x2.toInt + 0) + -1 := by
    obtain ⟨-, e⟩ := f0
    have e0 : x0 = -8 := Int32.toInt_inj.mp (by rw [show (-8 : Int32).toInt = -8 from rfl]; omega)
    have e1 : x1 = 8 := Int32.toInt_inj.mp (by rw [show (8 : Int32).toInt = 8 from rfl]; omega)
    have e2 : x2.toInt = -1 := by rw [e, e0, e1]; rfl
    omega
  exact ⟨p, fun _ => rfl, ⟨(fun q h => by cases h), fun q h => (by cases h), (aAllc ⟨_, rfl, r0⟩ (aAllc ⟨_, rfl, r1⟩ (fun f h => by cases h))), (fun f h => by cases h)⟩, [], List.mem_cons_self, fun f h => (by cases h)⟩
theorem rw_rwPG0 {K : Nat → Nat} {n : Nat} {JX : (Nat → jcell) → Prop} : aGho (rF K n) fa_T K n JX ag_rwPG0 := by
  refine aGho_of ⟨rfl, rfl⟩ ?_
  intro p σ ρ hH hX hA hM0
  have hG := aAG_of hA.1 (fun i e v he hv => (hA.2 i e v he hv).1)
  clear hA
  obtain ⟨v0, v1, v2, rfl, g0, g1, g2⟩ := rA_3 hG
  clear hG
  obtain ⟨x0, rfl, b0, d0⟩ := aG_int g0
  dsimp only at b0 d0
  obtain ⟨x1, rfl, b1, d1⟩ := aG_int g1
  dsimp only at b1 d1
  obtain ⟨x2, rfl, b2, d2⟩ := aG_int g2
  dsimp only at b2 d2
  obtain ⟨m1, m2, m3, m4⟩ := hM0
  clear m1 m2 m3 m4
  have q0 : rB K n p 427 [rI x0, rI x1, rI x2] σ := ro_427.mpr (by
    intro h
    omega)
  exact ⟨p, fun _ => rfl, ⟨(fun q h => by cases h), fun q h => (by cases h), (fun f h => by cases h), (aAllc ⟨_, rfl, (rF_b (r := 6835) (by decide) rfl).mpr q0⟩ (fun f h => by cases h))⟩, [], List.mem_cons_self, fun f h => (by cases h)⟩
theorem rw_rwPG10 {K : Nat → Nat} {n : Nat} {JX : (Nat → jcell) → Prop} : aGho (rF K n) fa_T K n JX ag_rwPG10 := by
  refine aGho_of ⟨rfl, rfl⟩ ?_
  intro p σ ρ hH hX hA hM0
  have hG := aAG_of hA.1 (fun i e v he hv => (hA.2 i e v he hv).1)
  clear hA
  obtain ⟨v0, v1, v2, v3, v4, v5, v6, rfl, g0, g1, g2, g3, g4, g5, g6⟩ := rA_7 hG
  clear hG
  obtain ⟨x0, rfl, b0, d0⟩ := rG_ref (by decide) g0
  obtain ⟨x1, rfl, b1, d1⟩ := aG_int g1
  dsimp only at b1 d1
  obtain ⟨x2, rfl, b2, d2⟩ := aG_int g2
  dsimp only at b2 d2
  obtain ⟨x3, rfl, b3, d3⟩ := aG_int g3
  dsimp only at b3 d3
  obtain ⟨x4, rfl, b4, d4⟩ := aG_int g4
  dsimp only at b4 d4
  obtain ⟨x5, rfl, b5, d5⟩ := rG_ref (by decide) g5
  obtain ⟨x6, rfl, b6, d6⟩ := aG_int g6
  dsimp only at b6 d6
  obtain ⟨m1, m2, m3, m4⟩ := hM0
  obtain ⟨T, hT⟩ := rTe_ex hH b0 d0
  obtain ⟨a0, c0, fs0, w0, e1, s0, t0, e4⟩ := m1 (0, 24, 5) (List.mem_of_getElem? (i := 0) rfl)
  obtain rfl : x0 = a0 := Sum.inl.inj (Option.some.inj (Sum.inr.inj (Sum.inr.inj (Option.some.inj (show some (rR x0) = some _ from e1)))))
  obtain rfl : rR x5 = w0 := Option.some.inj (show some (rR x5) = some w0 from e4)
  clear e1 e4
  obtain ⟨a1, c1, fs1, w1, e1, s1, t1, e4⟩ := m1 (0, 25, 6) (List.mem_of_getElem? (i := 1) rfl)
  obtain rfl : x0 = a1 := Sum.inl.inj (Option.some.inj (Sum.inr.inj (Sum.inr.inj (Option.some.inj (show some (rR x0) = some _ from e1)))))
  obtain rfl : rI x6 = w1 := Option.some.inj (show some (rI x6) = some w1 from e4)
  clear e1 e4
  obtain ⟨a, mc0, ty0, gc0, ic0, e1, sc0, jc0, e4, e5⟩ := m2 (5, ([(2, 1)], 0), 3) (List.mem_of_getElem? (i := 0) rfl)
  obtain rfl : x5 = a := Sum.inl.inj (Option.some.inj (Sum.inr.inj (Sum.inr.inj (Option.some.inj (show some (rR x5) = some _ from e1)))))
  obtain ⟨gc0, rfl⟩ : ∃ g, gc0 = .inl g := by
    rcases gc0 with g | g
    · exact ⟨g, rfl⟩
    · exact absurd (show some (rI x3) = some (.inr (.inl (g ic0))) from e5) (fun h => by cases h)
  have sc0 : σ x5 = .inl (ty0, mc0, .inl gc0) := sc0
  have ec0 : x3 = gc0 ic0 := Sum.inl.inj (Option.some.inj (show some (rI x3) = some _ from e5))
  have kc0 : (ic0 : Int) = (1 * x2.toInt + 0) + 0 := by
    obtain ⟨z, e6, e7⟩ := e4
    obtain rfl : (1 * x2.toInt + 0) = z := Option.some.inj (show some (1 * x2.toInt + 0) = some z from e6)
    exact e7
  clear e1 e4 e5
  have l0 : 0 ≤ (1 * x2.toInt + (-1 * x1.toInt + 0)) + -8 := by
    obtain ⟨z, e6, e7⟩ := m3 ([(2, 1), (1, -1)], -8) (List.mem_of_getElem? (i := 0) rfl)
    obtain rfl : (1 * x2.toInt + (-1 * x1.toInt + 0)) = z := Option.some.inj (show some (1 * x2.toInt + (-1 * x1.toInt + 0)) = some z from e6)
    exact e7
  have l1 : 0 ≤ (-1 * x2.toInt + (1 * x1.toInt + 0)) + 8 := by
    obtain ⟨z, e6, e7⟩ := m3 ([(2, -1), (1, 1)], 8) (List.mem_of_getElem? (i := 1) rfl)
    obtain rfl : (-1 * x2.toInt + (1 * x1.toInt + 0)) = z := Option.some.inj (show some (-1 * x2.toInt + (1 * x1.toInt + 0)) = some z from e6)
    exact e7
  have y0 : T x2.toInt = x3.toInt := rMg_c hT s0 t0 sc0 (by omega) (by omega) (by omega) ec0
  have f0 : rB K n p 400 [rR x0] σ := by
    obtain ⟨w, e6, e7⟩ := m4 (6401, [0]) (List.mem_of_getElem? (i := 0) rfl)
    obtain rfl : [rR x0] = w := Option.some.inj (show some [rR x0] = some w from e6)
    exact (rF_b (r := 6401) (by decide) rfl).mp e7
  obtain ⟨hp, hR⟩ := ro_400.mp f0
  obtain rfl := rMg_u hT hR.1
  have uS : p.1.2.1 = x6.toInt := rTX_f hR.2.1 s1 t1
  clear m1 m2 m3 m4
  have q0 : rB K n p 427 [rI x1, rI x2, rI x4] σ := ro_427.mpr (by
    intro _
    have e : rSp x1.toInt 0 (rUpw p.1) = x1.toInt + 8 := by
      unfold rSp rUpw
      rw [if_pos (by omega)]
      omega
    refine Or.inl ?_
    unfold rPF
    rw [e]
    exact ⟨by omega, by rw [show x1.toInt + 8 = x2.toInt by omega]; omega, Or.inl (by omega)⟩)
  exact ⟨p, fun _ => rfl, ⟨(fun q h => by cases h), fun q h => (by cases h), (fun f h => by cases h), (aAllc ⟨_, rfl, (rF_b (r := 6835) (by decide) rfl).mpr q0⟩ (fun f h => by cases h))⟩, [], List.mem_cons_self, fun f h => (by cases h)⟩
theorem rw_rwPG20 {K : Nat → Nat} {n : Nat} {JX : (Nat → jcell) → Prop} : aGho (rF K n) fa_T K n JX ag_rwPG20 := by
  refine aGho_of ⟨rfl, rfl⟩ ?_
  intro p σ ρ hH hX hA hM0
  have hG := aAG_of hA.1 (fun i e v he hv => (hA.2 i e v he hv).1)
  clear hA
  obtain ⟨v0, v1, v2, v3, v4, v5, v6, v7, v8, rfl, g0, g1, g2, g3, g4, g5, g6, g7, g8⟩ := rA_9 hG
  clear hG
  obtain ⟨x0, rfl, b0, d0⟩ := rG_ref (by decide) g0
  obtain ⟨x1, rfl, b1, d1⟩ := aG_int g1
  dsimp only at b1 d1
  obtain ⟨x2, rfl, b2, d2⟩ := aG_int g2
  dsimp only at b2 d2
  obtain ⟨x3, rfl, b3, d3⟩ := aG_int g3
  dsimp only at b3 d3
  obtain ⟨x4, rfl, b4, d4⟩ := aG_int g4
  dsimp only at b4 d4
  obtain ⟨x5, rfl, b5, d5⟩ := aG_int g5
  dsimp only at b5 d5
  obtain ⟨x6, rfl, b6, d6⟩ := aG_int g6
  dsimp only at b6 d6
  obtain ⟨x7, rfl, b7, d7⟩ := rG_ref (by decide) g7
  obtain ⟨x8, rfl, b8, d8⟩ := aG_int g8
  dsimp only at b8 d8
  obtain ⟨m1, m2, m3, m4⟩ := hM0
  obtain ⟨T, hT⟩ := rTe_ex hH b0 d0
  obtain ⟨a0, c0, fs0, w0, e1, s0, t0, e4⟩ := m1 (0, 24, 7) (List.mem_of_getElem? (i := 0) rfl)
  obtain rfl : x0 = a0 := Sum.inl.inj (Option.some.inj (Sum.inr.inj (Sum.inr.inj (Option.some.inj (show some (rR x0) = some _ from e1)))))
  obtain rfl : rR x7 = w0 := Option.some.inj (show some (rR x7) = some w0 from e4)
  clear e1 e4
  obtain ⟨a1, c1, fs1, w1, e1, s1, t1, e4⟩ := m1 (0, 25, 8) (List.mem_of_getElem? (i := 1) rfl)
  obtain rfl : x0 = a1 := Sum.inl.inj (Option.some.inj (Sum.inr.inj (Sum.inr.inj (Option.some.inj (show some (rR x0) = some _ from e1)))))
  obtain rfl : rI x8 = w1 := Option.some.inj (show some (rI x8) = some w1 from e4)
  clear e1 e4
  obtain ⟨a, mc0, ty0, gc0, ic0, e1, sc0, jc0, e4, e5⟩ := m2 (7, ([(1, 1)], 8), 3) (List.mem_of_getElem? (i := 0) rfl)
  obtain rfl : x7 = a := Sum.inl.inj (Option.some.inj (Sum.inr.inj (Sum.inr.inj (Option.some.inj (show some (rR x7) = some _ from e1)))))
  obtain ⟨gc0, rfl⟩ : ∃ g, gc0 = .inl g := by
    rcases gc0 with g | g
    · exact ⟨g, rfl⟩
    · exact absurd (show some (rI x3) = some (.inr (.inl (g ic0))) from e5) (fun h => by cases h)
  have sc0 : σ x7 = .inl (ty0, mc0, .inl gc0) := sc0
  have ec0 : x3 = gc0 ic0 := Sum.inl.inj (Option.some.inj (show some (rI x3) = some _ from e5))
  have kc0 : (ic0 : Int) = (1 * x1.toInt + 0) + 8 := by
    obtain ⟨z, e6, e7⟩ := e4
    obtain rfl : (1 * x1.toInt + 0) = z := Option.some.inj (show some (1 * x1.toInt + 0) = some z from e6)
    exact e7
  clear e1 e4 e5
  obtain ⟨a, mc1, ty1, gc1, ic1, e1, sc1, jc1, e4, e5⟩ := m2 (7, ([(2, 1)], 0), 4) (List.mem_of_getElem? (i := 1) rfl)
  obtain rfl : x7 = a := Sum.inl.inj (Option.some.inj (Sum.inr.inj (Sum.inr.inj (Option.some.inj (show some (rR x7) = some _ from e1)))))
  obtain ⟨gc1, rfl⟩ : ∃ g, gc1 = .inl g := by
    rcases gc1 with g | g
    · exact ⟨g, rfl⟩
    · exact absurd (show some (rI x4) = some (.inr (.inl (g ic1))) from e5) (fun h => by cases h)
  have sc1 : σ x7 = .inl (ty1, mc1, .inl gc1) := sc1
  have ec1 : x4 = gc1 ic1 := Sum.inl.inj (Option.some.inj (show some (rI x4) = some _ from e5))
  have kc1 : (ic1 : Int) = (1 * x2.toInt + 0) + 0 := by
    obtain ⟨z, e6, e7⟩ := e4
    obtain rfl : (1 * x2.toInt + 0) = z := Option.some.inj (show some (1 * x2.toInt + 0) = some z from e6)
    exact e7
  clear e1 e4 e5
  have l0 : 0 ≤ (1 * x2.toInt + (-1 * x1.toInt + 0)) + -16 := by
    obtain ⟨z, e6, e7⟩ := m3 ([(2, 1), (1, -1)], -16) (List.mem_of_getElem? (i := 0) rfl)
    obtain rfl : (1 * x2.toInt + (-1 * x1.toInt + 0)) = z := Option.some.inj (show some (1 * x2.toInt + (-1 * x1.toInt + 0)) = some z from e6)
    exact e7
  have l1 : 0 ≤ (-1 * x2.toInt + (1 * x1.toInt + 0)) + 16 := by
    obtain ⟨z, e6, e7⟩ := m3 ([(2, -1), (1, 1)], 16) (List.mem_of_getElem? (i := 1) rfl)
    obtain rfl : (-1 * x2.toInt + (1 * x1.toInt + 0)) = z := Option.some.inj (show some (-1 * x2.toInt + (1 * x1.toInt + 0)) = some z from e6)
    exact e7
  have y0 : T ((1 * x1.toInt + 0) + 8) = x3.toInt := rMg_c hT s0 t0 sc0 (by omega) (by omega) (by omega) ec0
  have y1 : T x2.toInt = x4.toInt := rMg_c hT s0 t0 sc1 (by omega) (by omega) (by omega) ec1
  have f0 : rB K n p 400 [rR x0] σ := by
    obtain ⟨w, e6, e7⟩ := m4 (6401, [0]) (List.mem_of_getElem? (i := 0) rfl)
    obtain rfl : [rR x0] = w := Option.some.inj (show some [rR x0] = some w from e6)
    exact (rF_b (r := 6401) (by decide) rfl).mp e7
  obtain ⟨hp, hR⟩ := ro_400.mp f0
  obtain rfl := rMg_u hT hR.1
  have uS : p.1.2.1 = x8.toInt := rTX_f hR.2.1 s1 t1
  have f1 : rB K n p 157 [rI x1, rI x5] σ := by
    obtain ⟨w, e6, e7⟩ := m4 (2514, [1, 5]) (List.mem_of_getElem? (i := 1) rfl)
    obtain rfl : [rI x1, rI x5] = w := Option.some.inj (show some [rI x1, rI x5] = some w from e6)
    exact (rF_b (r := 2514) (by decide) rfl).mp e7
  have f1 := ro_157.mp f1
  clear m1 m2 m3 m4
  have q0 : rB K n p 427 [rI x1, rI x2, rI x6] σ := ro_427.mpr (by
    intro _
    have e : rSp x1.toInt 0 (rUpw p.1) = x1.toInt + 8 := by
      unfold rSp rUpw
      rw [if_pos (by omega)]
      omega
    have e2 : rSp (x1.toInt + 8) 0 (rUpw p.1) = x2.toInt := by
      unfold rSp rUpw
      rw [if_pos (by omega)]
      omega
    refine Or.inl ?_
    unfold rPF
    rw [e, e2]
    rw [show 1 * x1.toInt + 0 + 8 = x1.toInt + 8 by omega] at y0
    exact ⟨by omega, by omega, Or.inr ⟨by omega, rfl, by omega⟩⟩)
  exact ⟨p, fun _ => rfl, ⟨(fun q h => by cases h), fun q h => (by cases h), (fun f h => by cases h), (aAllc ⟨_, rfl, (rF_b (r := 6835) (by decide) rfl).mpr q0⟩ (fun f h => by cases h))⟩, [], List.mem_cons_self, fun f h => (by cases h)⟩
theorem rw_rwPG3r0 {K : Nat → Nat} {n : Nat} {JX : (Nat → jcell) → Prop} : aGho (rF K n) fa_T K n JX ag_rwPG3r0 := by
  refine aGho_of ⟨rfl, rfl⟩ ?_
  intro p σ ρ hH hX hA hM0
  have hG := aAG_of hA.1 (fun i e v he hv => (hA.2 i e v he hv).1)
  clear hA
  obtain ⟨v0, v1, v2, v3, v4, v5, v6, v7, v8, v9, v10, v11, rfl, g0, g1, g2, g3, g4, g5, g6, g7, g8, g9, g10, g11⟩ := rA_12 hG
  clear hG
  obtain ⟨x0, rfl, b0, d0⟩ := rG_ref (by decide) g0
  obtain ⟨x1, rfl, b1, d1⟩ := aG_int g1
  dsimp only at b1 d1
  obtain ⟨x2, rfl, b2, d2⟩ := aG_int g2
  dsimp only at b2 d2
  obtain ⟨x3, rfl, b3, d3⟩ := aG_int g3
  dsimp only at b3 d3
  obtain ⟨x4, rfl, b4, d4⟩ := aG_int g4
  dsimp only at b4 d4
  obtain ⟨x5, rfl, b5, d5⟩ := aG_int g5
  dsimp only at b5 d5
  obtain ⟨x6, rfl, b6, d6⟩ := aG_int g6
  dsimp only at b6 d6
  obtain ⟨x7, rfl, b7, d7⟩ := aG_int g7
  dsimp only at b7 d7
  obtain ⟨x8, rfl, b8, d8⟩ := aG_int g8
  dsimp only at b8 d8
  obtain ⟨x9, rfl, b9, d9⟩ := aG_int g9
  dsimp only at b9 d9
  obtain ⟨x10, rfl, b10, d10⟩ := rG_ref (by decide) g10
  obtain ⟨x11, rfl, b11, d11⟩ := aG_int g11
  dsimp only at b11 d11
  obtain ⟨m1, m2, m3, m4⟩ := hM0
  obtain ⟨T, hT⟩ := rTe_ex hH b0 d0
  obtain ⟨a0, c0, fs0, w0, e1, s0, t0, e4⟩ := m1 (0, 24, 10) (List.mem_of_getElem? (i := 0) rfl)
  obtain rfl : x0 = a0 := Sum.inl.inj (Option.some.inj (Sum.inr.inj (Sum.inr.inj (Option.some.inj (show some (rR x0) = some _ from e1)))))
  obtain rfl : rR x10 = w0 := Option.some.inj (show some (rR x10) = some w0 from e4)
  clear e1 e4
  obtain ⟨a1, c1, fs1, w1, e1, s1, t1, e4⟩ := m1 (0, 25, 11) (List.mem_of_getElem? (i := 1) rfl)
  obtain rfl : x0 = a1 := Sum.inl.inj (Option.some.inj (Sum.inr.inj (Sum.inr.inj (Option.some.inj (show some (rR x0) = some _ from e1)))))
  obtain rfl : rI x11 = w1 := Option.some.inj (show some (rI x11) = some w1 from e4)
  clear e1 e4
  obtain ⟨a, mc0, ty0, gc0, ic0, e1, sc0, jc0, e4, e5⟩ := m2 (10, ([(2, 1)], 0), 8) (List.mem_of_getElem? (i := 0) rfl)
  obtain rfl : x10 = a := Sum.inl.inj (Option.some.inj (Sum.inr.inj (Sum.inr.inj (Option.some.inj (show some (rR x10) = some _ from e1)))))
  obtain ⟨gc0, rfl⟩ : ∃ g, gc0 = .inl g := by
    rcases gc0 with g | g
    · exact ⟨g, rfl⟩
    · exact absurd (show some (rI x8) = some (.inr (.inl (g ic0))) from e5) (fun h => by cases h)
  have sc0 : σ x10 = .inl (ty0, mc0, .inl gc0) := sc0
  have ec0 : x8 = gc0 ic0 := Sum.inl.inj (Option.some.inj (show some (rI x8) = some _ from e5))
  have kc0 : (ic0 : Int) = (1 * x2.toInt + 0) + 0 := by
    obtain ⟨z, e6, e7⟩ := e4
    obtain rfl : (1 * x2.toInt + 0) = z := Option.some.inj (show some (1 * x2.toInt + 0) = some z from e6)
    exact e7
  clear e1 e4 e5
  have l0 : 0 ≤ (1 * x4.toInt + (-1 * x3.toInt + 0)) + -1 := by
    obtain ⟨z, e6, e7⟩ := m3 ([(4, 1), (3, -1)], -1) (List.mem_of_getElem? (i := 0) rfl)
    obtain rfl : (1 * x4.toInt + (-1 * x3.toInt + 0)) = z := Option.some.inj (show some (1 * x4.toInt + (-1 * x3.toInt + 0)) = some z from e6)
    exact e7
  have l1 : 0 ≤ (-1 * x4.toInt + (1 * x3.toInt + 0)) + 1 := by
    obtain ⟨z, e6, e7⟩ := m3 ([(4, -1), (3, 1)], 1) (List.mem_of_getElem? (i := 1) rfl)
    obtain rfl : (-1 * x4.toInt + (1 * x3.toInt + 0)) = z := Option.some.inj (show some (-1 * x4.toInt + (1 * x3.toInt + 0)) = some z from e6)
    exact e7
  have l2 : 0 ≤ (1 * x6.toInt + (-1 * x5.toInt + 0)) + -1 := by
    obtain ⟨z, e6, e7⟩ := m3 ([(6, 1), (5, -1)], -1) (List.mem_of_getElem? (i := 2) rfl)
    obtain rfl : (1 * x6.toInt + (-1 * x5.toInt + 0)) = z := Option.some.inj (show some (1 * x6.toInt + (-1 * x5.toInt + 0)) = some z from e6)
    exact e7
  have l3 : 0 ≤ (-1 * x6.toInt + (1 * x5.toInt + 0)) + 1 := by
    obtain ⟨z, e6, e7⟩ := m3 ([(6, -1), (5, 1)], 1) (List.mem_of_getElem? (i := 3) rfl)
    obtain rfl : (-1 * x6.toInt + (1 * x5.toInt + 0)) = z := Option.some.inj (show some (-1 * x6.toInt + (1 * x5.toInt + 0)) = some z from e6)
    exact e7
  have y0 : T x2.toInt = x8.toInt := rMg_c hT s0 t0 sc0 (by omega) (by omega) (by omega) ec0
  have f0 : rB K n p 400 [rR x0] σ := by
    obtain ⟨w, e6, e7⟩ := m4 (6401, [0]) (List.mem_of_getElem? (i := 0) rfl)
    obtain rfl : [rR x0] = w := Option.some.inj (show some [rR x0] = some w from e6)
    exact (rF_b (r := 6401) (by decide) rfl).mp e7
  obtain ⟨hp, hR⟩ := ro_400.mp f0
  obtain rfl := rMg_u hT hR.1
  have uS : p.1.2.1 = x11.toInt := rTX_f hR.2.1 s1 t1
  have f1 : rB K n p 218 [rI x1, rI x3] σ := by
    obtain ⟨w, e6, e7⟩ := m4 (3490, [1, 3]) (List.mem_of_getElem? (i := 1) rfl)
    obtain rfl : [rI x1, rI x3] = w := Option.some.inj (show some [rI x1, rI x3] = some w from e6)
    exact (rF_b (r := 3490) (by decide) rfl).mp e7
  have f1 := ro_218.mp f1
  have f2 : rB K n p 218 [rI x2, rI x4] σ := by
    obtain ⟨w, e6, e7⟩ := m4 (3490, [2, 4]) (List.mem_of_getElem? (i := 2) rfl)
    obtain rfl : [rI x2, rI x4] = w := Option.some.inj (show some [rI x2, rI x4] = some w from e6)
    exact (rF_b (r := 3490) (by decide) rfl).mp e7
  have f2 := ro_218.mp f2
  have f3 : rB K n p 157 [rI x1, rI x5] σ := by
    obtain ⟨w, e6, e7⟩ := m4 (2514, [1, 5]) (List.mem_of_getElem? (i := 3) rfl)
    obtain rfl : [rI x1, rI x5] = w := Option.some.inj (show some [rI x1, rI x5] = some w from e6)
    exact (rF_b (r := 2514) (by decide) rfl).mp e7
  have f3 := ro_157.mp f3
  have f4 : rB K n p 157 [rI x2, rI x6] σ := by
    obtain ⟨w, e6, e7⟩ := m4 (2514, [2, 6]) (List.mem_of_getElem? (i := 4) rfl)
    obtain rfl : [rI x2, rI x6] = w := Option.some.inj (show some [rI x2, rI x6] = some w from e6)
    exact (rF_b (r := 2514) (by decide) rfl).mp e7
  have f4 := ro_157.mp f4
  have f5 : rB K n p 216 [rI x8, rI x9] σ := by
    obtain ⟨w, e6, e7⟩ := m4 (3458, [8, 9]) (List.mem_of_getElem? (i := 5) rfl)
    obtain rfl : [rI x8, rI x9] = w := Option.some.inj (show some [rI x8, rI x9] = some w from e6)
    exact (rF_b (r := 3458) (by decide) rfl).mp e7
  have f5 := ro_216.mp f5
  clear m1 m2 m3 m4
  have q0 : rB K n p 427 [rI x1, rI x2, rI x7] σ := ro_427.mpr (by
    intro _
    refine Or.inr ⟨1, by omega, b2, rSp_of b1 d1 b2 d2 (by omega) (by unfold rUpw; omega), Or.inl ⟨by omega, by omega⟩⟩)
  exact ⟨p, fun _ => rfl, ⟨(fun q h => by cases h), fun q h => (by cases h), (fun f h => by cases h), (aAllc ⟨_, rfl, (rF_b (r := 6835) (by decide) rfl).mpr q0⟩ (fun f h => by cases h))⟩, [], List.mem_cons_self, fun f h => (by cases h)⟩
theorem rw_rwPG4r0 {K : Nat → Nat} {n : Nat} {JX : (Nat → jcell) → Prop} : aGho (rF K n) fa_T K n JX ag_rwPG4r0 := by
  refine aGho_of ⟨rfl, rfl⟩ ?_
  intro p σ ρ hH hX hA hM0
  have hG := aAG_of hA.1 (fun i e v he hv => (hA.2 i e v he hv).1)
  clear hA
  obtain ⟨v0, v1, v2, v3, v4, v5, v6, v7, v8, v9, rfl, g0, g1, g2, g3, g4, g5, g6, g7, g8, g9⟩ := rA_10 hG
  clear hG
  obtain ⟨x0, rfl, b0, d0⟩ := rG_ref (by decide) g0
  obtain ⟨x1, rfl, b1, d1⟩ := aG_int g1
  dsimp only at b1 d1
  obtain ⟨x2, rfl, b2, d2⟩ := aG_int g2
  dsimp only at b2 d2
  obtain ⟨x3, rfl, b3, d3⟩ := aG_int g3
  dsimp only at b3 d3
  obtain ⟨x4, rfl, b4, d4⟩ := aG_int g4
  dsimp only at b4 d4
  obtain ⟨x5, rfl, b5, d5⟩ := aG_int g5
  dsimp only at b5 d5
  obtain ⟨x6, rfl, b6, d6⟩ := aG_int g6
  dsimp only at b6 d6
  obtain ⟨x7, rfl, b7, d7⟩ := aG_int g7
  dsimp only at b7 d7
  obtain ⟨x8, rfl, b8, d8⟩ := aG_int g8
  dsimp only at b8 d8
  obtain ⟨x9, rfl, b9, d9⟩ := aG_int g9
  dsimp only at b9 d9
  obtain ⟨m1, m2, m3, m4⟩ := hM0
  obtain ⟨T, hT⟩ := rTe_ex hH b0 d0
  obtain ⟨a0, c0, fs0, w0, e1, s0, t0, e4⟩ := m1 (0, 25, 9) (List.mem_of_getElem? (i := 0) rfl)
  obtain rfl : x0 = a0 := Sum.inl.inj (Option.some.inj (Sum.inr.inj (Sum.inr.inj (Option.some.inj (show some (rR x0) = some _ from e1)))))
  obtain rfl : rI x9 = w0 := Option.some.inj (show some (rI x9) = some w0 from e4)
  clear e1 e4
  obtain ⟨a1, c1, fs1, w1, e1, s1, t1, e4⟩ := m1 (0, 27, 8) (List.mem_of_getElem? (i := 1) rfl)
  obtain rfl : x0 = a1 := Sum.inl.inj (Option.some.inj (Sum.inr.inj (Sum.inr.inj (Option.some.inj (show some (rR x0) = some _ from e1)))))
  obtain rfl : rI x8 = w1 := Option.some.inj (show some (rI x8) = some w1 from e4)
  clear e1 e4
  have l0 : 0 ≤ (1 * x4.toInt + (-1 * x3.toInt + 0)) + -1 := by
    obtain ⟨z, e6, e7⟩ := m3 ([(4, 1), (3, -1)], -1) (List.mem_of_getElem? (i := 0) rfl)
    obtain rfl : (1 * x4.toInt + (-1 * x3.toInt + 0)) = z := Option.some.inj (show some (1 * x4.toInt + (-1 * x3.toInt + 0)) = some z from e6)
    exact e7
  have l1 : 0 ≤ (-1 * x4.toInt + (1 * x3.toInt + 0)) + 1 := by
    obtain ⟨z, e6, e7⟩ := m3 ([(4, -1), (3, 1)], 1) (List.mem_of_getElem? (i := 1) rfl)
    obtain rfl : (-1 * x4.toInt + (1 * x3.toInt + 0)) = z := Option.some.inj (show some (-1 * x4.toInt + (1 * x3.toInt + 0)) = some z from e6)
    exact e7
  have l2 : 0 ≤ (1 * x6.toInt + (-1 * x5.toInt + 0)) + -1 := by
    obtain ⟨z, e6, e7⟩ := m3 ([(6, 1), (5, -1)], -1) (List.mem_of_getElem? (i := 2) rfl)
    obtain rfl : (1 * x6.toInt + (-1 * x5.toInt + 0)) = z := Option.some.inj (show some (1 * x6.toInt + (-1 * x5.toInt + 0)) = some z from e6)
    exact e7
  have l3 : 0 ≤ (-1 * x6.toInt + (1 * x5.toInt + 0)) + 1 := by
    obtain ⟨z, e6, e7⟩ := m3 ([(6, -1), (5, 1)], 1) (List.mem_of_getElem? (i := 3) rfl)
    obtain rfl : (-1 * x6.toInt + (1 * x5.toInt + 0)) = z := Option.some.inj (show some (-1 * x6.toInt + (1 * x5.toInt + 0)) = some z from e6)
    exact e7
  have l4 : 0 ≤ (1 * x2.toInt + (-1 * x8.toInt + 0)) + 0 := by
    obtain ⟨z, e6, e7⟩ := m3 ([(2, 1), (8, -1)], 0) (List.mem_of_getElem? (i := 4) rfl)
    obtain rfl : (1 * x2.toInt + (-1 * x8.toInt + 0)) = z := Option.some.inj (show some (1 * x2.toInt + (-1 * x8.toInt + 0)) = some z from e6)
    exact e7
  have l5 : 0 ≤ (-1 * x2.toInt + (1 * x8.toInt + 0)) + 0 := by
    obtain ⟨z, e6, e7⟩ := m3 ([(2, -1), (8, 1)], 0) (List.mem_of_getElem? (i := 5) rfl)
    obtain rfl : (-1 * x2.toInt + (1 * x8.toInt + 0)) = z := Option.some.inj (show some (-1 * x2.toInt + (1 * x8.toInt + 0)) = some z from e6)
    exact e7
  have f0 : rB K n p 400 [rR x0] σ := by
    obtain ⟨w, e6, e7⟩ := m4 (6401, [0]) (List.mem_of_getElem? (i := 0) rfl)
    obtain rfl : [rR x0] = w := Option.some.inj (show some [rR x0] = some w from e6)
    exact (rF_b (r := 6401) (by decide) rfl).mp e7
  obtain ⟨hp, hR⟩ := ro_400.mp f0
  obtain rfl := rMg_u hT hR.1
  have uS : p.1.2.1 = x9.toInt := rTX_f hR.2.1 s0 t0
  have uP : p.1.2.2.2 = x8.toInt := rTX_f hR.2.2.2 s1 t1
  have f1 : rB K n p 218 [rI x1, rI x3] σ := by
    obtain ⟨w, e6, e7⟩ := m4 (3490, [1, 3]) (List.mem_of_getElem? (i := 1) rfl)
    obtain rfl : [rI x1, rI x3] = w := Option.some.inj (show some [rI x1, rI x3] = some w from e6)
    exact (rF_b (r := 3490) (by decide) rfl).mp e7
  have f1 := ro_218.mp f1
  have f2 : rB K n p 218 [rI x2, rI x4] σ := by
    obtain ⟨w, e6, e7⟩ := m4 (3490, [2, 4]) (List.mem_of_getElem? (i := 2) rfl)
    obtain rfl : [rI x2, rI x4] = w := Option.some.inj (show some [rI x2, rI x4] = some w from e6)
    exact (rF_b (r := 3490) (by decide) rfl).mp e7
  have f2 := ro_218.mp f2
  have f3 : rB K n p 157 [rI x1, rI x5] σ := by
    obtain ⟨w, e6, e7⟩ := m4 (2514, [1, 5]) (List.mem_of_getElem? (i := 3) rfl)
    obtain rfl : [rI x1, rI x5] = w := Option.some.inj (show some [rI x1, rI x5] = some w from e6)
    exact (rF_b (r := 2514) (by decide) rfl).mp e7
  have f3 := ro_157.mp f3
  have f4 : rB K n p 157 [rI x2, rI x6] σ := by
    obtain ⟨w, e6, e7⟩ := m4 (2514, [2, 6]) (List.mem_of_getElem? (i := 4) rfl)
    obtain rfl : [rI x2, rI x6] = w := Option.some.inj (show some [rI x2, rI x6] = some w from e6)
    exact (rF_b (r := 2514) (by decide) rfl).mp e7
  have f4 := ro_157.mp f4
  clear m1 m2 m3 m4
  have q0 : rB K n p 427 [rI x1, rI x2, rI x7] σ := ro_427.mpr (by
    intro _
    refine Or.inr ⟨1, by omega, b2, rSp_of b1 d1 b2 d2 (by omega) (by unfold rUpw; omega), Or.inr (by omega)⟩)
  exact ⟨p, fun _ => rfl, ⟨(fun q h => by cases h), fun q h => (by cases h), (fun f h => by cases h), (aAllc ⟨_, rfl, (rF_b (r := 6835) (by decide) rfl).mpr q0⟩ (fun f h => by cases h))⟩, [], List.mem_cons_self, fun f h => (by cases h)⟩
theorem rw_rwPG3l0 {K : Nat → Nat} {n : Nat} {JX : (Nat → jcell) → Prop} : aGho (rF K n) fa_T K n JX ag_rwPG3l0 := by
  refine aGho_of ⟨rfl, rfl⟩ ?_
  intro p σ ρ hH hX hA hM0
  have hG := aAG_of hA.1 (fun i e v he hv => (hA.2 i e v he hv).1)
  clear hA
  obtain ⟨v0, v1, v2, v3, v4, v5, v6, v7, v8, v9, v10, v11, rfl, g0, g1, g2, g3, g4, g5, g6, g7, g8, g9, g10, g11⟩ := rA_12 hG
  clear hG
  obtain ⟨x0, rfl, b0, d0⟩ := rG_ref (by decide) g0
  obtain ⟨x1, rfl, b1, d1⟩ := aG_int g1
  dsimp only at b1 d1
  obtain ⟨x2, rfl, b2, d2⟩ := aG_int g2
  dsimp only at b2 d2
  obtain ⟨x3, rfl, b3, d3⟩ := aG_int g3
  dsimp only at b3 d3
  obtain ⟨x4, rfl, b4, d4⟩ := aG_int g4
  dsimp only at b4 d4
  obtain ⟨x5, rfl, b5, d5⟩ := aG_int g5
  dsimp only at b5 d5
  obtain ⟨x6, rfl, b6, d6⟩ := aG_int g6
  dsimp only at b6 d6
  obtain ⟨x7, rfl, b7, d7⟩ := aG_int g7
  dsimp only at b7 d7
  obtain ⟨x8, rfl, b8, d8⟩ := aG_int g8
  dsimp only at b8 d8
  obtain ⟨x9, rfl, b9, d9⟩ := aG_int g9
  dsimp only at b9 d9
  obtain ⟨x10, rfl, b10, d10⟩ := rG_ref (by decide) g10
  obtain ⟨x11, rfl, b11, d11⟩ := aG_int g11
  dsimp only at b11 d11
  obtain ⟨m1, m2, m3, m4⟩ := hM0
  obtain ⟨T, hT⟩ := rTe_ex hH b0 d0
  obtain ⟨a0, c0, fs0, w0, e1, s0, t0, e4⟩ := m1 (0, 24, 10) (List.mem_of_getElem? (i := 0) rfl)
  obtain rfl : x0 = a0 := Sum.inl.inj (Option.some.inj (Sum.inr.inj (Sum.inr.inj (Option.some.inj (show some (rR x0) = some _ from e1)))))
  obtain rfl : rR x10 = w0 := Option.some.inj (show some (rR x10) = some w0 from e4)
  clear e1 e4
  obtain ⟨a1, c1, fs1, w1, e1, s1, t1, e4⟩ := m1 (0, 25, 11) (List.mem_of_getElem? (i := 1) rfl)
  obtain rfl : x0 = a1 := Sum.inl.inj (Option.some.inj (Sum.inr.inj (Sum.inr.inj (Option.some.inj (show some (rR x0) = some _ from e1)))))
  obtain rfl : rI x11 = w1 := Option.some.inj (show some (rI x11) = some w1 from e4)
  clear e1 e4
  obtain ⟨a, mc0, ty0, gc0, ic0, e1, sc0, jc0, e4, e5⟩ := m2 (10, ([(2, 1)], 0), 8) (List.mem_of_getElem? (i := 0) rfl)
  obtain rfl : x10 = a := Sum.inl.inj (Option.some.inj (Sum.inr.inj (Sum.inr.inj (Option.some.inj (show some (rR x10) = some _ from e1)))))
  obtain ⟨gc0, rfl⟩ : ∃ g, gc0 = .inl g := by
    rcases gc0 with g | g
    · exact ⟨g, rfl⟩
    · exact absurd (show some (rI x8) = some (.inr (.inl (g ic0))) from e5) (fun h => by cases h)
  have sc0 : σ x10 = .inl (ty0, mc0, .inl gc0) := sc0
  have ec0 : x8 = gc0 ic0 := Sum.inl.inj (Option.some.inj (show some (rI x8) = some _ from e5))
  have kc0 : (ic0 : Int) = (1 * x2.toInt + 0) + 0 := by
    obtain ⟨z, e6, e7⟩ := e4
    obtain rfl : (1 * x2.toInt + 0) = z := Option.some.inj (show some (1 * x2.toInt + 0) = some z from e6)
    exact e7
  clear e1 e4 e5
  have l0 : 0 ≤ (1 * x4.toInt + (-1 * x3.toInt + 0)) + 1 := by
    obtain ⟨z, e6, e7⟩ := m3 ([(4, 1), (3, -1)], 1) (List.mem_of_getElem? (i := 0) rfl)
    obtain rfl : (1 * x4.toInt + (-1 * x3.toInt + 0)) = z := Option.some.inj (show some (1 * x4.toInt + (-1 * x3.toInt + 0)) = some z from e6)
    exact e7
  have l1 : 0 ≤ (-1 * x4.toInt + (1 * x3.toInt + 0)) + -1 := by
    obtain ⟨z, e6, e7⟩ := m3 ([(4, -1), (3, 1)], -1) (List.mem_of_getElem? (i := 1) rfl)
    obtain rfl : (-1 * x4.toInt + (1 * x3.toInt + 0)) = z := Option.some.inj (show some (-1 * x4.toInt + (1 * x3.toInt + 0)) = some z from e6)
    exact e7
  have l2 : 0 ≤ (1 * x6.toInt + (-1 * x5.toInt + 0)) + -1 := by
    obtain ⟨z, e6, e7⟩ := m3 ([(6, 1), (5, -1)], -1) (List.mem_of_getElem? (i := 2) rfl)
    obtain rfl : (1 * x6.toInt + (-1 * x5.toInt + 0)) = z := Option.some.inj (show some (1 * x6.toInt + (-1 * x5.toInt + 0)) = some z from e6)
    exact e7
  have l3 : 0 ≤ (-1 * x6.toInt + (1 * x5.toInt + 0)) + 1 := by
    obtain ⟨z, e6, e7⟩ := m3 ([(6, -1), (5, 1)], 1) (List.mem_of_getElem? (i := 3) rfl)
    obtain rfl : (-1 * x6.toInt + (1 * x5.toInt + 0)) = z := Option.some.inj (show some (-1 * x6.toInt + (1 * x5.toInt + 0)) = some z from e6)
    exact e7
  have y0 : T x2.toInt = x8.toInt := rMg_c hT s0 t0 sc0 (by omega) (by omega) (by omega) ec0
  have f0 : rB K n p 400 [rR x0] σ := by
    obtain ⟨w, e6, e7⟩ := m4 (6401, [0]) (List.mem_of_getElem? (i := 0) rfl)
    obtain rfl : [rR x0] = w := Option.some.inj (show some [rR x0] = some w from e6)
    exact (rF_b (r := 6401) (by decide) rfl).mp e7
  obtain ⟨hp, hR⟩ := ro_400.mp f0
  obtain rfl := rMg_u hT hR.1
  have uS : p.1.2.1 = x11.toInt := rTX_f hR.2.1 s1 t1
  have f1 : rB K n p 218 [rI x1, rI x3] σ := by
    obtain ⟨w, e6, e7⟩ := m4 (3490, [1, 3]) (List.mem_of_getElem? (i := 1) rfl)
    obtain rfl : [rI x1, rI x3] = w := Option.some.inj (show some [rI x1, rI x3] = some w from e6)
    exact (rF_b (r := 3490) (by decide) rfl).mp e7
  have f1 := ro_218.mp f1
  have f2 : rB K n p 218 [rI x2, rI x4] σ := by
    obtain ⟨w, e6, e7⟩ := m4 (3490, [2, 4]) (List.mem_of_getElem? (i := 2) rfl)
    obtain rfl : [rI x2, rI x4] = w := Option.some.inj (show some [rI x2, rI x4] = some w from e6)
    exact (rF_b (r := 3490) (by decide) rfl).mp e7
  have f2 := ro_218.mp f2
  have f3 : rB K n p 157 [rI x1, rI x5] σ := by
    obtain ⟨w, e6, e7⟩ := m4 (2514, [1, 5]) (List.mem_of_getElem? (i := 3) rfl)
    obtain rfl : [rI x1, rI x5] = w := Option.some.inj (show some [rI x1, rI x5] = some w from e6)
    exact (rF_b (r := 2514) (by decide) rfl).mp e7
  have f3 := ro_157.mp f3
  have f4 : rB K n p 157 [rI x2, rI x6] σ := by
    obtain ⟨w, e6, e7⟩ := m4 (2514, [2, 6]) (List.mem_of_getElem? (i := 4) rfl)
    obtain rfl : [rI x2, rI x6] = w := Option.some.inj (show some [rI x2, rI x6] = some w from e6)
    exact (rF_b (r := 2514) (by decide) rfl).mp e7
  have f4 := ro_157.mp f4
  have f5 : rB K n p 216 [rI x8, rI x9] σ := by
    obtain ⟨w, e6, e7⟩ := m4 (3458, [8, 9]) (List.mem_of_getElem? (i := 5) rfl)
    obtain rfl : [rI x8, rI x9] = w := Option.some.inj (show some [rI x8, rI x9] = some w from e6)
    exact (rF_b (r := 3458) (by decide) rfl).mp e7
  have f5 := ro_216.mp f5
  clear m1 m2 m3 m4
  have q0 : rB K n p 427 [rI x1, rI x2, rI x7] σ := ro_427.mpr (by
    intro _
    refine Or.inr ⟨-1, by omega, b2, rSp_of b1 d1 b2 d2 (by omega) (by unfold rUpw; omega), Or.inl ⟨by omega, by omega⟩⟩)
  exact ⟨p, fun _ => rfl, ⟨(fun q h => by cases h), fun q h => (by cases h), (fun f h => by cases h), (aAllc ⟨_, rfl, (rF_b (r := 6835) (by decide) rfl).mpr q0⟩ (fun f h => by cases h))⟩, [], List.mem_cons_self, fun f h => (by cases h)⟩
theorem rw_rwPG4l0 {K : Nat → Nat} {n : Nat} {JX : (Nat → jcell) → Prop} : aGho (rF K n) fa_T K n JX ag_rwPG4l0 := by
  refine aGho_of ⟨rfl, rfl⟩ ?_
  intro p σ ρ hH hX hA hM0
  have hG := aAG_of hA.1 (fun i e v he hv => (hA.2 i e v he hv).1)
  clear hA
  obtain ⟨v0, v1, v2, v3, v4, v5, v6, v7, v8, v9, rfl, g0, g1, g2, g3, g4, g5, g6, g7, g8, g9⟩ := rA_10 hG
  clear hG
  obtain ⟨x0, rfl, b0, d0⟩ := rG_ref (by decide) g0
  obtain ⟨x1, rfl, b1, d1⟩ := aG_int g1
  dsimp only at b1 d1
  obtain ⟨x2, rfl, b2, d2⟩ := aG_int g2
  dsimp only at b2 d2
  obtain ⟨x3, rfl, b3, d3⟩ := aG_int g3
  dsimp only at b3 d3
  obtain ⟨x4, rfl, b4, d4⟩ := aG_int g4
  dsimp only at b4 d4
  obtain ⟨x5, rfl, b5, d5⟩ := aG_int g5
  dsimp only at b5 d5
  obtain ⟨x6, rfl, b6, d6⟩ := aG_int g6
  dsimp only at b6 d6
  obtain ⟨x7, rfl, b7, d7⟩ := aG_int g7
  dsimp only at b7 d7
  obtain ⟨x8, rfl, b8, d8⟩ := aG_int g8
  dsimp only at b8 d8
  obtain ⟨x9, rfl, b9, d9⟩ := aG_int g9
  dsimp only at b9 d9
  obtain ⟨m1, m2, m3, m4⟩ := hM0
  obtain ⟨T, hT⟩ := rTe_ex hH b0 d0
  obtain ⟨a0, c0, fs0, w0, e1, s0, t0, e4⟩ := m1 (0, 25, 9) (List.mem_of_getElem? (i := 0) rfl)
  obtain rfl : x0 = a0 := Sum.inl.inj (Option.some.inj (Sum.inr.inj (Sum.inr.inj (Option.some.inj (show some (rR x0) = some _ from e1)))))
  obtain rfl : rI x9 = w0 := Option.some.inj (show some (rI x9) = some w0 from e4)
  clear e1 e4
  obtain ⟨a1, c1, fs1, w1, e1, s1, t1, e4⟩ := m1 (0, 27, 8) (List.mem_of_getElem? (i := 1) rfl)
  obtain rfl : x0 = a1 := Sum.inl.inj (Option.some.inj (Sum.inr.inj (Sum.inr.inj (Option.some.inj (show some (rR x0) = some _ from e1)))))
  obtain rfl : rI x8 = w1 := Option.some.inj (show some (rI x8) = some w1 from e4)
  clear e1 e4
  have l0 : 0 ≤ (1 * x4.toInt + (-1 * x3.toInt + 0)) + 1 := by
    obtain ⟨z, e6, e7⟩ := m3 ([(4, 1), (3, -1)], 1) (List.mem_of_getElem? (i := 0) rfl)
    obtain rfl : (1 * x4.toInt + (-1 * x3.toInt + 0)) = z := Option.some.inj (show some (1 * x4.toInt + (-1 * x3.toInt + 0)) = some z from e6)
    exact e7
  have l1 : 0 ≤ (-1 * x4.toInt + (1 * x3.toInt + 0)) + -1 := by
    obtain ⟨z, e6, e7⟩ := m3 ([(4, -1), (3, 1)], -1) (List.mem_of_getElem? (i := 1) rfl)
    obtain rfl : (-1 * x4.toInt + (1 * x3.toInt + 0)) = z := Option.some.inj (show some (-1 * x4.toInt + (1 * x3.toInt + 0)) = some z from e6)
    exact e7
  have l2 : 0 ≤ (1 * x6.toInt + (-1 * x5.toInt + 0)) + -1 := by
    obtain ⟨z, e6, e7⟩ := m3 ([(6, 1), (5, -1)], -1) (List.mem_of_getElem? (i := 2) rfl)
    obtain rfl : (1 * x6.toInt + (-1 * x5.toInt + 0)) = z := Option.some.inj (show some (1 * x6.toInt + (-1 * x5.toInt + 0)) = some z from e6)
    exact e7
  have l3 : 0 ≤ (-1 * x6.toInt + (1 * x5.toInt + 0)) + 1 := by
    obtain ⟨z, e6, e7⟩ := m3 ([(6, -1), (5, 1)], 1) (List.mem_of_getElem? (i := 3) rfl)
    obtain rfl : (-1 * x6.toInt + (1 * x5.toInt + 0)) = z := Option.some.inj (show some (-1 * x6.toInt + (1 * x5.toInt + 0)) = some z from e6)
    exact e7
  have l4 : 0 ≤ (1 * x2.toInt + (-1 * x8.toInt + 0)) + 0 := by
    obtain ⟨z, e6, e7⟩ := m3 ([(2, 1), (8, -1)], 0) (List.mem_of_getElem? (i := 4) rfl)
    obtain rfl : (1 * x2.toInt + (-1 * x8.toInt + 0)) = z := Option.some.inj (show some (1 * x2.toInt + (-1 * x8.toInt + 0)) = some z from e6)
    exact e7
  have l5 : 0 ≤ (-1 * x2.toInt + (1 * x8.toInt + 0)) + 0 := by
    obtain ⟨z, e6, e7⟩ := m3 ([(2, -1), (8, 1)], 0) (List.mem_of_getElem? (i := 5) rfl)
    obtain rfl : (-1 * x2.toInt + (1 * x8.toInt + 0)) = z := Option.some.inj (show some (-1 * x2.toInt + (1 * x8.toInt + 0)) = some z from e6)
    exact e7
  have f0 : rB K n p 400 [rR x0] σ := by
    obtain ⟨w, e6, e7⟩ := m4 (6401, [0]) (List.mem_of_getElem? (i := 0) rfl)
    obtain rfl : [rR x0] = w := Option.some.inj (show some [rR x0] = some w from e6)
    exact (rF_b (r := 6401) (by decide) rfl).mp e7
  obtain ⟨hp, hR⟩ := ro_400.mp f0
  obtain rfl := rMg_u hT hR.1
  have uS : p.1.2.1 = x9.toInt := rTX_f hR.2.1 s0 t0
  have uP : p.1.2.2.2 = x8.toInt := rTX_f hR.2.2.2 s1 t1
  have f1 : rB K n p 218 [rI x1, rI x3] σ := by
    obtain ⟨w, e6, e7⟩ := m4 (3490, [1, 3]) (List.mem_of_getElem? (i := 1) rfl)
    obtain rfl : [rI x1, rI x3] = w := Option.some.inj (show some [rI x1, rI x3] = some w from e6)
    exact (rF_b (r := 3490) (by decide) rfl).mp e7
  have f1 := ro_218.mp f1
  have f2 : rB K n p 218 [rI x2, rI x4] σ := by
    obtain ⟨w, e6, e7⟩ := m4 (3490, [2, 4]) (List.mem_of_getElem? (i := 2) rfl)
    obtain rfl : [rI x2, rI x4] = w := Option.some.inj (show some [rI x2, rI x4] = some w from e6)
    exact (rF_b (r := 3490) (by decide) rfl).mp e7
  have f2 := ro_218.mp f2
  have f3 : rB K n p 157 [rI x1, rI x5] σ := by
    obtain ⟨w, e6, e7⟩ := m4 (2514, [1, 5]) (List.mem_of_getElem? (i := 3) rfl)
    obtain rfl : [rI x1, rI x5] = w := Option.some.inj (show some [rI x1, rI x5] = some w from e6)
    exact (rF_b (r := 2514) (by decide) rfl).mp e7
  have f3 := ro_157.mp f3
  have f4 : rB K n p 157 [rI x2, rI x6] σ := by
    obtain ⟨w, e6, e7⟩ := m4 (2514, [2, 6]) (List.mem_of_getElem? (i := 4) rfl)
    obtain rfl : [rI x2, rI x6] = w := Option.some.inj (show some [rI x2, rI x6] = some w from e6)
    exact (rF_b (r := 2514) (by decide) rfl).mp e7
  have f4 := ro_157.mp f4
  clear m1 m2 m3 m4
  have q0 : rB K n p 427 [rI x1, rI x2, rI x7] σ := ro_427.mpr (by
    intro _
    refine Or.inr ⟨-1, by omega, b2, rSp_of b1 d1 b2 d2 (by omega) (by unfold rUpw; omega), Or.inr (by omega)⟩)
  exact ⟨p, fun _ => rfl, ⟨(fun q h => by cases h), fun q h => (by cases h), (fun f h => by cases h), (aAllc ⟨_, rfl, (rF_b (r := 6835) (by decide) rfl).mpr q0⟩ (fun f h => by cases h))⟩, [], List.mem_cons_self, fun f h => (by cases h)⟩
theorem rw_rwPG11 {K : Nat → Nat} {n : Nat} {JX : (Nat → jcell) → Prop} : aGho (rF K n) fa_T K n JX ag_rwPG11 := by
  refine aGho_of ⟨rfl, rfl⟩ ?_
  intro p σ ρ hH hX hA hM0
  have hG := aAG_of hA.1 (fun i e v he hv => (hA.2 i e v he hv).1)
  clear hA
  obtain ⟨v0, v1, v2, v3, v4, v5, v6, rfl, g0, g1, g2, g3, g4, g5, g6⟩ := rA_7 hG
  clear hG
  obtain ⟨x0, rfl, b0, d0⟩ := rG_ref (by decide) g0
  obtain ⟨x1, rfl, b1, d1⟩ := aG_int g1
  dsimp only at b1 d1
  obtain ⟨x2, rfl, b2, d2⟩ := aG_int g2
  dsimp only at b2 d2
  obtain ⟨x3, rfl, b3, d3⟩ := aG_int g3
  dsimp only at b3 d3
  obtain ⟨x4, rfl, b4, d4⟩ := aG_int g4
  dsimp only at b4 d4
  obtain ⟨x5, rfl, b5, d5⟩ := rG_ref (by decide) g5
  obtain ⟨x6, rfl, b6, d6⟩ := aG_int g6
  dsimp only at b6 d6
  obtain ⟨m1, m2, m3, m4⟩ := hM0
  obtain ⟨T, hT⟩ := rTe_ex hH b0 d0
  obtain ⟨a0, c0, fs0, w0, e1, s0, t0, e4⟩ := m1 (0, 24, 5) (List.mem_of_getElem? (i := 0) rfl)
  obtain rfl : x0 = a0 := Sum.inl.inj (Option.some.inj (Sum.inr.inj (Sum.inr.inj (Option.some.inj (show some (rR x0) = some _ from e1)))))
  obtain rfl : rR x5 = w0 := Option.some.inj (show some (rR x5) = some w0 from e4)
  clear e1 e4
  obtain ⟨a1, c1, fs1, w1, e1, s1, t1, e4⟩ := m1 (0, 25, 6) (List.mem_of_getElem? (i := 1) rfl)
  obtain rfl : x0 = a1 := Sum.inl.inj (Option.some.inj (Sum.inr.inj (Sum.inr.inj (Option.some.inj (show some (rR x0) = some _ from e1)))))
  obtain rfl : rI x6 = w1 := Option.some.inj (show some (rI x6) = some w1 from e4)
  clear e1 e4
  obtain ⟨a, mc0, ty0, gc0, ic0, e1, sc0, jc0, e4, e5⟩ := m2 (5, ([(2, 1)], 0), 3) (List.mem_of_getElem? (i := 0) rfl)
  obtain rfl : x5 = a := Sum.inl.inj (Option.some.inj (Sum.inr.inj (Sum.inr.inj (Option.some.inj (show some (rR x5) = some _ from e1)))))
  obtain ⟨gc0, rfl⟩ : ∃ g, gc0 = .inl g := by
    rcases gc0 with g | g
    · exact ⟨g, rfl⟩
    · exact absurd (show some (rI x3) = some (.inr (.inl (g ic0))) from e5) (fun h => by cases h)
  have sc0 : σ x5 = .inl (ty0, mc0, .inl gc0) := sc0
  have ec0 : x3 = gc0 ic0 := Sum.inl.inj (Option.some.inj (show some (rI x3) = some _ from e5))
  have kc0 : (ic0 : Int) = (1 * x2.toInt + 0) + 0 := by
    obtain ⟨z, e6, e7⟩ := e4
    obtain rfl : (1 * x2.toInt + 0) = z := Option.some.inj (show some (1 * x2.toInt + 0) = some z from e6)
    exact e7
  clear e1 e4 e5
  have l0 : 0 ≤ (1 * x2.toInt + (-1 * x1.toInt + 0)) + 8 := by
    obtain ⟨z, e6, e7⟩ := m3 ([(2, 1), (1, -1)], 8) (List.mem_of_getElem? (i := 0) rfl)
    obtain rfl : (1 * x2.toInt + (-1 * x1.toInt + 0)) = z := Option.some.inj (show some (1 * x2.toInt + (-1 * x1.toInt + 0)) = some z from e6)
    exact e7
  have l1 : 0 ≤ (-1 * x2.toInt + (1 * x1.toInt + 0)) + -8 := by
    obtain ⟨z, e6, e7⟩ := m3 ([(2, -1), (1, 1)], -8) (List.mem_of_getElem? (i := 1) rfl)
    obtain rfl : (-1 * x2.toInt + (1 * x1.toInt + 0)) = z := Option.some.inj (show some (-1 * x2.toInt + (1 * x1.toInt + 0)) = some z from e6)
    exact e7
  have y0 : T x2.toInt = x3.toInt := rMg_c hT s0 t0 sc0 (by omega) (by omega) (by omega) ec0
  have f0 : rB K n p 400 [rR x0] σ := by
    obtain ⟨w, e6, e7⟩ := m4 (6401, [0]) (List.mem_of_getElem? (i := 0) rfl)
    obtain rfl : [rR x0] = w := Option.some.inj (show some [rR x0] = some w from e6)
    exact (rF_b (r := 6401) (by decide) rfl).mp e7
  obtain ⟨hp, hR⟩ := ro_400.mp f0
  obtain rfl := rMg_u hT hR.1
  have uS : p.1.2.1 = x6.toInt := rTX_f hR.2.1 s1 t1
  clear m1 m2 m3 m4
  have q0 : rB K n p 427 [rI x1, rI x2, rI x4] σ := ro_427.mpr (by
    intro _
    have e : rSp x1.toInt 0 (rUpw p.1) = x1.toInt + -8 := by
      unfold rSp rUpw
      rw [if_pos (by omega)]
      omega
    refine Or.inl ?_
    unfold rPF
    rw [e]
    exact ⟨by omega, by rw [show x1.toInt + -8 = x2.toInt by omega]; omega, Or.inl (by omega)⟩)
  exact ⟨p, fun _ => rfl, ⟨(fun q h => by cases h), fun q h => (by cases h), (fun f h => by cases h), (aAllc ⟨_, rfl, (rF_b (r := 6835) (by decide) rfl).mpr q0⟩ (fun f h => by cases h))⟩, [], List.mem_cons_self, fun f h => (by cases h)⟩
theorem rw_rwPG21 {K : Nat → Nat} {n : Nat} {JX : (Nat → jcell) → Prop} : aGho (rF K n) fa_T K n JX ag_rwPG21 := by
  refine aGho_of ⟨rfl, rfl⟩ ?_
  intro p σ ρ hH hX hA hM0
  have hG := aAG_of hA.1 (fun i e v he hv => (hA.2 i e v he hv).1)
  clear hA
  obtain ⟨v0, v1, v2, v3, v4, v5, v6, v7, v8, rfl, g0, g1, g2, g3, g4, g5, g6, g7, g8⟩ := rA_9 hG
  clear hG
  obtain ⟨x0, rfl, b0, d0⟩ := rG_ref (by decide) g0
  obtain ⟨x1, rfl, b1, d1⟩ := aG_int g1
  dsimp only at b1 d1
  obtain ⟨x2, rfl, b2, d2⟩ := aG_int g2
  dsimp only at b2 d2
  obtain ⟨x3, rfl, b3, d3⟩ := aG_int g3
  dsimp only at b3 d3
  obtain ⟨x4, rfl, b4, d4⟩ := aG_int g4
  dsimp only at b4 d4
  obtain ⟨x5, rfl, b5, d5⟩ := aG_int g5
  dsimp only at b5 d5
  obtain ⟨x6, rfl, b6, d6⟩ := aG_int g6
  dsimp only at b6 d6
  obtain ⟨x7, rfl, b7, d7⟩ := rG_ref (by decide) g7
  obtain ⟨x8, rfl, b8, d8⟩ := aG_int g8
  dsimp only at b8 d8
  obtain ⟨m1, m2, m3, m4⟩ := hM0
  obtain ⟨T, hT⟩ := rTe_ex hH b0 d0
  obtain ⟨a0, c0, fs0, w0, e1, s0, t0, e4⟩ := m1 (0, 24, 7) (List.mem_of_getElem? (i := 0) rfl)
  obtain rfl : x0 = a0 := Sum.inl.inj (Option.some.inj (Sum.inr.inj (Sum.inr.inj (Option.some.inj (show some (rR x0) = some _ from e1)))))
  obtain rfl : rR x7 = w0 := Option.some.inj (show some (rR x7) = some w0 from e4)
  clear e1 e4
  obtain ⟨a1, c1, fs1, w1, e1, s1, t1, e4⟩ := m1 (0, 25, 8) (List.mem_of_getElem? (i := 1) rfl)
  obtain rfl : x0 = a1 := Sum.inl.inj (Option.some.inj (Sum.inr.inj (Sum.inr.inj (Option.some.inj (show some (rR x0) = some _ from e1)))))
  obtain rfl : rI x8 = w1 := Option.some.inj (show some (rI x8) = some w1 from e4)
  clear e1 e4
  obtain ⟨a, mc0, ty0, gc0, ic0, e1, sc0, jc0, e4, e5⟩ := m2 (7, ([(1, 1)], -8), 3) (List.mem_of_getElem? (i := 0) rfl)
  obtain rfl : x7 = a := Sum.inl.inj (Option.some.inj (Sum.inr.inj (Sum.inr.inj (Option.some.inj (show some (rR x7) = some _ from e1)))))
  obtain ⟨gc0, rfl⟩ : ∃ g, gc0 = .inl g := by
    rcases gc0 with g | g
    · exact ⟨g, rfl⟩
    · exact absurd (show some (rI x3) = some (.inr (.inl (g ic0))) from e5) (fun h => by cases h)
  have sc0 : σ x7 = .inl (ty0, mc0, .inl gc0) := sc0
  have ec0 : x3 = gc0 ic0 := Sum.inl.inj (Option.some.inj (show some (rI x3) = some _ from e5))
  have kc0 : (ic0 : Int) = (1 * x1.toInt + 0) + -8 := by
    obtain ⟨z, e6, e7⟩ := e4
    obtain rfl : (1 * x1.toInt + 0) = z := Option.some.inj (show some (1 * x1.toInt + 0) = some z from e6)
    exact e7
  clear e1 e4 e5
  obtain ⟨a, mc1, ty1, gc1, ic1, e1, sc1, jc1, e4, e5⟩ := m2 (7, ([(2, 1)], 0), 4) (List.mem_of_getElem? (i := 1) rfl)
  obtain rfl : x7 = a := Sum.inl.inj (Option.some.inj (Sum.inr.inj (Sum.inr.inj (Option.some.inj (show some (rR x7) = some _ from e1)))))
  obtain ⟨gc1, rfl⟩ : ∃ g, gc1 = .inl g := by
    rcases gc1 with g | g
    · exact ⟨g, rfl⟩
    · exact absurd (show some (rI x4) = some (.inr (.inl (g ic1))) from e5) (fun h => by cases h)
  have sc1 : σ x7 = .inl (ty1, mc1, .inl gc1) := sc1
  have ec1 : x4 = gc1 ic1 := Sum.inl.inj (Option.some.inj (show some (rI x4) = some _ from e5))
  have kc1 : (ic1 : Int) = (1 * x2.toInt + 0) + 0 := by
    obtain ⟨z, e6, e7⟩ := e4
    obtain rfl : (1 * x2.toInt + 0) = z := Option.some.inj (show some (1 * x2.toInt + 0) = some z from e6)
    exact e7
  clear e1 e4 e5
  have l0 : 0 ≤ (1 * x2.toInt + (-1 * x1.toInt + 0)) + 16 := by
    obtain ⟨z, e6, e7⟩ := m3 ([(2, 1), (1, -1)], 16) (List.mem_of_getElem? (i := 0) rfl)
    obtain rfl : (1 * x2.toInt + (-1 * x1.toInt + 0)) = z := Option.some.inj (show some (1 * x2.toInt + (-1 * x1.toInt + 0)) = some z from e6)
    exact e7
  have l1 : 0 ≤ (-1 * x2.toInt + (1 * x1.toInt + 0)) + -16 := by
    obtain ⟨z, e6, e7⟩ := m3 ([(2, -1), (1, 1)], -16) (List.mem_of_getElem? (i := 1) rfl)
    obtain rfl : (-1 * x2.toInt + (1 * x1.toInt + 0)) = z := Option.some.inj (show some (-1 * x2.toInt + (1 * x1.toInt + 0)) = some z from e6)
    exact e7
  have y0 : T ((1 * x1.toInt + 0) + -8) = x3.toInt := rMg_c hT s0 t0 sc0 (by omega) (by omega) (by omega) ec0
  have y1 : T x2.toInt = x4.toInt := rMg_c hT s0 t0 sc1 (by omega) (by omega) (by omega) ec1
  have f0 : rB K n p 400 [rR x0] σ := by
    obtain ⟨w, e6, e7⟩ := m4 (6401, [0]) (List.mem_of_getElem? (i := 0) rfl)
    obtain rfl : [rR x0] = w := Option.some.inj (show some [rR x0] = some w from e6)
    exact (rF_b (r := 6401) (by decide) rfl).mp e7
  obtain ⟨hp, hR⟩ := ro_400.mp f0
  obtain rfl := rMg_u hT hR.1
  have uS : p.1.2.1 = x8.toInt := rTX_f hR.2.1 s1 t1
  have f1 : rB K n p 157 [rI x1, rI x5] σ := by
    obtain ⟨w, e6, e7⟩ := m4 (2514, [1, 5]) (List.mem_of_getElem? (i := 1) rfl)
    obtain rfl : [rI x1, rI x5] = w := Option.some.inj (show some [rI x1, rI x5] = some w from e6)
    exact (rF_b (r := 2514) (by decide) rfl).mp e7
  have f1 := ro_157.mp f1
  clear m1 m2 m3 m4
  have q0 : rB K n p 427 [rI x1, rI x2, rI x6] σ := ro_427.mpr (by
    intro _
    have e : rSp x1.toInt 0 (rUpw p.1) = x1.toInt + -8 := by
      unfold rSp rUpw
      rw [if_pos (by omega)]
      omega
    have e2 : rSp (x1.toInt + -8) 0 (rUpw p.1) = x2.toInt := by
      unfold rSp rUpw
      rw [if_pos (by omega)]
      omega
    refine Or.inl ?_
    unfold rPF
    rw [e, e2]
    rw [show 1 * x1.toInt + 0 + -8 = x1.toInt + -8 by omega] at y0
    exact ⟨by omega, by omega, Or.inr ⟨by omega, rfl, by omega⟩⟩)
  exact ⟨p, fun _ => rfl, ⟨(fun q h => by cases h), fun q h => (by cases h), (fun f h => by cases h), (aAllc ⟨_, rfl, (rF_b (r := 6835) (by decide) rfl).mpr q0⟩ (fun f h => by cases h))⟩, [], List.mem_cons_self, fun f h => (by cases h)⟩
theorem rw_rwPG3r1 {K : Nat → Nat} {n : Nat} {JX : (Nat → jcell) → Prop} : aGho (rF K n) fa_T K n JX ag_rwPG3r1 := by
  refine aGho_of ⟨rfl, rfl⟩ ?_
  intro p σ ρ hH hX hA hM0
  have hG := aAG_of hA.1 (fun i e v he hv => (hA.2 i e v he hv).1)
  clear hA
  obtain ⟨v0, v1, v2, v3, v4, v5, v6, v7, v8, v9, v10, v11, rfl, g0, g1, g2, g3, g4, g5, g6, g7, g8, g9, g10, g11⟩ := rA_12 hG
  clear hG
  obtain ⟨x0, rfl, b0, d0⟩ := rG_ref (by decide) g0
  obtain ⟨x1, rfl, b1, d1⟩ := aG_int g1
  dsimp only at b1 d1
  obtain ⟨x2, rfl, b2, d2⟩ := aG_int g2
  dsimp only at b2 d2
  obtain ⟨x3, rfl, b3, d3⟩ := aG_int g3
  dsimp only at b3 d3
  obtain ⟨x4, rfl, b4, d4⟩ := aG_int g4
  dsimp only at b4 d4
  obtain ⟨x5, rfl, b5, d5⟩ := aG_int g5
  dsimp only at b5 d5
  obtain ⟨x6, rfl, b6, d6⟩ := aG_int g6
  dsimp only at b6 d6
  obtain ⟨x7, rfl, b7, d7⟩ := aG_int g7
  dsimp only at b7 d7
  obtain ⟨x8, rfl, b8, d8⟩ := aG_int g8
  dsimp only at b8 d8
  obtain ⟨x9, rfl, b9, d9⟩ := aG_int g9
  dsimp only at b9 d9
  obtain ⟨x10, rfl, b10, d10⟩ := rG_ref (by decide) g10
  obtain ⟨x11, rfl, b11, d11⟩ := aG_int g11
  dsimp only at b11 d11
  obtain ⟨m1, m2, m3, m4⟩ := hM0
  obtain ⟨T, hT⟩ := rTe_ex hH b0 d0
  obtain ⟨a0, c0, fs0, w0, e1, s0, t0, e4⟩ := m1 (0, 24, 10) (List.mem_of_getElem? (i := 0) rfl)
  obtain rfl : x0 = a0 := Sum.inl.inj (Option.some.inj (Sum.inr.inj (Sum.inr.inj (Option.some.inj (show some (rR x0) = some _ from e1)))))
  obtain rfl : rR x10 = w0 := Option.some.inj (show some (rR x10) = some w0 from e4)
  clear e1 e4
  obtain ⟨a1, c1, fs1, w1, e1, s1, t1, e4⟩ := m1 (0, 25, 11) (List.mem_of_getElem? (i := 1) rfl)
  obtain rfl : x0 = a1 := Sum.inl.inj (Option.some.inj (Sum.inr.inj (Sum.inr.inj (Option.some.inj (show some (rR x0) = some _ from e1)))))
  obtain rfl : rI x11 = w1 := Option.some.inj (show some (rI x11) = some w1 from e4)
  clear e1 e4
  obtain ⟨a, mc0, ty0, gc0, ic0, e1, sc0, jc0, e4, e5⟩ := m2 (10, ([(2, 1)], 0), 8) (List.mem_of_getElem? (i := 0) rfl)
  obtain rfl : x10 = a := Sum.inl.inj (Option.some.inj (Sum.inr.inj (Sum.inr.inj (Option.some.inj (show some (rR x10) = some _ from e1)))))
  obtain ⟨gc0, rfl⟩ : ∃ g, gc0 = .inl g := by
    rcases gc0 with g | g
    · exact ⟨g, rfl⟩
    · exact absurd (show some (rI x8) = some (.inr (.inl (g ic0))) from e5) (fun h => by cases h)
  have sc0 : σ x10 = .inl (ty0, mc0, .inl gc0) := sc0
  have ec0 : x8 = gc0 ic0 := Sum.inl.inj (Option.some.inj (show some (rI x8) = some _ from e5))
  have kc0 : (ic0 : Int) = (1 * x2.toInt + 0) + 0 := by
    obtain ⟨z, e6, e7⟩ := e4
    obtain rfl : (1 * x2.toInt + 0) = z := Option.some.inj (show some (1 * x2.toInt + 0) = some z from e6)
    exact e7
  clear e1 e4 e5
  have l0 : 0 ≤ (1 * x4.toInt + (-1 * x3.toInt + 0)) + -1 := by
    obtain ⟨z, e6, e7⟩ := m3 ([(4, 1), (3, -1)], -1) (List.mem_of_getElem? (i := 0) rfl)
    obtain rfl : (1 * x4.toInt + (-1 * x3.toInt + 0)) = z := Option.some.inj (show some (1 * x4.toInt + (-1 * x3.toInt + 0)) = some z from e6)
    exact e7
  have l1 : 0 ≤ (-1 * x4.toInt + (1 * x3.toInt + 0)) + 1 := by
    obtain ⟨z, e6, e7⟩ := m3 ([(4, -1), (3, 1)], 1) (List.mem_of_getElem? (i := 1) rfl)
    obtain rfl : (-1 * x4.toInt + (1 * x3.toInt + 0)) = z := Option.some.inj (show some (-1 * x4.toInt + (1 * x3.toInt + 0)) = some z from e6)
    exact e7
  have l2 : 0 ≤ (1 * x6.toInt + (-1 * x5.toInt + 0)) + 1 := by
    obtain ⟨z, e6, e7⟩ := m3 ([(6, 1), (5, -1)], 1) (List.mem_of_getElem? (i := 2) rfl)
    obtain rfl : (1 * x6.toInt + (-1 * x5.toInt + 0)) = z := Option.some.inj (show some (1 * x6.toInt + (-1 * x5.toInt + 0)) = some z from e6)
    exact e7
  have l3 : 0 ≤ (-1 * x6.toInt + (1 * x5.toInt + 0)) + -1 := by
    obtain ⟨z, e6, e7⟩ := m3 ([(6, -1), (5, 1)], -1) (List.mem_of_getElem? (i := 3) rfl)
    obtain rfl : (-1 * x6.toInt + (1 * x5.toInt + 0)) = z := Option.some.inj (show some (-1 * x6.toInt + (1 * x5.toInt + 0)) = some z from e6)
    exact e7
  have y0 : T x2.toInt = x8.toInt := rMg_c hT s0 t0 sc0 (by omega) (by omega) (by omega) ec0
  have f0 : rB K n p 400 [rR x0] σ := by
    obtain ⟨w, e6, e7⟩ := m4 (6401, [0]) (List.mem_of_getElem? (i := 0) rfl)
    obtain rfl : [rR x0] = w := Option.some.inj (show some [rR x0] = some w from e6)
    exact (rF_b (r := 6401) (by decide) rfl).mp e7
  obtain ⟨hp, hR⟩ := ro_400.mp f0
  obtain rfl := rMg_u hT hR.1
  have uS : p.1.2.1 = x11.toInt := rTX_f hR.2.1 s1 t1
  have f1 : rB K n p 218 [rI x1, rI x3] σ := by
    obtain ⟨w, e6, e7⟩ := m4 (3490, [1, 3]) (List.mem_of_getElem? (i := 1) rfl)
    obtain rfl : [rI x1, rI x3] = w := Option.some.inj (show some [rI x1, rI x3] = some w from e6)
    exact (rF_b (r := 3490) (by decide) rfl).mp e7
  have f1 := ro_218.mp f1
  have f2 : rB K n p 218 [rI x2, rI x4] σ := by
    obtain ⟨w, e6, e7⟩ := m4 (3490, [2, 4]) (List.mem_of_getElem? (i := 2) rfl)
    obtain rfl : [rI x2, rI x4] = w := Option.some.inj (show some [rI x2, rI x4] = some w from e6)
    exact (rF_b (r := 3490) (by decide) rfl).mp e7
  have f2 := ro_218.mp f2
  have f3 : rB K n p 157 [rI x1, rI x5] σ := by
    obtain ⟨w, e6, e7⟩ := m4 (2514, [1, 5]) (List.mem_of_getElem? (i := 3) rfl)
    obtain rfl : [rI x1, rI x5] = w := Option.some.inj (show some [rI x1, rI x5] = some w from e6)
    exact (rF_b (r := 2514) (by decide) rfl).mp e7
  have f3 := ro_157.mp f3
  have f4 : rB K n p 157 [rI x2, rI x6] σ := by
    obtain ⟨w, e6, e7⟩ := m4 (2514, [2, 6]) (List.mem_of_getElem? (i := 4) rfl)
    obtain rfl : [rI x2, rI x6] = w := Option.some.inj (show some [rI x2, rI x6] = some w from e6)
    exact (rF_b (r := 2514) (by decide) rfl).mp e7
  have f4 := ro_157.mp f4
  have f5 : rB K n p 216 [rI x8, rI x9] σ := by
    obtain ⟨w, e6, e7⟩ := m4 (3458, [8, 9]) (List.mem_of_getElem? (i := 5) rfl)
    obtain rfl : [rI x8, rI x9] = w := Option.some.inj (show some [rI x8, rI x9] = some w from e6)
    exact (rF_b (r := 3458) (by decide) rfl).mp e7
  have f5 := ro_216.mp f5
  clear m1 m2 m3 m4
  have q0 : rB K n p 427 [rI x1, rI x2, rI x7] σ := ro_427.mpr (by
    intro _
    refine Or.inr ⟨1, by omega, b2, rSp_of b1 d1 b2 d2 (by omega) (by unfold rUpw; omega), Or.inl ⟨by omega, by omega⟩⟩)
  exact ⟨p, fun _ => rfl, ⟨(fun q h => by cases h), fun q h => (by cases h), (fun f h => by cases h), (aAllc ⟨_, rfl, (rF_b (r := 6835) (by decide) rfl).mpr q0⟩ (fun f h => by cases h))⟩, [], List.mem_cons_self, fun f h => (by cases h)⟩
theorem rw_rwPG4r1 {K : Nat → Nat} {n : Nat} {JX : (Nat → jcell) → Prop} : aGho (rF K n) fa_T K n JX ag_rwPG4r1 := by
  refine aGho_of ⟨rfl, rfl⟩ ?_
  intro p σ ρ hH hX hA hM0
  have hG := aAG_of hA.1 (fun i e v he hv => (hA.2 i e v he hv).1)
  clear hA
  obtain ⟨v0, v1, v2, v3, v4, v5, v6, v7, v8, v9, rfl, g0, g1, g2, g3, g4, g5, g6, g7, g8, g9⟩ := rA_10 hG
  clear hG
  obtain ⟨x0, rfl, b0, d0⟩ := rG_ref (by decide) g0
  obtain ⟨x1, rfl, b1, d1⟩ := aG_int g1
  dsimp only at b1 d1
  obtain ⟨x2, rfl, b2, d2⟩ := aG_int g2
  dsimp only at b2 d2
  obtain ⟨x3, rfl, b3, d3⟩ := aG_int g3
  dsimp only at b3 d3
  obtain ⟨x4, rfl, b4, d4⟩ := aG_int g4
  dsimp only at b4 d4
  obtain ⟨x5, rfl, b5, d5⟩ := aG_int g5
  dsimp only at b5 d5
  obtain ⟨x6, rfl, b6, d6⟩ := aG_int g6
  dsimp only at b6 d6
  obtain ⟨x7, rfl, b7, d7⟩ := aG_int g7
  dsimp only at b7 d7
  obtain ⟨x8, rfl, b8, d8⟩ := aG_int g8
  dsimp only at b8 d8
  obtain ⟨x9, rfl, b9, d9⟩ := aG_int g9
  dsimp only at b9 d9
  obtain ⟨m1, m2, m3, m4⟩ := hM0
  obtain ⟨T, hT⟩ := rTe_ex hH b0 d0
  obtain ⟨a0, c0, fs0, w0, e1, s0, t0, e4⟩ := m1 (0, 25, 9) (List.mem_of_getElem? (i := 0) rfl)
  obtain rfl : x0 = a0 := Sum.inl.inj (Option.some.inj (Sum.inr.inj (Sum.inr.inj (Option.some.inj (show some (rR x0) = some _ from e1)))))
  obtain rfl : rI x9 = w0 := Option.some.inj (show some (rI x9) = some w0 from e4)
  clear e1 e4
  obtain ⟨a1, c1, fs1, w1, e1, s1, t1, e4⟩ := m1 (0, 27, 8) (List.mem_of_getElem? (i := 1) rfl)
  obtain rfl : x0 = a1 := Sum.inl.inj (Option.some.inj (Sum.inr.inj (Sum.inr.inj (Option.some.inj (show some (rR x0) = some _ from e1)))))
  obtain rfl : rI x8 = w1 := Option.some.inj (show some (rI x8) = some w1 from e4)
  clear e1 e4
  have l0 : 0 ≤ (1 * x4.toInt + (-1 * x3.toInt + 0)) + -1 := by
    obtain ⟨z, e6, e7⟩ := m3 ([(4, 1), (3, -1)], -1) (List.mem_of_getElem? (i := 0) rfl)
    obtain rfl : (1 * x4.toInt + (-1 * x3.toInt + 0)) = z := Option.some.inj (show some (1 * x4.toInt + (-1 * x3.toInt + 0)) = some z from e6)
    exact e7
  have l1 : 0 ≤ (-1 * x4.toInt + (1 * x3.toInt + 0)) + 1 := by
    obtain ⟨z, e6, e7⟩ := m3 ([(4, -1), (3, 1)], 1) (List.mem_of_getElem? (i := 1) rfl)
    obtain rfl : (-1 * x4.toInt + (1 * x3.toInt + 0)) = z := Option.some.inj (show some (-1 * x4.toInt + (1 * x3.toInt + 0)) = some z from e6)
    exact e7
  have l2 : 0 ≤ (1 * x6.toInt + (-1 * x5.toInt + 0)) + 1 := by
    obtain ⟨z, e6, e7⟩ := m3 ([(6, 1), (5, -1)], 1) (List.mem_of_getElem? (i := 2) rfl)
    obtain rfl : (1 * x6.toInt + (-1 * x5.toInt + 0)) = z := Option.some.inj (show some (1 * x6.toInt + (-1 * x5.toInt + 0)) = some z from e6)
    exact e7
  have l3 : 0 ≤ (-1 * x6.toInt + (1 * x5.toInt + 0)) + -1 := by
    obtain ⟨z, e6, e7⟩ := m3 ([(6, -1), (5, 1)], -1) (List.mem_of_getElem? (i := 3) rfl)
    obtain rfl : (-1 * x6.toInt + (1 * x5.toInt + 0)) = z := Option.some.inj (show some (-1 * x6.toInt + (1 * x5.toInt + 0)) = some z from e6)
    exact e7
  have l4 : 0 ≤ (1 * x2.toInt + (-1 * x8.toInt + 0)) + 0 := by
    obtain ⟨z, e6, e7⟩ := m3 ([(2, 1), (8, -1)], 0) (List.mem_of_getElem? (i := 4) rfl)
    obtain rfl : (1 * x2.toInt + (-1 * x8.toInt + 0)) = z := Option.some.inj (show some (1 * x2.toInt + (-1 * x8.toInt + 0)) = some z from e6)
    exact e7
  have l5 : 0 ≤ (-1 * x2.toInt + (1 * x8.toInt + 0)) + 0 := by
    obtain ⟨z, e6, e7⟩ := m3 ([(2, -1), (8, 1)], 0) (List.mem_of_getElem? (i := 5) rfl)
    obtain rfl : (-1 * x2.toInt + (1 * x8.toInt + 0)) = z := Option.some.inj (show some (-1 * x2.toInt + (1 * x8.toInt + 0)) = some z from e6)
    exact e7
  have f0 : rB K n p 400 [rR x0] σ := by
    obtain ⟨w, e6, e7⟩ := m4 (6401, [0]) (List.mem_of_getElem? (i := 0) rfl)
    obtain rfl : [rR x0] = w := Option.some.inj (show some [rR x0] = some w from e6)
    exact (rF_b (r := 6401) (by decide) rfl).mp e7
  obtain ⟨hp, hR⟩ := ro_400.mp f0
  obtain rfl := rMg_u hT hR.1
  have uS : p.1.2.1 = x9.toInt := rTX_f hR.2.1 s0 t0
  have uP : p.1.2.2.2 = x8.toInt := rTX_f hR.2.2.2 s1 t1
  have f1 : rB K n p 218 [rI x1, rI x3] σ := by
    obtain ⟨w, e6, e7⟩ := m4 (3490, [1, 3]) (List.mem_of_getElem? (i := 1) rfl)
    obtain rfl : [rI x1, rI x3] = w := Option.some.inj (show some [rI x1, rI x3] = some w from e6)
    exact (rF_b (r := 3490) (by decide) rfl).mp e7
  have f1 := ro_218.mp f1
  have f2 : rB K n p 218 [rI x2, rI x4] σ := by
    obtain ⟨w, e6, e7⟩ := m4 (3490, [2, 4]) (List.mem_of_getElem? (i := 2) rfl)
    obtain rfl : [rI x2, rI x4] = w := Option.some.inj (show some [rI x2, rI x4] = some w from e6)
    exact (rF_b (r := 3490) (by decide) rfl).mp e7
  have f2 := ro_218.mp f2
  have f3 : rB K n p 157 [rI x1, rI x5] σ := by
    obtain ⟨w, e6, e7⟩ := m4 (2514, [1, 5]) (List.mem_of_getElem? (i := 3) rfl)
    obtain rfl : [rI x1, rI x5] = w := Option.some.inj (show some [rI x1, rI x5] = some w from e6)
    exact (rF_b (r := 2514) (by decide) rfl).mp e7
  have f3 := ro_157.mp f3
  have f4 : rB K n p 157 [rI x2, rI x6] σ := by
    obtain ⟨w, e6, e7⟩ := m4 (2514, [2, 6]) (List.mem_of_getElem? (i := 4) rfl)
    obtain rfl : [rI x2, rI x6] = w := Option.some.inj (show some [rI x2, rI x6] = some w from e6)
    exact (rF_b (r := 2514) (by decide) rfl).mp e7
  have f4 := ro_157.mp f4
  clear m1 m2 m3 m4
  have q0 : rB K n p 427 [rI x1, rI x2, rI x7] σ := ro_427.mpr (by
    intro _
    refine Or.inr ⟨1, by omega, b2, rSp_of b1 d1 b2 d2 (by omega) (by unfold rUpw; omega), Or.inr (by omega)⟩)
  exact ⟨p, fun _ => rfl, ⟨(fun q h => by cases h), fun q h => (by cases h), (fun f h => by cases h), (aAllc ⟨_, rfl, (rF_b (r := 6835) (by decide) rfl).mpr q0⟩ (fun f h => by cases h))⟩, [], List.mem_cons_self, fun f h => (by cases h)⟩
theorem rw_rwPG3l1 {K : Nat → Nat} {n : Nat} {JX : (Nat → jcell) → Prop} : aGho (rF K n) fa_T K n JX ag_rwPG3l1 := by
  refine aGho_of ⟨rfl, rfl⟩ ?_
  intro p σ ρ hH hX hA hM0
  have hG := aAG_of hA.1 (fun i e v he hv => (hA.2 i e v he hv).1)
  clear hA
  obtain ⟨v0, v1, v2, v3, v4, v5, v6, v7, v8, v9, v10, v11, rfl, g0, g1, g2, g3, g4, g5, g6, g7, g8, g9, g10, g11⟩ := rA_12 hG
  clear hG
  obtain ⟨x0, rfl, b0, d0⟩ := rG_ref (by decide) g0
  obtain ⟨x1, rfl, b1, d1⟩ := aG_int g1
  dsimp only at b1 d1
  obtain ⟨x2, rfl, b2, d2⟩ := aG_int g2
  dsimp only at b2 d2
  obtain ⟨x3, rfl, b3, d3⟩ := aG_int g3
  dsimp only at b3 d3
  obtain ⟨x4, rfl, b4, d4⟩ := aG_int g4
  dsimp only at b4 d4
  obtain ⟨x5, rfl, b5, d5⟩ := aG_int g5
  dsimp only at b5 d5
  obtain ⟨x6, rfl, b6, d6⟩ := aG_int g6
  dsimp only at b6 d6
  obtain ⟨x7, rfl, b7, d7⟩ := aG_int g7
  dsimp only at b7 d7
  obtain ⟨x8, rfl, b8, d8⟩ := aG_int g8
  dsimp only at b8 d8
  obtain ⟨x9, rfl, b9, d9⟩ := aG_int g9
  dsimp only at b9 d9
  obtain ⟨x10, rfl, b10, d10⟩ := rG_ref (by decide) g10
  obtain ⟨x11, rfl, b11, d11⟩ := aG_int g11
  dsimp only at b11 d11
  obtain ⟨m1, m2, m3, m4⟩ := hM0
  obtain ⟨T, hT⟩ := rTe_ex hH b0 d0
  obtain ⟨a0, c0, fs0, w0, e1, s0, t0, e4⟩ := m1 (0, 24, 10) (List.mem_of_getElem? (i := 0) rfl)
  obtain rfl : x0 = a0 := Sum.inl.inj (Option.some.inj (Sum.inr.inj (Sum.inr.inj (Option.some.inj (show some (rR x0) = some _ from e1)))))
  obtain rfl : rR x10 = w0 := Option.some.inj (show some (rR x10) = some w0 from e4)
  clear e1 e4
  obtain ⟨a1, c1, fs1, w1, e1, s1, t1, e4⟩ := m1 (0, 25, 11) (List.mem_of_getElem? (i := 1) rfl)
  obtain rfl : x0 = a1 := Sum.inl.inj (Option.some.inj (Sum.inr.inj (Sum.inr.inj (Option.some.inj (show some (rR x0) = some _ from e1)))))
  obtain rfl : rI x11 = w1 := Option.some.inj (show some (rI x11) = some w1 from e4)
  clear e1 e4
  obtain ⟨a, mc0, ty0, gc0, ic0, e1, sc0, jc0, e4, e5⟩ := m2 (10, ([(2, 1)], 0), 8) (List.mem_of_getElem? (i := 0) rfl)
  obtain rfl : x10 = a := Sum.inl.inj (Option.some.inj (Sum.inr.inj (Sum.inr.inj (Option.some.inj (show some (rR x10) = some _ from e1)))))
  obtain ⟨gc0, rfl⟩ : ∃ g, gc0 = .inl g := by
    rcases gc0 with g | g
    · exact ⟨g, rfl⟩
    · exact absurd (show some (rI x8) = some (.inr (.inl (g ic0))) from e5) (fun h => by cases h)
  have sc0 : σ x10 = .inl (ty0, mc0, .inl gc0) := sc0
  have ec0 : x8 = gc0 ic0 := Sum.inl.inj (Option.some.inj (show some (rI x8) = some _ from e5))
  have kc0 : (ic0 : Int) = (1 * x2.toInt + 0) + 0 := by
    obtain ⟨z, e6, e7⟩ := e4
    obtain rfl : (1 * x2.toInt + 0) = z := Option.some.inj (show some (1 * x2.toInt + 0) = some z from e6)
    exact e7
  clear e1 e4 e5
  have l0 : 0 ≤ (1 * x4.toInt + (-1 * x3.toInt + 0)) + 1 := by
    obtain ⟨z, e6, e7⟩ := m3 ([(4, 1), (3, -1)], 1) (List.mem_of_getElem? (i := 0) rfl)
    obtain rfl : (1 * x4.toInt + (-1 * x3.toInt + 0)) = z := Option.some.inj (show some (1 * x4.toInt + (-1 * x3.toInt + 0)) = some z from e6)
    exact e7
  have l1 : 0 ≤ (-1 * x4.toInt + (1 * x3.toInt + 0)) + -1 := by
    obtain ⟨z, e6, e7⟩ := m3 ([(4, -1), (3, 1)], -1) (List.mem_of_getElem? (i := 1) rfl)
    obtain rfl : (-1 * x4.toInt + (1 * x3.toInt + 0)) = z := Option.some.inj (show some (-1 * x4.toInt + (1 * x3.toInt + 0)) = some z from e6)
    exact e7
  have l2 : 0 ≤ (1 * x6.toInt + (-1 * x5.toInt + 0)) + 1 := by
    obtain ⟨z, e6, e7⟩ := m3 ([(6, 1), (5, -1)], 1) (List.mem_of_getElem? (i := 2) rfl)
    obtain rfl : (1 * x6.toInt + (-1 * x5.toInt + 0)) = z := Option.some.inj (show some (1 * x6.toInt + (-1 * x5.toInt + 0)) = some z from e6)
    exact e7
  have l3 : 0 ≤ (-1 * x6.toInt + (1 * x5.toInt + 0)) + -1 := by
    obtain ⟨z, e6, e7⟩ := m3 ([(6, -1), (5, 1)], -1) (List.mem_of_getElem? (i := 3) rfl)
    obtain rfl : (-1 * x6.toInt + (1 * x5.toInt + 0)) = z := Option.some.inj (show some (-1 * x6.toInt + (1 * x5.toInt + 0)) = some z from e6)
    exact e7
  have y0 : T x2.toInt = x8.toInt := rMg_c hT s0 t0 sc0 (by omega) (by omega) (by omega) ec0
  have f0 : rB K n p 400 [rR x0] σ := by
    obtain ⟨w, e6, e7⟩ := m4 (6401, [0]) (List.mem_of_getElem? (i := 0) rfl)
    obtain rfl : [rR x0] = w := Option.some.inj (show some [rR x0] = some w from e6)
    exact (rF_b (r := 6401) (by decide) rfl).mp e7
  obtain ⟨hp, hR⟩ := ro_400.mp f0
  obtain rfl := rMg_u hT hR.1
  have uS : p.1.2.1 = x11.toInt := rTX_f hR.2.1 s1 t1
  have f1 : rB K n p 218 [rI x1, rI x3] σ := by
    obtain ⟨w, e6, e7⟩ := m4 (3490, [1, 3]) (List.mem_of_getElem? (i := 1) rfl)
    obtain rfl : [rI x1, rI x3] = w := Option.some.inj (show some [rI x1, rI x3] = some w from e6)
    exact (rF_b (r := 3490) (by decide) rfl).mp e7
  have f1 := ro_218.mp f1
  have f2 : rB K n p 218 [rI x2, rI x4] σ := by
    obtain ⟨w, e6, e7⟩ := m4 (3490, [2, 4]) (List.mem_of_getElem? (i := 2) rfl)
    obtain rfl : [rI x2, rI x4] = w := Option.some.inj (show some [rI x2, rI x4] = some w from e6)
    exact (rF_b (r := 3490) (by decide) rfl).mp e7
  have f2 := ro_218.mp f2
  have f3 : rB K n p 157 [rI x1, rI x5] σ := by
    obtain ⟨w, e6, e7⟩ := m4 (2514, [1, 5]) (List.mem_of_getElem? (i := 3) rfl)
    obtain rfl : [rI x1, rI x5] = w := Option.some.inj (show some [rI x1, rI x5] = some w from e6)
    exact (rF_b (r := 2514) (by decide) rfl).mp e7
  have f3 := ro_157.mp f3
  have f4 : rB K n p 157 [rI x2, rI x6] σ := by
    obtain ⟨w, e6, e7⟩ := m4 (2514, [2, 6]) (List.mem_of_getElem? (i := 4) rfl)
    obtain rfl : [rI x2, rI x6] = w := Option.some.inj (show some [rI x2, rI x6] = some w from e6)
    exact (rF_b (r := 2514) (by decide) rfl).mp e7
  have f4 := ro_157.mp f4
  have f5 : rB K n p 216 [rI x8, rI x9] σ := by
    obtain ⟨w, e6, e7⟩ := m4 (3458, [8, 9]) (List.mem_of_getElem? (i := 5) rfl)
    obtain rfl : [rI x8, rI x9] = w := Option.some.inj (show some [rI x8, rI x9] = some w from e6)
    exact (rF_b (r := 3458) (by decide) rfl).mp e7
  have f5 := ro_216.mp f5
  clear m1 m2 m3 m4
  have q0 : rB K n p 427 [rI x1, rI x2, rI x7] σ := ro_427.mpr (by
    intro _
    refine Or.inr ⟨-1, by omega, b2, rSp_of b1 d1 b2 d2 (by omega) (by unfold rUpw; omega), Or.inl ⟨by omega, by omega⟩⟩)
  exact ⟨p, fun _ => rfl, ⟨(fun q h => by cases h), fun q h => (by cases h), (fun f h => by cases h), (aAllc ⟨_, rfl, (rF_b (r := 6835) (by decide) rfl).mpr q0⟩ (fun f h => by cases h))⟩, [], List.mem_cons_self, fun f h => (by cases h)⟩
theorem rw_rwPG4l1 {K : Nat → Nat} {n : Nat} {JX : (Nat → jcell) → Prop} : aGho (rF K n) fa_T K n JX ag_rwPG4l1 := by
  refine aGho_of ⟨rfl, rfl⟩ ?_
  intro p σ ρ hH hX hA hM0
  have hG := aAG_of hA.1 (fun i e v he hv => (hA.2 i e v he hv).1)
  clear hA
  obtain ⟨v0, v1, v2, v3, v4, v5, v6, v7, v8, v9, rfl, g0, g1, g2, g3, g4, g5, g6, g7, g8, g9⟩ := rA_10 hG
  clear hG
  obtain ⟨x0, rfl, b0, d0⟩ := rG_ref (by decide) g0
  obtain ⟨x1, rfl, b1, d1⟩ := aG_int g1
  dsimp only at b1 d1
  obtain ⟨x2, rfl, b2, d2⟩ := aG_int g2
  dsimp only at b2 d2
  obtain ⟨x3, rfl, b3, d3⟩ := aG_int g3
  dsimp only at b3 d3
  obtain ⟨x4, rfl, b4, d4⟩ := aG_int g4
  dsimp only at b4 d4
  obtain ⟨x5, rfl, b5, d5⟩ := aG_int g5
  dsimp only at b5 d5
  obtain ⟨x6, rfl, b6, d6⟩ := aG_int g6
  dsimp only at b6 d6
  obtain ⟨x7, rfl, b7, d7⟩ := aG_int g7
  dsimp only at b7 d7
  obtain ⟨x8, rfl, b8, d8⟩ := aG_int g8
  dsimp only at b8 d8
  obtain ⟨x9, rfl, b9, d9⟩ := aG_int g9
  dsimp only at b9 d9
  obtain ⟨m1, m2, m3, m4⟩ := hM0
  obtain ⟨T, hT⟩ := rTe_ex hH b0 d0
  obtain ⟨a0, c0, fs0, w0, e1, s0, t0, e4⟩ := m1 (0, 25, 9) (List.mem_of_getElem? (i := 0) rfl)
  obtain rfl : x0 = a0 := Sum.inl.inj (Option.some.inj (Sum.inr.inj (Sum.inr.inj (Option.some.inj (show some (rR x0) = some _ from e1)))))
  obtain rfl : rI x9 = w0 := Option.some.inj (show some (rI x9) = some w0 from e4)
  clear e1 e4
  obtain ⟨a1, c1, fs1, w1, e1, s1, t1, e4⟩ := m1 (0, 27, 8) (List.mem_of_getElem? (i := 1) rfl)
  obtain rfl : x0 = a1 := Sum.inl.inj (Option.some.inj (Sum.inr.inj (Sum.inr.inj (Option.some.inj (show some (rR x0) = some _ from e1)))))
  obtain rfl : rI x8 = w1 := Option.some.inj (show some (rI x8) = some w1 from e4)
  clear e1 e4
  have l0 : 0 ≤ (1 * x4.toInt + (-1 * x3.toInt + 0)) + 1 := by
    obtain ⟨z, e6, e7⟩ := m3 ([(4, 1), (3, -1)], 1) (List.mem_of_getElem? (i := 0) rfl)
    obtain rfl : (1 * x4.toInt + (-1 * x3.toInt + 0)) = z := Option.some.inj (show some (1 * x4.toInt + (-1 * x3.toInt + 0)) = some z from e6)
    exact e7
  have l1 : 0 ≤ (-1 * x4.toInt + (1 * x3.toInt + 0)) + -1 := by
    obtain ⟨z, e6, e7⟩ := m3 ([(4, -1), (3, 1)], -1) (List.mem_of_getElem? (i := 1) rfl)
    obtain rfl : (-1 * x4.toInt + (1 * x3.toInt + 0)) = z := Option.some.inj (show some (-1 * x4.toInt + (1 * x3.toInt + 0)) = some z from e6)
    exact e7
  have l2 : 0 ≤ (1 * x6.toInt + (-1 * x5.toInt + 0)) + 1 := by
    obtain ⟨z, e6, e7⟩ := m3 ([(6, 1), (5, -1)], 1) (List.mem_of_getElem? (i := 2) rfl)
    obtain rfl : (1 * x6.toInt + (-1 * x5.toInt + 0)) = z := Option.some.inj (show some (1 * x6.toInt + (-1 * x5.toInt + 0)) = some z from e6)
    exact e7
  have l3 : 0 ≤ (-1 * x6.toInt + (1 * x5.toInt + 0)) + -1 := by
    obtain ⟨z, e6, e7⟩ := m3 ([(6, -1), (5, 1)], -1) (List.mem_of_getElem? (i := 3) rfl)
    obtain rfl : (-1 * x6.toInt + (1 * x5.toInt + 0)) = z := Option.some.inj (show some (-1 * x6.toInt + (1 * x5.toInt + 0)) = some z from e6)
    exact e7
  have l4 : 0 ≤ (1 * x2.toInt + (-1 * x8.toInt + 0)) + 0 := by
    obtain ⟨z, e6, e7⟩ := m3 ([(2, 1), (8, -1)], 0) (List.mem_of_getElem? (i := 4) rfl)
    obtain rfl : (1 * x2.toInt + (-1 * x8.toInt + 0)) = z := Option.some.inj (show some (1 * x2.toInt + (-1 * x8.toInt + 0)) = some z from e6)
    exact e7
  have l5 : 0 ≤ (-1 * x2.toInt + (1 * x8.toInt + 0)) + 0 := by
    obtain ⟨z, e6, e7⟩ := m3 ([(2, -1), (8, 1)], 0) (List.mem_of_getElem? (i := 5) rfl)
    obtain rfl : (-1 * x2.toInt + (1 * x8.toInt + 0)) = z := Option.some.inj (show some (-1 * x2.toInt + (1 * x8.toInt + 0)) = some z from e6)
    exact e7
  have f0 : rB K n p 400 [rR x0] σ := by
    obtain ⟨w, e6, e7⟩ := m4 (6401, [0]) (List.mem_of_getElem? (i := 0) rfl)
    obtain rfl : [rR x0] = w := Option.some.inj (show some [rR x0] = some w from e6)
    exact (rF_b (r := 6401) (by decide) rfl).mp e7
  obtain ⟨hp, hR⟩ := ro_400.mp f0
  obtain rfl := rMg_u hT hR.1
  have uS : p.1.2.1 = x9.toInt := rTX_f hR.2.1 s0 t0
  have uP : p.1.2.2.2 = x8.toInt := rTX_f hR.2.2.2 s1 t1
  have f1 : rB K n p 218 [rI x1, rI x3] σ := by
    obtain ⟨w, e6, e7⟩ := m4 (3490, [1, 3]) (List.mem_of_getElem? (i := 1) rfl)
    obtain rfl : [rI x1, rI x3] = w := Option.some.inj (show some [rI x1, rI x3] = some w from e6)
    exact (rF_b (r := 3490) (by decide) rfl).mp e7
  have f1 := ro_218.mp f1
  have f2 : rB K n p 218 [rI x2, rI x4] σ := by
    obtain ⟨w, e6, e7⟩ := m4 (3490, [2, 4]) (List.mem_of_getElem? (i := 2) rfl)
    obtain rfl : [rI x2, rI x4] = w := Option.some.inj (show some [rI x2, rI x4] = some w from e6)
    exact (rF_b (r := 3490) (by decide) rfl).mp e7
  have f2 := ro_218.mp f2
  have f3 : rB K n p 157 [rI x1, rI x5] σ := by
    obtain ⟨w, e6, e7⟩ := m4 (2514, [1, 5]) (List.mem_of_getElem? (i := 3) rfl)
    obtain rfl : [rI x1, rI x5] = w := Option.some.inj (show some [rI x1, rI x5] = some w from e6)
    exact (rF_b (r := 2514) (by decide) rfl).mp e7
  have f3 := ro_157.mp f3
  have f4 : rB K n p 157 [rI x2, rI x6] σ := by
    obtain ⟨w, e6, e7⟩ := m4 (2514, [2, 6]) (List.mem_of_getElem? (i := 4) rfl)
    obtain rfl : [rI x2, rI x6] = w := Option.some.inj (show some [rI x2, rI x6] = some w from e6)
    exact (rF_b (r := 2514) (by decide) rfl).mp e7
  have f4 := ro_157.mp f4
  clear m1 m2 m3 m4
  have q0 : rB K n p 427 [rI x1, rI x2, rI x7] σ := ro_427.mpr (by
    intro _
    refine Or.inr ⟨-1, by omega, b2, rSp_of b1 d1 b2 d2 (by omega) (by unfold rUpw; omega), Or.inr (by omega)⟩)
  exact ⟨p, fun _ => rfl, ⟨(fun q h => by cases h), fun q h => (by cases h), (fun f h => by cases h), (aAllc ⟨_, rfl, (rF_b (r := 6835) (by decide) rfl).mpr q0⟩ (fun f h => by cases h))⟩, [], List.mem_cons_self, fun f h => (by cases h)⟩
theorem rw_rwNEu {K : Nat → Nat} {n : Nat} {JX : (Nat → jcell) → Prop} : aGho (rF K n) fa_T K n JX ag_rwNEu := by
  refine aGho_of ⟨rfl, rfl⟩ ?_
  intro p σ ρ hH hX hA hM0
  have hG := aAG_of hA.1 (fun i e v he hv => (hA.2 i e v he hv).1)
  clear hA
  obtain ⟨v0, v1, rfl, g0, g1⟩ := rA_2 hG
  clear hG
  obtain ⟨x0, rfl, b0, d0⟩ := aG_int g0
  dsimp only at b0 d0
  obtain ⟨x1, rfl, b1, d1⟩ := aG_int g1
  dsimp only at b1 d1
  obtain ⟨m1, m2, m3, m4⟩ := hM0
  have l0 : 0 ≤ (1 * x0.toInt + (-1 * x1.toInt + 0)) + -1 := by
    obtain ⟨z, e6, e7⟩ := m3 ([(0, 1), (1, -1)], -1) (List.mem_of_getElem? (i := 0) rfl)
    obtain rfl : (1 * x0.toInt + (-1 * x1.toInt + 0)) = z := Option.some.inj (show some (1 * x0.toInt + (-1 * x1.toInt + 0)) = some z from e6)
    exact e7
  clear m1 m2 m3 m4
  have q0 : rB K n p 225 [rI x0, rI x1] σ := ro_225.mpr (by
    omega)
  exact ⟨p, fun _ => rfl, ⟨(fun q h => by cases h), fun q h => (by cases h), (fun f h => by cases h), (aAllc ⟨_, rfl, (rF_b (r := 3602) (by decide) rfl).mpr q0⟩ (fun f h => by cases h))⟩, [], List.mem_cons_self, fun f h => (by cases h)⟩
theorem rw_rwNEd {K : Nat → Nat} {n : Nat} {JX : (Nat → jcell) → Prop} : aGho (rF K n) fa_T K n JX ag_rwNEd := by
  refine aGho_of ⟨rfl, rfl⟩ ?_
  intro p σ ρ hH hX hA hM0
  have hG := aAG_of hA.1 (fun i e v he hv => (hA.2 i e v he hv).1)
  clear hA
  obtain ⟨v0, v1, rfl, g0, g1⟩ := rA_2 hG
  clear hG
  obtain ⟨x0, rfl, b0, d0⟩ := aG_int g0
  dsimp only at b0 d0
  obtain ⟨x1, rfl, b1, d1⟩ := aG_int g1
  dsimp only at b1 d1
  obtain ⟨m1, m2, m3, m4⟩ := hM0
  have l0 : 0 ≤ (-1 * x0.toInt + (1 * x1.toInt + 0)) + -1 := by
    obtain ⟨z, e6, e7⟩ := m3 ([(0, -1), (1, 1)], -1) (List.mem_of_getElem? (i := 0) rfl)
    obtain rfl : (-1 * x0.toInt + (1 * x1.toInt + 0)) = z := Option.some.inj (show some (-1 * x0.toInt + (1 * x1.toInt + 0)) = some z from e6)
    exact e7
  clear m1 m2 m3 m4
  have q0 : rB K n p 225 [rI x0, rI x1] σ := ro_225.mpr (by
    omega)
  exact ⟨p, fun _ => rfl, ⟨(fun q h => by cases h), fun q h => (by cases h), (fun f h => by cases h), (aAllc ⟨_, rfl, (rF_b (r := 3602) (by decide) rfl).mpr q0⟩ (fun f h => by cases h))⟩, [], List.mem_cons_self, fun f h => (by cases h)⟩
theorem rw_rwOW {K : Nat → Nat} {n : Nat} {JX : (Nat → jcell) → Prop} : aGho (rF K n) fa_T K n JX ag_rwOW := by
  refine aGho_of ⟨rfl, rfl⟩ ?_
  intro p σ ρ hH hX hA hM0
  have hG := aAG_of hA.1 (fun i e v he hv => (hA.2 i e v he hv).1)
  clear hA
  obtain ⟨v0, v1, v2, v3, v4, v5, rfl, g0, g1, g2, g3, g4, g5⟩ := rA_6 hG
  clear hG
  obtain ⟨x0, rfl, b0, d0⟩ := rG_ref (by decide) g0
  obtain ⟨x1, rfl, b1, d1⟩ := aG_int g1
  dsimp only at b1 d1
  obtain ⟨x2, rfl, b2, d2⟩ := aG_int g2
  dsimp only at b2 d2
  obtain ⟨x3, rfl, b3, d3⟩ := aG_int g3
  dsimp only at b3 d3
  obtain ⟨x4, rfl, b4, d4⟩ := aG_int g4
  dsimp only at b4 d4
  obtain ⟨x5, rfl, b5, d5⟩ := rG_ref (by decide) g5
  obtain ⟨m1, m2, m3, m4⟩ := hM0
  obtain ⟨T, hT⟩ := rTe_ex hH b0 d0
  obtain ⟨a0, c0, fs0, w0, e1, s0, t0, e4⟩ := m1 (0, 24, 5) (List.mem_of_getElem? (i := 0) rfl)
  obtain rfl : x0 = a0 := Sum.inl.inj (Option.some.inj (Sum.inr.inj (Sum.inr.inj (Option.some.inj (show some (rR x0) = some _ from e1)))))
  obtain rfl : rR x5 = w0 := Option.some.inj (show some (rR x5) = some w0 from e4)
  clear e1 e4
  obtain ⟨a1, c1, fs1, w1, e1, s1, t1, e4⟩ := m1 (0, 25, 4) (List.mem_of_getElem? (i := 1) rfl)
  obtain rfl : x0 = a1 := Sum.inl.inj (Option.some.inj (Sum.inr.inj (Sum.inr.inj (Option.some.inj (show some (rR x0) = some _ from e1)))))
  obtain rfl : rI x4 = w1 := Option.some.inj (show some (rI x4) = some w1 from e4)
  clear e1 e4
  obtain ⟨a, mc0, ty0, gc0, ic0, e1, sc0, jc0, e4, e5⟩ := m2 (5, ([(1, 1)], 0), 2) (List.mem_of_getElem? (i := 0) rfl)
  obtain rfl : x5 = a := Sum.inl.inj (Option.some.inj (Sum.inr.inj (Sum.inr.inj (Option.some.inj (show some (rR x5) = some _ from e1)))))
  obtain ⟨gc0, rfl⟩ : ∃ g, gc0 = .inl g := by
    rcases gc0 with g | g
    · exact ⟨g, rfl⟩
    · exact absurd (show some (rI x2) = some (.inr (.inl (g ic0))) from e5) (fun h => by cases h)
  have sc0 : σ x5 = .inl (ty0, mc0, .inl gc0) := sc0
  have ec0 : x2 = gc0 ic0 := Sum.inl.inj (Option.some.inj (show some (rI x2) = some _ from e5))
  have kc0 : (ic0 : Int) = (1 * x1.toInt + 0) + 0 := by
    obtain ⟨z, e6, e7⟩ := e4
    obtain rfl : (1 * x1.toInt + 0) = z := Option.some.inj (show some (1 * x1.toInt + 0) = some z from e6)
    exact e7
  clear e1 e4 e5
  have l0 : 0 ≤ (1 * x3.toInt + (-1 * x4.toInt + 0)) + 0 := by
    obtain ⟨z, e6, e7⟩ := m3 ([(3, 1), (4, -1)], 0) (List.mem_of_getElem? (i := 0) rfl)
    obtain rfl : (1 * x3.toInt + (-1 * x4.toInt + 0)) = z := Option.some.inj (show some (1 * x3.toInt + (-1 * x4.toInt + 0)) = some z from e6)
    exact e7
  have l1 : 0 ≤ (-1 * x3.toInt + (1 * x4.toInt + 0)) + 0 := by
    obtain ⟨z, e6, e7⟩ := m3 ([(3, -1), (4, 1)], 0) (List.mem_of_getElem? (i := 1) rfl)
    obtain rfl : (-1 * x3.toInt + (1 * x4.toInt + 0)) = z := Option.some.inj (show some (-1 * x3.toInt + (1 * x4.toInt + 0)) = some z from e6)
    exact e7
  have y0 : T x1.toInt = x2.toInt := rMg_c hT s0 t0 sc0 (by omega) (by omega) (by omega) ec0
  have f0 : rB K n p 400 [rR x0] σ := by
    obtain ⟨w, e6, e7⟩ := m4 (6401, [0]) (List.mem_of_getElem? (i := 0) rfl)
    obtain rfl : [rR x0] = w := Option.some.inj (show some [rR x0] = some w from e6)
    exact (rF_b (r := 6401) (by decide) rfl).mp e7
  obtain ⟨hp, hR⟩ := ro_400.mp f0
  obtain rfl := rMg_u hT hR.1
  have uS : p.1.2.1 = x4.toInt := rTX_f hR.2.1 s1 t1
  have f1 : rB K n p 216 [rI x2, rI x3] σ := by
    obtain ⟨w, e6, e7⟩ := m4 (3458, [2, 3]) (List.mem_of_getElem? (i := 1) rfl)
    obtain rfl : [rI x2, rI x3] = w := Option.some.inj (show some [rI x2, rI x3] = some w from e6)
    exact (rF_b (r := 3458) (by decide) rfl).mp e7
  have f1 := ro_216.mp f1
  clear m1 m2 m3 m4
  have q0 : rB K n p 430 [rI x1] σ := ro_430.mpr (by
    unfold rOwn
    refine ⟨⟨by omega, by omega⟩, by omega, by omega⟩)
  exact ⟨p, fun _ => rfl, ⟨(fun q h => by cases h), fun q h => (by cases h), (fun f h => by cases h), (aAllc ⟨_, rfl, (rF_b (r := 6881) (by decide) rfl).mpr q0⟩ (fun f h => by cases h))⟩, [], List.mem_cons_self, fun f h => (by cases h)⟩
theorem rw_rwNOu {K : Nat → Nat} {n : Nat} {JX : (Nat → jcell) → Prop} : aGho (rF K n) fa_T K n JX ag_rwNOu := by
  refine aGho_of ⟨rfl, rfl⟩ ?_
  intro p σ ρ hH hX hA hM0
  have hG := aAG_of hA.1 (fun i e v he hv => (hA.2 i e v he hv).1)
  clear hA
  obtain ⟨v0, v1, v2, v3, v4, v5, rfl, g0, g1, g2, g3, g4, g5⟩ := rA_6 hG
  clear hG
  obtain ⟨x0, rfl, b0, d0⟩ := rG_ref (by decide) g0
  obtain ⟨x1, rfl, b1, d1⟩ := aG_int g1
  dsimp only at b1 d1
  obtain ⟨x2, rfl, b2, d2⟩ := aG_int g2
  dsimp only at b2 d2
  obtain ⟨x3, rfl, b3, d3⟩ := aG_int g3
  dsimp only at b3 d3
  obtain ⟨x4, rfl, b4, d4⟩ := aG_int g4
  dsimp only at b4 d4
  obtain ⟨x5, rfl, b5, d5⟩ := rG_ref (by decide) g5
  obtain ⟨m1, m2, m3, m4⟩ := hM0
  obtain ⟨T, hT⟩ := rTe_ex hH b0 d0
  obtain ⟨a0, c0, fs0, w0, e1, s0, t0, e4⟩ := m1 (0, 24, 5) (List.mem_of_getElem? (i := 0) rfl)
  obtain rfl : x0 = a0 := Sum.inl.inj (Option.some.inj (Sum.inr.inj (Sum.inr.inj (Option.some.inj (show some (rR x0) = some _ from e1)))))
  obtain rfl : rR x5 = w0 := Option.some.inj (show some (rR x5) = some w0 from e4)
  clear e1 e4
  obtain ⟨a1, c1, fs1, w1, e1, s1, t1, e4⟩ := m1 (0, 25, 4) (List.mem_of_getElem? (i := 1) rfl)
  obtain rfl : x0 = a1 := Sum.inl.inj (Option.some.inj (Sum.inr.inj (Sum.inr.inj (Option.some.inj (show some (rR x0) = some _ from e1)))))
  obtain rfl : rI x4 = w1 := Option.some.inj (show some (rI x4) = some w1 from e4)
  clear e1 e4
  obtain ⟨a, mc0, ty0, gc0, ic0, e1, sc0, jc0, e4, e5⟩ := m2 (5, ([(1, 1)], 0), 2) (List.mem_of_getElem? (i := 0) rfl)
  obtain rfl : x5 = a := Sum.inl.inj (Option.some.inj (Sum.inr.inj (Sum.inr.inj (Option.some.inj (show some (rR x5) = some _ from e1)))))
  obtain ⟨gc0, rfl⟩ : ∃ g, gc0 = .inl g := by
    rcases gc0 with g | g
    · exact ⟨g, rfl⟩
    · exact absurd (show some (rI x2) = some (.inr (.inl (g ic0))) from e5) (fun h => by cases h)
  have sc0 : σ x5 = .inl (ty0, mc0, .inl gc0) := sc0
  have ec0 : x2 = gc0 ic0 := Sum.inl.inj (Option.some.inj (show some (rI x2) = some _ from e5))
  have kc0 : (ic0 : Int) = (1 * x1.toInt + 0) + 0 := by
    obtain ⟨z, e6, e7⟩ := e4
    obtain rfl : (1 * x1.toInt + 0) = z := Option.some.inj (show some (1 * x1.toInt + 0) = some z from e6)
    exact e7
  clear e1 e4 e5
  have l0 : 0 ≤ (1 * x3.toInt + (-1 * x4.toInt + 0)) + -1 := by
    obtain ⟨z, e6, e7⟩ := m3 ([(3, 1), (4, -1)], -1) (List.mem_of_getElem? (i := 0) rfl)
    obtain rfl : (1 * x3.toInt + (-1 * x4.toInt + 0)) = z := Option.some.inj (show some (1 * x3.toInt + (-1 * x4.toInt + 0)) = some z from e6)
    exact e7
  have y0 : T x1.toInt = x2.toInt := rMg_c hT s0 t0 sc0 (by omega) (by omega) (by omega) ec0
  have f0 : rB K n p 400 [rR x0] σ := by
    obtain ⟨w, e6, e7⟩ := m4 (6401, [0]) (List.mem_of_getElem? (i := 0) rfl)
    obtain rfl : [rR x0] = w := Option.some.inj (show some [rR x0] = some w from e6)
    exact (rF_b (r := 6401) (by decide) rfl).mp e7
  obtain ⟨hp, hR⟩ := ro_400.mp f0
  obtain rfl := rMg_u hT hR.1
  have uS : p.1.2.1 = x4.toInt := rTX_f hR.2.1 s1 t1
  have f1 : rB K n p 216 [rI x2, rI x3] σ := by
    obtain ⟨w, e6, e7⟩ := m4 (3458, [2, 3]) (List.mem_of_getElem? (i := 1) rfl)
    obtain rfl : [rI x2, rI x3] = w := Option.some.inj (show some [rI x2, rI x3] = some w from e6)
    exact (rF_b (r := 3458) (by decide) rfl).mp e7
  have f1 := ro_216.mp f1
  clear m1 m2 m3 m4
  have q0 : rB K n p 431 [rI x1] σ := ro_431.mpr (by
    unfold rOwn
    omega)
  exact ⟨p, fun _ => rfl, ⟨(fun q h => by cases h), fun q h => (by cases h), (fun f h => by cases h), (aAllc ⟨_, rfl, (rF_b (r := 6897) (by decide) rfl).mpr q0⟩ (fun f h => by cases h))⟩, [], List.mem_cons_self, fun f h => (by cases h)⟩
theorem rw_rwNOd {K : Nat → Nat} {n : Nat} {JX : (Nat → jcell) → Prop} : aGho (rF K n) fa_T K n JX ag_rwNOd := by
  refine aGho_of ⟨rfl, rfl⟩ ?_
  intro p σ ρ hH hX hA hM0
  have hG := aAG_of hA.1 (fun i e v he hv => (hA.2 i e v he hv).1)
  clear hA
  obtain ⟨v0, v1, v2, v3, v4, v5, rfl, g0, g1, g2, g3, g4, g5⟩ := rA_6 hG
  clear hG
  obtain ⟨x0, rfl, b0, d0⟩ := rG_ref (by decide) g0
  obtain ⟨x1, rfl, b1, d1⟩ := aG_int g1
  dsimp only at b1 d1
  obtain ⟨x2, rfl, b2, d2⟩ := aG_int g2
  dsimp only at b2 d2
  obtain ⟨x3, rfl, b3, d3⟩ := aG_int g3
  dsimp only at b3 d3
  obtain ⟨x4, rfl, b4, d4⟩ := aG_int g4
  dsimp only at b4 d4
  obtain ⟨x5, rfl, b5, d5⟩ := rG_ref (by decide) g5
  obtain ⟨m1, m2, m3, m4⟩ := hM0
  obtain ⟨T, hT⟩ := rTe_ex hH b0 d0
  obtain ⟨a0, c0, fs0, w0, e1, s0, t0, e4⟩ := m1 (0, 24, 5) (List.mem_of_getElem? (i := 0) rfl)
  obtain rfl : x0 = a0 := Sum.inl.inj (Option.some.inj (Sum.inr.inj (Sum.inr.inj (Option.some.inj (show some (rR x0) = some _ from e1)))))
  obtain rfl : rR x5 = w0 := Option.some.inj (show some (rR x5) = some w0 from e4)
  clear e1 e4
  obtain ⟨a1, c1, fs1, w1, e1, s1, t1, e4⟩ := m1 (0, 25, 4) (List.mem_of_getElem? (i := 1) rfl)
  obtain rfl : x0 = a1 := Sum.inl.inj (Option.some.inj (Sum.inr.inj (Sum.inr.inj (Option.some.inj (show some (rR x0) = some _ from e1)))))
  obtain rfl : rI x4 = w1 := Option.some.inj (show some (rI x4) = some w1 from e4)
  clear e1 e4
  obtain ⟨a, mc0, ty0, gc0, ic0, e1, sc0, jc0, e4, e5⟩ := m2 (5, ([(1, 1)], 0), 2) (List.mem_of_getElem? (i := 0) rfl)
  obtain rfl : x5 = a := Sum.inl.inj (Option.some.inj (Sum.inr.inj (Sum.inr.inj (Option.some.inj (show some (rR x5) = some _ from e1)))))
  obtain ⟨gc0, rfl⟩ : ∃ g, gc0 = .inl g := by
    rcases gc0 with g | g
    · exact ⟨g, rfl⟩
    · exact absurd (show some (rI x2) = some (.inr (.inl (g ic0))) from e5) (fun h => by cases h)
  have sc0 : σ x5 = .inl (ty0, mc0, .inl gc0) := sc0
  have ec0 : x2 = gc0 ic0 := Sum.inl.inj (Option.some.inj (show some (rI x2) = some _ from e5))
  have kc0 : (ic0 : Int) = (1 * x1.toInt + 0) + 0 := by
    obtain ⟨z, e6, e7⟩ := e4
    obtain rfl : (1 * x1.toInt + 0) = z := Option.some.inj (show some (1 * x1.toInt + 0) = some z from e6)
    exact e7
  clear e1 e4 e5
  have l0 : 0 ≤ (-1 * x3.toInt + (1 * x4.toInt + 0)) + -1 := by
    obtain ⟨z, e6, e7⟩ := m3 ([(3, -1), (4, 1)], -1) (List.mem_of_getElem? (i := 0) rfl)
    obtain rfl : (-1 * x3.toInt + (1 * x4.toInt + 0)) = z := Option.some.inj (show some (-1 * x3.toInt + (1 * x4.toInt + 0)) = some z from e6)
    exact e7
  have y0 : T x1.toInt = x2.toInt := rMg_c hT s0 t0 sc0 (by omega) (by omega) (by omega) ec0
  have f0 : rB K n p 400 [rR x0] σ := by
    obtain ⟨w, e6, e7⟩ := m4 (6401, [0]) (List.mem_of_getElem? (i := 0) rfl)
    obtain rfl : [rR x0] = w := Option.some.inj (show some [rR x0] = some w from e6)
    exact (rF_b (r := 6401) (by decide) rfl).mp e7
  obtain ⟨hp, hR⟩ := ro_400.mp f0
  obtain rfl := rMg_u hT hR.1
  have uS : p.1.2.1 = x4.toInt := rTX_f hR.2.1 s1 t1
  have f1 : rB K n p 216 [rI x2, rI x3] σ := by
    obtain ⟨w, e6, e7⟩ := m4 (3458, [2, 3]) (List.mem_of_getElem? (i := 1) rfl)
    obtain rfl : [rI x2, rI x3] = w := Option.some.inj (show some [rI x2, rI x3] = some w from e6)
    exact (rF_b (r := 3458) (by decide) rfl).mp e7
  have f1 := ro_216.mp f1
  clear m1 m2 m3 m4
  have q0 : rB K n p 431 [rI x1] σ := ro_431.mpr (by
    unfold rOwn
    omega)
  exact ⟨p, fun _ => rfl, ⟨(fun q h => by cases h), fun q h => (by cases h), (fun f h => by cases h), (aAllc ⟨_, rfl, (rF_b (r := 6897) (by decide) rfl).mpr q0⟩ (fun f h => by cases h))⟩, [], List.mem_cons_self, fun f h => (by cases h)⟩
theorem rw_rwKT {K : Nat → Nat} {n : Nat} {JX : (Nat → jcell) → Prop} : aGho (rF K n) fa_T K n JX ag_rwKT := by
  refine aGho_of ⟨rfl, rfl⟩ ?_
  intro p σ ρ hH hX hA hM0
  have hG := aAG_of hA.1 (fun i e v he hv => (hA.2 i e v he hv).1)
  clear hA
  obtain ⟨v0, v1, v2, v3, v4, rfl, g0, g1, g2, g3, g4⟩ := rA_5 hG
  clear hG
  obtain ⟨x0, rfl, b0, d0⟩ := rG_ref (by decide) g0
  obtain ⟨x1, rfl, b1, d1⟩ := aG_int g1
  dsimp only at b1 d1
  obtain ⟨x2, rfl, b2, d2⟩ := aG_int g2
  dsimp only at b2 d2
  obtain ⟨x3, rfl, b3, d3⟩ := aG_int g3
  dsimp only at b3 d3
  obtain ⟨x4, rfl, b4, d4⟩ := rG_ref (by decide) g4
  obtain ⟨m1, m2, m3, m4⟩ := hM0
  obtain ⟨T, hT⟩ := rTe_ex hH b0 d0
  obtain ⟨a0, c0, fs0, w0, e1, s0, t0, e4⟩ := m1 (0, 24, 4) (List.mem_of_getElem? (i := 0) rfl)
  obtain rfl : x0 = a0 := Sum.inl.inj (Option.some.inj (Sum.inr.inj (Sum.inr.inj (Option.some.inj (show some (rR x0) = some _ from e1)))))
  obtain rfl : rR x4 = w0 := Option.some.inj (show some (rR x4) = some w0 from e4)
  clear e1 e4
  obtain ⟨a, mc0, ty0, gc0, ic0, e1, sc0, jc0, e4, e5⟩ := m2 (4, ([(1, 1)], 0), 2) (List.mem_of_getElem? (i := 0) rfl)
  obtain rfl : x4 = a := Sum.inl.inj (Option.some.inj (Sum.inr.inj (Sum.inr.inj (Option.some.inj (show some (rR x4) = some _ from e1)))))
  obtain ⟨gc0, rfl⟩ : ∃ g, gc0 = .inl g := by
    rcases gc0 with g | g
    · exact ⟨g, rfl⟩
    · exact absurd (show some (rI x2) = some (.inr (.inl (g ic0))) from e5) (fun h => by cases h)
  have sc0 : σ x4 = .inl (ty0, mc0, .inl gc0) := sc0
  have ec0 : x2 = gc0 ic0 := Sum.inl.inj (Option.some.inj (show some (rI x2) = some _ from e5))
  have kc0 : (ic0 : Int) = (1 * x1.toInt + 0) + 0 := by
    obtain ⟨z, e6, e7⟩ := e4
    obtain rfl : (1 * x1.toInt + 0) = z := Option.some.inj (show some (1 * x1.toInt + 0) = some z from e6)
    exact e7
  clear e1 e4 e5
  have y0 : T x1.toInt = x2.toInt := rMg_c hT s0 t0 sc0 (by omega) (by omega) (by omega) ec0
  have f0 : rB K n p 400 [rR x0] σ := by
    obtain ⟨w, e6, e7⟩ := m4 (6401, [0]) (List.mem_of_getElem? (i := 0) rfl)
    obtain rfl : [rR x0] = w := Option.some.inj (show some [rR x0] = some w from e6)
    exact (rF_b (r := 6401) (by decide) rfl).mp e7
  obtain ⟨hp, hR⟩ := ro_400.mp f0
  obtain rfl := rMg_u hT hR.1
  have f1 : rB K n p 147 [rI x2, rI x3] σ := by
    obtain ⟨w, e6, e7⟩ := m4 (2354, [2, 3]) (List.mem_of_getElem? (i := 1) rfl)
    obtain rfl : [rI x2, rI x3] = w := Option.some.inj (show some [rI x2, rI x3] = some w from e6)
    exact (rF_b (r := 2354) (by decide) rfl).mp e7
  have f1 := ro_147.mp f1
  have f2 : rB K n p 430 [rI x1] σ := by
    obtain ⟨w, e6, e7⟩ := m4 (6881, [1]) (List.mem_of_getElem? (i := 2) rfl)
    obtain rfl : [rI x1] = w := Option.some.inj (show some [rI x1] = some w from e6)
    exact (rF_b (r := 6881) (by decide) rfl).mp e7
  have f2 := ro_430.mp f2
  have f3 : rB K n p 24 [] σ := by
    obtain ⟨w, e6, e7⟩ := m4 (384, []) (List.mem_of_getElem? (i := 3) rfl)
    obtain rfl : [] = w := Option.some.inj (show some [] = some w from e6)
    exact (rF_b (r := 384) (by decide) rfl).mp e7
  have f3 := ro_24.mp f3
  clear m1 m2 m3 m4
  have q0 : rB K n p 432 [rI x1, rI x3] σ := ro_432.mpr (by
    refine ⟨f3, ?_⟩
    rw [y0]
    exact f1)
  have hd : (0 ≤ (1 * x3.toInt + 0) + -1 ∧ 0 ≤ (-1 * x3.toInt + 0) + 6) := by
    obtain ⟨⟨o1, -⟩, -, -⟩ := f2
    rcases f3.2.2.1 x1.toInt with h | ⟨-, -, h⟩
    · exact absurd h o1
    · omega
  rcases hd with ⟨w0, w1⟩
  · exact ⟨p, fun _ => rfl, ⟨(fun q h => by cases h), fun q h => (by cases h), (fun f h => by cases h), (aAllc ⟨_, rfl, (rF_b (r := 6914) (by decide) rfl).mpr q0⟩ (fun f h => by cases h))⟩, _, List.mem_of_getElem? (i := 0) rfl, (aAllc ⟨_, rfl, w0⟩ (aAllc ⟨_, rfl, w1⟩ (fun f h => by cases h)))⟩
theorem rw_rwG0 {K : Nat → Nat} {n : Nat} {JX : (Nat → jcell) → Prop} : aGho (rF K n) fa_T K n JX ag_rwG0 := by
  refine aGho_of ⟨rfl, rfl⟩ ?_
  intro p σ ρ hH hX hA hM0
  have hG := aAG_of hA.1 (fun i e v he hv => (hA.2 i e v he hv).1)
  clear hA
  obtain ⟨v0, v1, v2, rfl, g0, g1, g2⟩ := rA_3 hG
  clear hG
  obtain ⟨x0, rfl, b0, d0⟩ := aG_int g0
  dsimp only at b0 d0
  obtain ⟨x1, rfl, b1, d1⟩ := aG_int g1
  dsimp only at b1 d1
  obtain ⟨x2, rfl, b2, d2⟩ := aG_int g2
  dsimp only at b2 d2
  obtain ⟨m1, m2, m3, m4⟩ := hM0
  clear m1 m2 m3 m4
  have q0 : rB K n p 429 [rI x0, rI x1, rI x2] σ := ro_429.mpr (by
    intro h
    omega)
  exact ⟨p, fun _ => rfl, ⟨(fun q h => by cases h), fun q h => (by cases h), (fun f h => by cases h), (aAllc ⟨_, rfl, (rF_b (r := 6867) (by decide) rfl).mpr q0⟩ (fun f h => by cases h))⟩, [], List.mem_cons_self, fun f h => (by cases h)⟩
theorem rw_rwGP {K : Nat → Nat} {n : Nat} {JX : (Nat → jcell) → Prop} : aGho (rF K n) fa_T K n JX ag_rwGP := by
  refine aGho_of ⟨rfl, rfl⟩ ?_
  intro p σ ρ hH hX hA hM0
  have hG := aAG_of hA.1 (fun i e v he hv => (hA.2 i e v he hv).1)
  clear hA
  obtain ⟨v0, v1, v2, v3, rfl, g0, g1, g2, g3⟩ := rA_4 hG
  clear hG
  obtain ⟨x0, rfl, b0, d0⟩ := aG_int g0
  dsimp only at b0 d0
  obtain ⟨x1, rfl, b1, d1⟩ := aG_int g1
  dsimp only at b1 d1
  obtain ⟨x2, rfl, b2, d2⟩ := aG_int g2
  dsimp only at b2 d2
  obtain ⟨x3, rfl, b3, d3⟩ := aG_int g3
  dsimp only at b3 d3
  obtain ⟨m1, m2, m3, m4⟩ := hM0
  have f0 : rB K n p 427 [rI x0, rI x1, rI x3] σ := by
    obtain ⟨w, e6, e7⟩ := m4 (6835, [0, 1, 3]) (List.mem_of_getElem? (i := 0) rfl)
    obtain rfl : [rI x0, rI x1, rI x3] = w := Option.some.inj (show some [rI x0, rI x1, rI x3] = some w from e6)
    exact (rF_b (r := 6835) (by decide) rfl).mp e7
  have f0 := ro_427.mp f0
  have f1 : rB K n p 432 [rI x0, rI x2] σ := by
    obtain ⟨w, e6, e7⟩ := m4 (6914, [0, 2]) (List.mem_of_getElem? (i := 1) rfl)
    obtain rfl : [rI x0, rI x2] = w := Option.some.inj (show some [rI x0, rI x2] = some w from e6)
    exact (rF_b (r := 6914) (by decide) rfl).mp e7
  have f1 := ro_432.mp f1
  have f2 : rB K n p 430 [rI x0] σ := by
    obtain ⟨w, e6, e7⟩ := m4 (6881, [0]) (List.mem_of_getElem? (i := 2) rfl)
    obtain rfl : [rI x0] = w := Option.some.inj (show some [rI x0] = some w from e6)
    exact (rF_b (r := 6881) (by decide) rfl).mp e7
  have f2 := ro_430.mp f2
  have f3 : rB K n p 431 [rI x1] σ := by
    obtain ⟨w, e6, e7⟩ := m4 (6897, [1]) (List.mem_of_getElem? (i := 3) rfl)
    obtain rfl : [rI x1] = w := Option.some.inj (show some [rI x1] = some w from e6)
    exact (rF_b (r := 6897) (by decide) rfl).mp e7
  have f3 := ro_431.mp f3
  clear m1 m2 m3 m4
  have q0 : rB K n p 429 [rI x0, rI x1, rI x3] σ := ro_429.mpr (by
    intro h
    exact ⟨f2.1, f3, Or.inl ⟨by have := f1.2; omega, f0 h⟩, f2.2⟩)
  exact ⟨p, fun _ => rfl, ⟨(fun q h => by cases h), fun q h => (by cases h), (fun f h => by cases h), (aAllc ⟨_, rfl, (rF_b (r := 6867) (by decide) rfl).mpr q0⟩ (fun f h => by cases h))⟩, [], List.mem_cons_self, fun f h => (by cases h)⟩
theorem rw_rwFR {K : Nat → Nat} {n : Nat} {JX : (Nat → jcell) → Prop} : aGho (rF K n) fa_T K n JX ag_rwFR := by
  refine aGho_of ⟨rfl, rfl⟩ ?_
  intro p σ ρ hH hX hA hM0
  have hG := aAG_of hA.1 (fun i e v he hv => (hA.2 i e v he hv).1)
  clear hA
  obtain ⟨v0, v1, v2, v3, v4, v5, v6, v7, rfl, g0, g1, g2, g3, g4, g5, g6, g7⟩ := rA_8 hG
  clear hG
  obtain ⟨x0, rfl, b0, d0⟩ := aG_int g0
  dsimp only at b0 d0
  obtain ⟨x1, rfl, b1, d1⟩ := aG_int g1
  dsimp only at b1 d1
  obtain ⟨x2, rfl, b2, d2⟩ := aG_int g2
  dsimp only at b2 d2
  obtain ⟨x3, rfl, b3, d3⟩ := aG_int g3
  dsimp only at b3 d3
  obtain ⟨x4, rfl, b4, d4⟩ := aG_int g4
  dsimp only at b4 d4
  obtain ⟨x5, rfl, b5, d5⟩ := aG_int g5
  dsimp only at b5 d5
  obtain ⟨x6, rfl, b6, d6⟩ := aG_int g6
  dsimp only at b6 d6
  obtain ⟨x7, rfl, b7, d7⟩ := aG_int g7
  dsimp only at b7 d7
  obtain ⟨m1, m2, m3, m4⟩ := hM0
  have l0 : 0 ≤ (1 * x2.toInt + (-1 * x5.toInt + (1 * x4.toInt + 0))) + 0 := by
    obtain ⟨z, e6, e7⟩ := m3 ([(2, 1), (5, -1), (4, 1)], 0) (List.mem_of_getElem? (i := 0) rfl)
    obtain rfl : (1 * x2.toInt + (-1 * x5.toInt + (1 * x4.toInt + 0))) = z := Option.some.inj (show some (1 * x2.toInt + (-1 * x5.toInt + (1 * x4.toInt + 0))) = some z from e6)
    exact e7
  have l1 : 0 ≤ (-1 * x2.toInt + (1 * x5.toInt + (-1 * x4.toInt + 0))) + 0 := by
    obtain ⟨z, e6, e7⟩ := m3 ([(2, -1), (5, 1), (4, -1)], 0) (List.mem_of_getElem? (i := 1) rfl)
    obtain rfl : (-1 * x2.toInt + (1 * x5.toInt + (-1 * x4.toInt + 0))) = z := Option.some.inj (show some (-1 * x2.toInt + (1 * x5.toInt + (-1 * x4.toInt + 0))) = some z from e6)
    exact e7
  have l2 : 0 ≤ (1 * x3.toInt + (-1 * x7.toInt + (1 * x6.toInt + 0))) + 0 := by
    obtain ⟨z, e6, e7⟩ := m3 ([(3, 1), (7, -1), (6, 1)], 0) (List.mem_of_getElem? (i := 2) rfl)
    obtain rfl : (1 * x3.toInt + (-1 * x7.toInt + (1 * x6.toInt + 0))) = z := Option.some.inj (show some (1 * x3.toInt + (-1 * x7.toInt + (1 * x6.toInt + 0))) = some z from e6)
    exact e7
  have l3 : 0 ≤ (-1 * x3.toInt + (1 * x7.toInt + (-1 * x6.toInt + 0))) + 0 := by
    obtain ⟨z, e6, e7⟩ := m3 ([(3, -1), (7, 1), (6, -1)], 0) (List.mem_of_getElem? (i := 3) rfl)
    obtain rfl : (-1 * x3.toInt + (1 * x7.toInt + (-1 * x6.toInt + 0))) = z := Option.some.inj (show some (-1 * x3.toInt + (1 * x7.toInt + (-1 * x6.toInt + 0))) = some z from e6)
    exact e7
  have f0 : rB K n p 218 [rI x0, rI x4] σ := by
    obtain ⟨w, e6, e7⟩ := m4 (3490, [0, 4]) (List.mem_of_getElem? (i := 0) rfl)
    obtain rfl : [rI x0, rI x4] = w := Option.some.inj (show some [rI x0, rI x4] = some w from e6)
    exact (rF_b (r := 3490) (by decide) rfl).mp e7
  have f0 := ro_218.mp f0
  have f1 : rB K n p 218 [rI x1, rI x5] σ := by
    obtain ⟨w, e6, e7⟩ := m4 (3490, [1, 5]) (List.mem_of_getElem? (i := 1) rfl)
    obtain rfl : [rI x1, rI x5] = w := Option.some.inj (show some [rI x1, rI x5] = some w from e6)
    exact (rF_b (r := 3490) (by decide) rfl).mp e7
  have f1 := ro_218.mp f1
  have f2 : rB K n p 157 [rI x0, rI x6] σ := by
    obtain ⟨w, e6, e7⟩ := m4 (2514, [0, 6]) (List.mem_of_getElem? (i := 2) rfl)
    obtain rfl : [rI x0, rI x6] = w := Option.some.inj (show some [rI x0, rI x6] = some w from e6)
    exact (rF_b (r := 2514) (by decide) rfl).mp e7
  have f2 := ro_157.mp f2
  have f3 : rB K n p 157 [rI x1, rI x7] σ := by
    obtain ⟨w, e6, e7⟩ := m4 (2514, [1, 7]) (List.mem_of_getElem? (i := 3) rfl)
    obtain rfl : [rI x1, rI x7] = w := Option.some.inj (show some [rI x1, rI x7] = some w from e6)
    exact (rF_b (r := 2514) (by decide) rfl).mp e7
  have f3 := ro_157.mp f3
  clear m1 m2 m3 m4
  have q0 : rB K n p 226 [rI x0, rI x1, rI x2, rI x3] σ := ro_226.mpr (by
    omega)
  exact ⟨p, fun _ => rfl, ⟨(fun q h => by cases h), fun q h => (by cases h), (fun f h => by cases h), (aAllc ⟨_, rfl, (rF_b (r := 3620) (by decide) rfl).mpr q0⟩ (fun f h => by cases h))⟩, [], List.mem_cons_self, fun f h => (by cases h)⟩
theorem rw_rwS7 {K : Nat → Nat} {n : Nat} {JX : (Nat → jcell) → Prop} : aGho (rF K n) fa_T K n JX ag_rwS7 := by
  refine aGho_of ⟨rfl, rfl⟩ ?_
  intro p σ ρ hH hX hA hM0
  have hG := aAG_of hA.1 (fun i e v he hv => (hA.2 i e v he hv).1)
  clear hA
  obtain ⟨v0, v1, rfl, g0, g1⟩ := rA_2 hG
  clear hG
  obtain ⟨x0, rfl, b0, d0⟩ := aG_int g0
  dsimp only at b0 d0
  obtain ⟨x1, rfl, b1, d1⟩ := aG_int g1
  dsimp only at b1 d1
  obtain ⟨m1, m2, m3, m4⟩ := hM0
  have f0 : rB K n p 110 [rI x0, rI x0, rI x1] σ := by
    obtain ⟨w, e6, e7⟩ := m4 (1763, [0, 0, 1]) (List.mem_of_getElem? (i := 0) rfl)
    obtain rfl : [rI x0, rI x0, rI x1] = w := Option.some.inj (show some [rI x0, rI x0, rI x1] = some w from e6)
    exact (rF_b (r := 1763) (by decide) rfl).mp e7
  have f0 : x1 = x0 * x0 := Sum.inl.inj (ro_110.mp f0)
  clear m1 m2 m3 m4
  have r0 : 0 ≤ (1 * x1.toInt + 0) + 0 := by
    have e := rMul f0 (by omega) (by omega) (by omega) (by omega)
    have := rSqn (x := x0.toInt)
    omega
  have q0 : rB K n p 227 [rI x0, rI x1] σ := ro_227.mpr (by
    exact rMul f0 (by omega) (by omega) (by omega) (by omega))
  exact ⟨p, fun _ => rfl, ⟨(fun q h => by cases h), fun q h => (by cases h), (aAllc ⟨_, rfl, r0⟩ (fun f h => by cases h)), (aAllc ⟨_, rfl, (rF_b (r := 3634) (by decide) rfl).mpr q0⟩ (fun f h => by cases h))⟩, [], List.mem_cons_self, fun f h => (by cases h)⟩
theorem rw_rwA7 {K : Nat → Nat} {n : Nat} {JX : (Nat → jcell) → Prop} : aGho (rF K n) fa_T K n JX ag_rwA7 := by
  refine aGho_of ⟨rfl, rfl⟩ ?_
  intro p σ ρ hH hX hA hM0
  have hG := aAG_of hA.1 (fun i e v he hv => (hA.2 i e v he hv).1)
  clear hA
  obtain ⟨v0, v1, v2, v3, v4, rfl, g0, g1, g2, g3, g4⟩ := rA_5 hG
  clear hG
  obtain ⟨x0, rfl, b0, d0⟩ := aG_int g0
  dsimp only at b0 d0
  obtain ⟨x1, rfl, b1, d1⟩ := aG_int g1
  dsimp only at b1 d1
  obtain ⟨x2, rfl, b2, d2⟩ := aG_int g2
  dsimp only at b2 d2
  obtain ⟨x3, rfl, b3, d3⟩ := aG_int g3
  dsimp only at b3 d3
  obtain ⟨x4, rfl, b4, d4⟩ := aG_int g4
  dsimp only at b4 d4
  obtain ⟨m1, m2, m3, m4⟩ := hM0
  have l0 : 0 ≤ (1 * x4.toInt + (-1 * x2.toInt + (-1 * x3.toInt + 0))) + 0 := by
    obtain ⟨z, e6, e7⟩ := m3 ([(4, 1), (2, -1), (3, -1)], 0) (List.mem_of_getElem? (i := 0) rfl)
    obtain rfl : (1 * x4.toInt + (-1 * x2.toInt + (-1 * x3.toInt + 0))) = z := Option.some.inj (show some (1 * x4.toInt + (-1 * x2.toInt + (-1 * x3.toInt + 0))) = some z from e6)
    exact e7
  have l1 : 0 ≤ (-1 * x4.toInt + (1 * x2.toInt + (1 * x3.toInt + 0))) + 0 := by
    obtain ⟨z, e6, e7⟩ := m3 ([(4, -1), (2, 1), (3, 1)], 0) (List.mem_of_getElem? (i := 1) rfl)
    obtain rfl : (-1 * x4.toInt + (1 * x2.toInt + (1 * x3.toInt + 0))) = z := Option.some.inj (show some (-1 * x4.toInt + (1 * x2.toInt + (1 * x3.toInt + 0))) = some z from e6)
    exact e7
  have f0 : rB K n p 227 [rI x0, rI x2] σ := by
    obtain ⟨w, e6, e7⟩ := m4 (3634, [0, 2]) (List.mem_of_getElem? (i := 0) rfl)
    obtain rfl : [rI x0, rI x2] = w := Option.some.inj (show some [rI x0, rI x2] = some w from e6)
    exact (rF_b (r := 3634) (by decide) rfl).mp e7
  have f0 := ro_227.mp f0
  have f1 : rB K n p 110 [rI x1, rI x1, rI x3] σ := by
    obtain ⟨w, e6, e7⟩ := m4 (1763, [1, 1, 3]) (List.mem_of_getElem? (i := 1) rfl)
    obtain rfl : [rI x1, rI x1, rI x3] = w := Option.some.inj (show some [rI x1, rI x1, rI x3] = some w from e6)
    exact (rF_b (r := 1763) (by decide) rfl).mp e7
  have f1 : x3 = x1 * x1 := Sum.inl.inj (ro_110.mp f1)
  clear m1 m2 m3 m4
  have r0 : 0 ≤ (1 * x4.toInt + 0) + 0 := by
    have e := rMul f1 (by omega) (by omega) (by omega) (by omega)
    have h1 := rSqn (x := x1.toInt)
    have h2 := rSqn (x := x0.toInt)
    omega
  have q0 : rB K n p 228 [rI x0, rI x1, rI x4] σ := ro_228.mpr (by
    have e := rMul f1 (by omega) (by omega) (by omega) (by omega)
    rw [← f0, ← e]
    omega)
  exact ⟨p, fun _ => rfl, ⟨(fun q h => by cases h), fun q h => (by cases h), (aAllc ⟨_, rfl, r0⟩ (fun f h => by cases h)), (aAllc ⟨_, rfl, (rF_b (r := 3651) (by decide) rfl).mpr q0⟩ (fun f h => by cases h))⟩, [], List.mem_cons_self, fun f h => (by cases h)⟩
theorem rw_rwGN {K : Nat → Nat} {n : Nat} {JX : (Nat → jcell) → Prop} : aGho (rF K n) fa_T K n JX ag_rwGN := by
  refine aGho_of ⟨rfl, rfl⟩ ?_
  intro p σ ρ hH hX hA hM0
  have hG := aAG_of hA.1 (fun i e v he hv => (hA.2 i e v he hv).1)
  clear hA
  obtain ⟨v0, v1, v2, v3, v4, v5, v6, rfl, g0, g1, g2, g3, g4, g5, g6⟩ := rA_7 hG
  clear hG
  obtain ⟨x0, rfl, b0, d0⟩ := aG_int g0
  dsimp only at b0 d0
  obtain ⟨x1, rfl, b1, d1⟩ := aG_int g1
  dsimp only at b1 d1
  obtain ⟨x2, rfl, b2, d2⟩ := aG_int g2
  dsimp only at b2 d2
  obtain ⟨x3, rfl, b3, d3⟩ := aG_int g3
  dsimp only at b3 d3
  obtain ⟨x4, rfl, b4, d4⟩ := aG_int g4
  dsimp only at b4 d4
  obtain ⟨x5, rfl, b5, d5⟩ := aG_int g5
  dsimp only at b5 d5
  obtain ⟨x6, rfl, b6, d6⟩ := aG_int g6
  dsimp only at b6 d6
  obtain ⟨m1, m2, m3, m4⟩ := hM0
  have f0 : rB K n p 432 [rI x0, rI x5] σ := by
    obtain ⟨w, e6, e7⟩ := m4 (6914, [0, 5]) (List.mem_of_getElem? (i := 0) rfl)
    obtain rfl : [rI x0, rI x5] = w := Option.some.inj (show some [rI x0, rI x5] = some w from e6)
    exact (rF_b (r := 6914) (by decide) rfl).mp e7
  have f0 := ro_432.mp f0
  have f1 : rB K n p 430 [rI x0] σ := by
    obtain ⟨w, e6, e7⟩ := m4 (6881, [0]) (List.mem_of_getElem? (i := 1) rfl)
    obtain rfl : [rI x0] = w := Option.some.inj (show some [rI x0] = some w from e6)
    exact (rF_b (r := 6881) (by decide) rfl).mp e7
  have f1 := ro_430.mp f1
  have f2 : rB K n p 431 [rI x1] σ := by
    obtain ⟨w, e6, e7⟩ := m4 (6897, [1]) (List.mem_of_getElem? (i := 2) rfl)
    obtain rfl : [rI x1] = w := Option.some.inj (show some [rI x1] = some w from e6)
    exact (rF_b (r := 6897) (by decide) rfl).mp e7
  have f2 := ro_431.mp f2
  have f3 : rB K n p 226 [rI x0, rI x1, rI x2, rI x3] σ := by
    obtain ⟨w, e6, e7⟩ := m4 (3620, [0, 1, 2, 3]) (List.mem_of_getElem? (i := 3) rfl)
    obtain rfl : [rI x0, rI x1, rI x2, rI x3] = w := Option.some.inj (show some [rI x0, rI x1, rI x2, rI x3] = some w from e6)
    exact (rF_b (r := 3620) (by decide) rfl).mp e7
  have f3 := ro_226.mp f3
  have f4 : rB K n p 228 [rI x2, rI x3, rI x4] σ := by
    obtain ⟨w, e6, e7⟩ := m4 (3651, [2, 3, 4]) (List.mem_of_getElem? (i := 4) rfl)
    obtain rfl : [rI x2, rI x3, rI x4] = w := Option.some.inj (show some [rI x2, rI x3, rI x4] = some w from e6)
    exact (rF_b (r := 3651) (by decide) rfl).mp e7
  have f4 := ro_228.mp f4
  clear m1 m2 m3 m4
  have q0 : rB K n p 429 [rI x0, rI x1, rI x6] σ := ro_429.mpr (by
    intro _
    have hq := rSqb (f := x2.toInt) (r := x3.toInt) (by omega)
    refine ⟨f1.1, f2, ?_, f1.2⟩
    refine Or.inr ⟨by have := f0.2; omega, Or.inl ⟨x2.toInt, x3.toInt, hq.1, hq.2.1, hq.2.2.1, hq.2.2.2, Or.inl ⟨Or.inl ⟨by have := f0.2; omega, by omega⟩, b1, rSp_of b0 d0 b1 d1 f3.1 f3.2⟩⟩⟩)
  exact ⟨p, fun _ => rfl, ⟨(fun q h => by cases h), fun q h => (by cases h), (fun f h => by cases h), (aAllc ⟨_, rfl, (rF_b (r := 6867) (by decide) rfl).mpr q0⟩ (fun f h => by cases h))⟩, [], List.mem_cons_self, fun f h => (by cases h)⟩
theorem rw_rwGK {K : Nat → Nat} {n : Nat} {JX : (Nat → jcell) → Prop} : aGho (rF K n) fa_T K n JX ag_rwGK := by
  refine aGho_of ⟨rfl, rfl⟩ ?_
  intro p σ ρ hH hX hA hM0
  have hG := aAG_of hA.1 (fun i e v he hv => (hA.2 i e v he hv).1)
  clear hA
  obtain ⟨v0, v1, v2, v3, v4, v5, v6, rfl, g0, g1, g2, g3, g4, g5, g6⟩ := rA_7 hG
  clear hG
  obtain ⟨x0, rfl, b0, d0⟩ := aG_int g0
  dsimp only at b0 d0
  obtain ⟨x1, rfl, b1, d1⟩ := aG_int g1
  dsimp only at b1 d1
  obtain ⟨x2, rfl, b2, d2⟩ := aG_int g2
  dsimp only at b2 d2
  obtain ⟨x3, rfl, b3, d3⟩ := aG_int g3
  dsimp only at b3 d3
  obtain ⟨x4, rfl, b4, d4⟩ := aG_int g4
  dsimp only at b4 d4
  obtain ⟨x5, rfl, b5, d5⟩ := aG_int g5
  dsimp only at b5 d5
  obtain ⟨x6, rfl, b6, d6⟩ := aG_int g6
  dsimp only at b6 d6
  obtain ⟨m1, m2, m3, m4⟩ := hM0
  have f0 : rB K n p 432 [rI x0, rI x5] σ := by
    obtain ⟨w, e6, e7⟩ := m4 (6914, [0, 5]) (List.mem_of_getElem? (i := 0) rfl)
    obtain rfl : [rI x0, rI x5] = w := Option.some.inj (show some [rI x0, rI x5] = some w from e6)
    exact (rF_b (r := 6914) (by decide) rfl).mp e7
  have f0 := ro_432.mp f0
  have f1 : rB K n p 225 [rI x0, rI x1] σ := by
    obtain ⟨w, e6, e7⟩ := m4 (3602, [0, 1]) (List.mem_of_getElem? (i := 1) rfl)
    obtain rfl : [rI x0, rI x1] = w := Option.some.inj (show some [rI x0, rI x1] = some w from e6)
    exact (rF_b (r := 3602) (by decide) rfl).mp e7
  have f1 := ro_225.mp f1
  have f2 : rB K n p 430 [rI x0] σ := by
    obtain ⟨w, e6, e7⟩ := m4 (6881, [0]) (List.mem_of_getElem? (i := 2) rfl)
    obtain rfl : [rI x0] = w := Option.some.inj (show some [rI x0] = some w from e6)
    exact (rF_b (r := 6881) (by decide) rfl).mp e7
  have f2 := ro_430.mp f2
  have f3 : rB K n p 431 [rI x1] σ := by
    obtain ⟨w, e6, e7⟩ := m4 (6897, [1]) (List.mem_of_getElem? (i := 3) rfl)
    obtain rfl : [rI x1] = w := Option.some.inj (show some [rI x1] = some w from e6)
    exact (rF_b (r := 6897) (by decide) rfl).mp e7
  have f3 := ro_431.mp f3
  have f4 : rB K n p 226 [rI x0, rI x1, rI x2, rI x3] σ := by
    obtain ⟨w, e6, e7⟩ := m4 (3620, [0, 1, 2, 3]) (List.mem_of_getElem? (i := 4) rfl)
    obtain rfl : [rI x0, rI x1, rI x2, rI x3] = w := Option.some.inj (show some [rI x0, rI x1, rI x2, rI x3] = some w from e6)
    exact (rF_b (r := 3620) (by decide) rfl).mp e7
  have f4 := ro_226.mp f4
  have f5 : rB K n p 228 [rI x2, rI x3, rI x4] σ := by
    obtain ⟨w, e6, e7⟩ := m4 (3651, [2, 3, 4]) (List.mem_of_getElem? (i := 5) rfl)
    obtain rfl : [rI x2, rI x3, rI x4] = w := Option.some.inj (show some [rI x2, rI x3, rI x4] = some w from e6)
    exact (rF_b (r := 3651) (by decide) rfl).mp e7
  have f5 := ro_228.mp f5
  clear m1 m2 m3 m4
  have q0 : rB K n p 429 [rI x0, rI x1, rI x6] σ := ro_429.mpr (by
    intro _
    have hq := rSqb (f := x2.toInt) (r := x3.toInt) (by omega)
    have h1 : 1 ≤ x2.toInt * x2.toInt + x3.toInt * x3.toInt := by
      by_cases cz : x2.toInt = 0 ∧ x3.toInt = 0
      · exfalso
        have h4 := f4
        rw [cz.1, cz.2] at h4
        omega
      · have hf : x2.toInt = -2 ∨ x2.toInt = -1 ∨ x2.toInt = 0 ∨ x2.toInt = 1 ∨ x2.toInt = 2 := by omega
        have hr : x3.toInt = -2 ∨ x3.toInt = -1 ∨ x3.toInt = 0 ∨ x3.toInt = 1 ∨ x3.toInt = 2 := by omega
        rcases hf with h | h | h | h | h <;> rcases hr with h2 | h2 | h2 | h2 | h2 <;> rw [h, h2] <;> omega
    refine ⟨f2.1, f3, ?_, f2.2⟩
    refine Or.inr ⟨by have := f0.2; omega, Or.inl ⟨x2.toInt, x3.toInt, hq.1, hq.2.1, hq.2.2.1, hq.2.2.2, Or.inl ⟨Or.inr ⟨by have := f0.2; omega, h1, by omega⟩, b1, rSp_of b0 d0 b1 d1 f4.1 f4.2⟩⟩⟩)
  exact ⟨p, fun _ => rfl, ⟨(fun q h => by cases h), fun q h => (by cases h), (fun f h => by cases h), (aAllc ⟨_, rfl, (rF_b (r := 6867) (by decide) rfl).mpr q0⟩ (fun f h => by cases h))⟩, [], List.mem_cons_self, fun f h => (by cases h)⟩
theorem rw_rwGC10 {K : Nat → Nat} {n : Nat} {JX : (Nat → jcell) → Prop} : aGho (rF K n) fa_T K n JX ag_rwGC10 := by
  refine aGho_of ⟨rfl, rfl⟩ ?_
  intro p σ ρ hH hX hA hM0
  have hG := aAG_of hA.1 (fun i e v he hv => (hA.2 i e v he hv).1)
  clear hA
  obtain ⟨v0, v1, v2, v3, v4, v5, v6, rfl, g0, g1, g2, g3, g4, g5, g6⟩ := rA_7 hG
  clear hG
  obtain ⟨x0, rfl, b0, d0⟩ := rG_ref (by decide) g0
  obtain ⟨x1, rfl, b1, d1⟩ := aG_int g1
  dsimp only at b1 d1
  obtain ⟨x2, rfl, b2, d2⟩ := aG_int g2
  dsimp only at b2 d2
  obtain ⟨x3, rfl, b3, d3⟩ := aG_int g3
  dsimp only at b3 d3
  obtain ⟨x4, rfl, b4, d4⟩ := aG_int g4
  dsimp only at b4 d4
  obtain ⟨x5, rfl, b5, d5⟩ := aG_int g5
  dsimp only at b5 d5
  obtain ⟨x6, rfl, b6, d6⟩ := aG_int g6
  dsimp only at b6 d6
  obtain ⟨m1, m2, m3, m4⟩ := hM0
  obtain ⟨T, hT⟩ := rTe_ex hH b0 d0
  obtain ⟨a0, c0, fs0, w0, e1, s0, t0, e4⟩ := m1 (0, 25, 6) (List.mem_of_getElem? (i := 0) rfl)
  obtain rfl : x0 = a0 := Sum.inl.inj (Option.some.inj (Sum.inr.inj (Sum.inr.inj (Option.some.inj (show some (rR x0) = some _ from e1)))))
  obtain rfl : rI x6 = w0 := Option.some.inj (show some (rI x6) = some w0 from e4)
  clear e1 e4
  have f0 : rB K n p 400 [rR x0] σ := by
    obtain ⟨w, e6, e7⟩ := m4 (6401, [0]) (List.mem_of_getElem? (i := 0) rfl)
    obtain rfl : [rR x0] = w := Option.some.inj (show some [rR x0] = some w from e6)
    exact (rF_b (r := 6401) (by decide) rfl).mp e7
  obtain ⟨hp, hR⟩ := ro_400.mp f0
  obtain rfl := rMg_u hT hR.1
  have uS : p.1.2.1 = x6.toInt := rTX_f hR.2.1 s0 t0
  have f1 : rB K n p 432 [rI x1, rI x3] σ := by
    obtain ⟨w, e6, e7⟩ := m4 (6914, [1, 3]) (List.mem_of_getElem? (i := 1) rfl)
    obtain rfl : [rI x1, rI x3] = w := Option.some.inj (show some [rI x1, rI x3] = some w from e6)
    exact (rF_b (r := 6914) (by decide) rfl).mp e7
  have f1 := ro_432.mp f1
  have f2 : rB K n p 430 [rI x1] σ := by
    obtain ⟨w, e6, e7⟩ := m4 (6881, [1]) (List.mem_of_getElem? (i := 2) rfl)
    obtain rfl : [rI x1] = w := Option.some.inj (show some [rI x1] = some w from e6)
    exact (rF_b (r := 6881) (by decide) rfl).mp e7
  have f2 := ro_430.mp f2
  have f3 : rB K n p 431 [rI x2] σ := by
    obtain ⟨w, e6, e7⟩ := m4 (6897, [2]) (List.mem_of_getElem? (i := 3) rfl)
    obtain rfl : [rI x2] = w := Option.some.inj (show some [rI x2] = some w from e6)
    exact (rF_b (r := 6897) (by decide) rfl).mp e7
  have f3 := ro_431.mp f3
  have f4 : rB K n p 428 [rI x2, rI x4] σ := by
    obtain ⟨w, e6, e7⟩ := m4 (6850, [2, 4]) (List.mem_of_getElem? (i := 4) rfl)
    obtain rfl : [rI x2, rI x4] = w := Option.some.inj (show some [rI x2, rI x4] = some w from e6)
    exact (rF_b (r := 6850) (by decide) rfl).mp e7
  have f4 := ro_428.mp f4
  clear m1 m2 m3 m4
  have q0 : rB K n p 429 [rI x1, rI x2, rI x5] σ := ro_429.mpr (by
    intro _
    have hk := f1.2
    have ho := f2.1
    unfold rOwn at ho
    have e : x1.toInt = 56 * p.1.2.1 + 4 := by omega
    have hm : p.1.1 (56 * p.1.2.1 + 4) = 8 * p.1.2.1 + 6 := by
      rw [← e]
      omega
    refine ⟨f2.1, f3, Or.inr ⟨by omega, Or.inr ⟨by omega, e, ?_⟩⟩, f2.2⟩
    rw [e]
    exact rTmc_c f1.1 hm (f4 (by omega)))
  exact ⟨p, fun _ => rfl, ⟨(fun q h => by cases h), fun q h => (by cases h), (fun f h => by cases h), (aAllc ⟨_, rfl, (rF_b (r := 6867) (by decide) rfl).mpr q0⟩ (fun f h => by cases h))⟩, [], List.mem_cons_self, fun f h => (by cases h)⟩
theorem rw_rwCT10 {K : Nat → Nat} {n : Nat} {JX : (Nat → jcell) → Prop} : aGho (rF K n) fa_T K n JX ag_rwCT10 := by
  refine aGho_of ⟨rfl, rfl⟩ ?_
  intro p σ ρ hH hX hA hM0
  have hG := aAG_of hA.1 (fun i e v he hv => (hA.2 i e v he hv).1)
  clear hA
  obtain ⟨v0, v1, v2, v3, v4, rfl, g0, g1, g2, g3, g4⟩ := rA_5 hG
  clear hG
  obtain ⟨x0, rfl, b0, d0⟩ := aG_int g0
  dsimp only at b0 d0
  obtain ⟨x1, rfl, b1, d1⟩ := aG_int g1
  dsimp only at b1 d1
  obtain ⟨x2, rfl, b2, d2⟩ := aG_int g2
  dsimp only at b2 d2
  obtain ⟨x3, rfl, b3, d3⟩ := aG_int g3
  dsimp only at b3 d3
  obtain ⟨x4, rfl, b4, d4⟩ := aG_int g4
  dsimp only at b4 d4
  obtain ⟨m1, m2, m3, m4⟩ := hM0
  have f0 : rB K n p 226 [rI x0, rI x1, rI x2, rI x3] σ := by
    obtain ⟨w, e6, e7⟩ := m4 (3620, [0, 1, 2, 3]) (List.mem_of_getElem? (i := 0) rfl)
    obtain rfl : [rI x0, rI x1, rI x2, rI x3] = w := Option.some.inj (show some [rI x0, rI x1, rI x2, rI x3] = some w from e6)
    exact (rF_b (r := 3620) (by decide) rfl).mp e7
  have f0 := ro_226.mp f0
  have f1 : rB K n p 228 [rI x2, rI x3, rI x4] σ := by
    obtain ⟨w, e6, e7⟩ := m4 (3651, [2, 3, 4]) (List.mem_of_getElem? (i := 1) rfl)
    obtain rfl : [rI x2, rI x3, rI x4] = w := Option.some.inj (show some [rI x2, rI x3, rI x4] = some w from e6)
    exact (rF_b (r := 3651) (by decide) rfl).mp e7
  have f1 := ro_228.mp f1
  clear m1 m2 m3 m4
  have hd : (0 ≤ (1 * x1.toInt + 0) + -6 ∧ 0 ≤ (-1 * x1.toInt + 0) + 6) ∨ (0 ≤ (1 * x1.toInt + 0) + -2 ∧ 0 ≤ (-1 * x1.toInt + 0) + 2) := by
    have hq := rSqb (f := x2.toInt) (r := x3.toInt) (by omega)
    have h4 := f1
    rw [show x3.toInt = 0 by omega] at h4
    have hf : x2.toInt = -2 ∨ x2.toInt = -1 ∨ x2.toInt = 0 ∨ x2.toInt = 1 ∨ x2.toInt = 2 := by omega
    rcases hf with h | h | h | h | h
    · omega
    · rw [h] at h4; omega
    · rw [h] at h4; omega
    · rw [h] at h4; omega
    · omega
  rcases hd with ⟨w0, w1⟩ | ⟨w0, w1⟩
  · exact ⟨p, fun _ => rfl, ⟨(fun q h => by cases h), fun q h => (by cases h), (fun f h => by cases h), (fun f h => by cases h)⟩, _, List.mem_of_getElem? (i := 0) rfl, (aAllc ⟨_, rfl, w0⟩ (aAllc ⟨_, rfl, w1⟩ (fun f h => by cases h)))⟩
  · exact ⟨p, fun _ => rfl, ⟨(fun q h => by cases h), fun q h => (by cases h), (fun f h => by cases h), (fun f h => by cases h)⟩, _, List.mem_of_getElem? (i := 1) rfl, (aAllc ⟨_, rfl, w0⟩ (aAllc ⟨_, rfl, w1⟩ (fun f h => by cases h)))⟩
theorem rw_rwGC00 {K : Nat → Nat} {n : Nat} {JX : (Nat → jcell) → Prop} : aGho (rF K n) fa_T K n JX ag_rwGC00 := by
  refine aGho_of ⟨rfl, rfl⟩ ?_
  intro p σ ρ hH hX hA hM0
  have hG := aAG_of hA.1 (fun i e v he hv => (hA.2 i e v he hv).1)
  clear hA
  obtain ⟨v0, v1, v2, v3, v4, v5, v6, rfl, g0, g1, g2, g3, g4, g5, g6⟩ := rA_7 hG
  clear hG
  obtain ⟨x0, rfl, b0, d0⟩ := rG_ref (by decide) g0
  obtain ⟨x1, rfl, b1, d1⟩ := aG_int g1
  dsimp only at b1 d1
  obtain ⟨x2, rfl, b2, d2⟩ := aG_int g2
  dsimp only at b2 d2
  obtain ⟨x3, rfl, b3, d3⟩ := aG_int g3
  dsimp only at b3 d3
  obtain ⟨x4, rfl, b4, d4⟩ := aG_int g4
  dsimp only at b4 d4
  obtain ⟨x5, rfl, b5, d5⟩ := aG_int g5
  dsimp only at b5 d5
  obtain ⟨x6, rfl, b6, d6⟩ := aG_int g6
  dsimp only at b6 d6
  obtain ⟨m1, m2, m3, m4⟩ := hM0
  obtain ⟨T, hT⟩ := rTe_ex hH b0 d0
  obtain ⟨a0, c0, fs0, w0, e1, s0, t0, e4⟩ := m1 (0, 25, 6) (List.mem_of_getElem? (i := 0) rfl)
  obtain rfl : x0 = a0 := Sum.inl.inj (Option.some.inj (Sum.inr.inj (Sum.inr.inj (Option.some.inj (show some (rR x0) = some _ from e1)))))
  obtain rfl : rI x6 = w0 := Option.some.inj (show some (rI x6) = some w0 from e4)
  clear e1 e4
  have f0 : rB K n p 400 [rR x0] σ := by
    obtain ⟨w, e6, e7⟩ := m4 (6401, [0]) (List.mem_of_getElem? (i := 0) rfl)
    obtain rfl : [rR x0] = w := Option.some.inj (show some [rR x0] = some w from e6)
    exact (rF_b (r := 6401) (by decide) rfl).mp e7
  obtain ⟨hp, hR⟩ := ro_400.mp f0
  obtain rfl := rMg_u hT hR.1
  have uS : p.1.2.1 = x6.toInt := rTX_f hR.2.1 s0 t0
  have f1 : rB K n p 432 [rI x1, rI x3] σ := by
    obtain ⟨w, e6, e7⟩ := m4 (6914, [1, 3]) (List.mem_of_getElem? (i := 1) rfl)
    obtain rfl : [rI x1, rI x3] = w := Option.some.inj (show some [rI x1, rI x3] = some w from e6)
    exact (rF_b (r := 6914) (by decide) rfl).mp e7
  have f1 := ro_432.mp f1
  have f2 : rB K n p 430 [rI x1] σ := by
    obtain ⟨w, e6, e7⟩ := m4 (6881, [1]) (List.mem_of_getElem? (i := 2) rfl)
    obtain rfl : [rI x1] = w := Option.some.inj (show some [rI x1] = some w from e6)
    exact (rF_b (r := 6881) (by decide) rfl).mp e7
  have f2 := ro_430.mp f2
  have f3 : rB K n p 431 [rI x2] σ := by
    obtain ⟨w, e6, e7⟩ := m4 (6897, [2]) (List.mem_of_getElem? (i := 3) rfl)
    obtain rfl : [rI x2] = w := Option.some.inj (show some [rI x2] = some w from e6)
    exact (rF_b (r := 6897) (by decide) rfl).mp e7
  have f3 := ro_431.mp f3
  have f4 : rB K n p 428 [rI x2, rI x4] σ := by
    obtain ⟨w, e6, e7⟩ := m4 (6850, [2, 4]) (List.mem_of_getElem? (i := 4) rfl)
    obtain rfl : [rI x2, rI x4] = w := Option.some.inj (show some [rI x2, rI x4] = some w from e6)
    exact (rF_b (r := 6850) (by decide) rfl).mp e7
  have f4 := ro_428.mp f4
  clear m1 m2 m3 m4
  have q0 : rB K n p 429 [rI x1, rI x2, rI x5] σ := ro_429.mpr (by
    intro _
    have hk := f1.2
    have ho := f2.1
    unfold rOwn at ho
    have e : x1.toInt = 56 * p.1.2.1 + 4 := by omega
    have hm : p.1.1 (56 * p.1.2.1 + 4) = 8 * p.1.2.1 + 6 := by
      rw [← e]
      omega
    refine ⟨f2.1, f3, Or.inr ⟨by omega, Or.inr ⟨by omega, e, ?_⟩⟩, f2.2⟩
    rw [e]
    exact rTmc_c f1.1 hm (f4 (by omega)))
  exact ⟨p, fun _ => rfl, ⟨(fun q h => by cases h), fun q h => (by cases h), (fun f h => by cases h), (aAllc ⟨_, rfl, (rF_b (r := 6867) (by decide) rfl).mpr q0⟩ (fun f h => by cases h))⟩, [], List.mem_cons_self, fun f h => (by cases h)⟩
theorem rw_rwGC11 {K : Nat → Nat} {n : Nat} {JX : (Nat → jcell) → Prop} : aGho (rF K n) fa_T K n JX ag_rwGC11 := by
  refine aGho_of ⟨rfl, rfl⟩ ?_
  intro p σ ρ hH hX hA hM0
  have hG := aAG_of hA.1 (fun i e v he hv => (hA.2 i e v he hv).1)
  clear hA
  obtain ⟨v0, v1, v2, v3, v4, v5, v6, rfl, g0, g1, g2, g3, g4, g5, g6⟩ := rA_7 hG
  clear hG
  obtain ⟨x0, rfl, b0, d0⟩ := rG_ref (by decide) g0
  obtain ⟨x1, rfl, b1, d1⟩ := aG_int g1
  dsimp only at b1 d1
  obtain ⟨x2, rfl, b2, d2⟩ := aG_int g2
  dsimp only at b2 d2
  obtain ⟨x3, rfl, b3, d3⟩ := aG_int g3
  dsimp only at b3 d3
  obtain ⟨x4, rfl, b4, d4⟩ := aG_int g4
  dsimp only at b4 d4
  obtain ⟨x5, rfl, b5, d5⟩ := aG_int g5
  dsimp only at b5 d5
  obtain ⟨x6, rfl, b6, d6⟩ := aG_int g6
  dsimp only at b6 d6
  obtain ⟨m1, m2, m3, m4⟩ := hM0
  obtain ⟨T, hT⟩ := rTe_ex hH b0 d0
  obtain ⟨a0, c0, fs0, w0, e1, s0, t0, e4⟩ := m1 (0, 25, 6) (List.mem_of_getElem? (i := 0) rfl)
  obtain rfl : x0 = a0 := Sum.inl.inj (Option.some.inj (Sum.inr.inj (Sum.inr.inj (Option.some.inj (show some (rR x0) = some _ from e1)))))
  obtain rfl : rI x6 = w0 := Option.some.inj (show some (rI x6) = some w0 from e4)
  clear e1 e4
  have f0 : rB K n p 400 [rR x0] σ := by
    obtain ⟨w, e6, e7⟩ := m4 (6401, [0]) (List.mem_of_getElem? (i := 0) rfl)
    obtain rfl : [rR x0] = w := Option.some.inj (show some [rR x0] = some w from e6)
    exact (rF_b (r := 6401) (by decide) rfl).mp e7
  obtain ⟨hp, hR⟩ := ro_400.mp f0
  obtain rfl := rMg_u hT hR.1
  have uS : p.1.2.1 = x6.toInt := rTX_f hR.2.1 s0 t0
  have f1 : rB K n p 432 [rI x1, rI x3] σ := by
    obtain ⟨w, e6, e7⟩ := m4 (6914, [1, 3]) (List.mem_of_getElem? (i := 1) rfl)
    obtain rfl : [rI x1, rI x3] = w := Option.some.inj (show some [rI x1, rI x3] = some w from e6)
    exact (rF_b (r := 6914) (by decide) rfl).mp e7
  have f1 := ro_432.mp f1
  have f2 : rB K n p 430 [rI x1] σ := by
    obtain ⟨w, e6, e7⟩ := m4 (6881, [1]) (List.mem_of_getElem? (i := 2) rfl)
    obtain rfl : [rI x1] = w := Option.some.inj (show some [rI x1] = some w from e6)
    exact (rF_b (r := 6881) (by decide) rfl).mp e7
  have f2 := ro_430.mp f2
  have f3 : rB K n p 431 [rI x2] σ := by
    obtain ⟨w, e6, e7⟩ := m4 (6897, [2]) (List.mem_of_getElem? (i := 3) rfl)
    obtain rfl : [rI x2] = w := Option.some.inj (show some [rI x2] = some w from e6)
    exact (rF_b (r := 6897) (by decide) rfl).mp e7
  have f3 := ro_431.mp f3
  have f4 : rB K n p 428 [rI x2, rI x4] σ := by
    obtain ⟨w, e6, e7⟩ := m4 (6850, [2, 4]) (List.mem_of_getElem? (i := 4) rfl)
    obtain rfl : [rI x2, rI x4] = w := Option.some.inj (show some [rI x2, rI x4] = some w from e6)
    exact (rF_b (r := 6850) (by decide) rfl).mp e7
  have f4 := ro_428.mp f4
  clear m1 m2 m3 m4
  have q0 : rB K n p 429 [rI x1, rI x2, rI x5] σ := ro_429.mpr (by
    intro _
    have hk := f1.2
    have ho := f2.1
    unfold rOwn at ho
    have e : x1.toInt = 56 * p.1.2.1 + 4 := by omega
    have hm : p.1.1 (56 * p.1.2.1 + 4) = 8 * p.1.2.1 + 6 := by
      rw [← e]
      omega
    refine ⟨f2.1, f3, Or.inr ⟨by omega, Or.inr ⟨by omega, e, ?_⟩⟩, f2.2⟩
    rw [e]
    exact rTmc_c f1.1 hm (f4 (by omega)))
  exact ⟨p, fun _ => rfl, ⟨(fun q h => by cases h), fun q h => (by cases h), (fun f h => by cases h), (aAllc ⟨_, rfl, (rF_b (r := 6867) (by decide) rfl).mpr q0⟩ (fun f h => by cases h))⟩, [], List.mem_cons_self, fun f h => (by cases h)⟩
theorem rw_rwCT11 {K : Nat → Nat} {n : Nat} {JX : (Nat → jcell) → Prop} : aGho (rF K n) fa_T K n JX ag_rwCT11 := by
  refine aGho_of ⟨rfl, rfl⟩ ?_
  intro p σ ρ hH hX hA hM0
  have hG := aAG_of hA.1 (fun i e v he hv => (hA.2 i e v he hv).1)
  clear hA
  obtain ⟨v0, v1, v2, v3, v4, rfl, g0, g1, g2, g3, g4⟩ := rA_5 hG
  clear hG
  obtain ⟨x0, rfl, b0, d0⟩ := aG_int g0
  dsimp only at b0 d0
  obtain ⟨x1, rfl, b1, d1⟩ := aG_int g1
  dsimp only at b1 d1
  obtain ⟨x2, rfl, b2, d2⟩ := aG_int g2
  dsimp only at b2 d2
  obtain ⟨x3, rfl, b3, d3⟩ := aG_int g3
  dsimp only at b3 d3
  obtain ⟨x4, rfl, b4, d4⟩ := aG_int g4
  dsimp only at b4 d4
  obtain ⟨m1, m2, m3, m4⟩ := hM0
  have f0 : rB K n p 226 [rI x0, rI x1, rI x2, rI x3] σ := by
    obtain ⟨w, e6, e7⟩ := m4 (3620, [0, 1, 2, 3]) (List.mem_of_getElem? (i := 0) rfl)
    obtain rfl : [rI x0, rI x1, rI x2, rI x3] = w := Option.some.inj (show some [rI x0, rI x1, rI x2, rI x3] = some w from e6)
    exact (rF_b (r := 3620) (by decide) rfl).mp e7
  have f0 := ro_226.mp f0
  have f1 : rB K n p 228 [rI x2, rI x3, rI x4] σ := by
    obtain ⟨w, e6, e7⟩ := m4 (3651, [2, 3, 4]) (List.mem_of_getElem? (i := 1) rfl)
    obtain rfl : [rI x2, rI x3, rI x4] = w := Option.some.inj (show some [rI x2, rI x3, rI x4] = some w from e6)
    exact (rF_b (r := 3651) (by decide) rfl).mp e7
  have f1 := ro_228.mp f1
  clear m1 m2 m3 m4
  have hd : (0 ≤ (1 * x1.toInt + 0) + -62 ∧ 0 ≤ (-1 * x1.toInt + 0) + 62) ∨ (0 ≤ (1 * x1.toInt + 0) + -58 ∧ 0 ≤ (-1 * x1.toInt + 0) + 58) := by
    have hq := rSqb (f := x2.toInt) (r := x3.toInt) (by omega)
    have h4 := f1
    rw [show x3.toInt = 0 by omega] at h4
    have hf : x2.toInt = -2 ∨ x2.toInt = -1 ∨ x2.toInt = 0 ∨ x2.toInt = 1 ∨ x2.toInt = 2 := by omega
    rcases hf with h | h | h | h | h
    · omega
    · rw [h] at h4; omega
    · rw [h] at h4; omega
    · rw [h] at h4; omega
    · omega
  rcases hd with ⟨w0, w1⟩ | ⟨w0, w1⟩
  · exact ⟨p, fun _ => rfl, ⟨(fun q h => by cases h), fun q h => (by cases h), (fun f h => by cases h), (fun f h => by cases h)⟩, _, List.mem_of_getElem? (i := 0) rfl, (aAllc ⟨_, rfl, w0⟩ (aAllc ⟨_, rfl, w1⟩ (fun f h => by cases h)))⟩
  · exact ⟨p, fun _ => rfl, ⟨(fun q h => by cases h), fun q h => (by cases h), (fun f h => by cases h), (fun f h => by cases h)⟩, _, List.mem_of_getElem? (i := 1) rfl, (aAllc ⟨_, rfl, w0⟩ (aAllc ⟨_, rfl, w1⟩ (fun f h => by cases h)))⟩
theorem rw_rwGC01 {K : Nat → Nat} {n : Nat} {JX : (Nat → jcell) → Prop} : aGho (rF K n) fa_T K n JX ag_rwGC01 := by
  refine aGho_of ⟨rfl, rfl⟩ ?_
  intro p σ ρ hH hX hA hM0
  have hG := aAG_of hA.1 (fun i e v he hv => (hA.2 i e v he hv).1)
  clear hA
  obtain ⟨v0, v1, v2, v3, v4, v5, v6, rfl, g0, g1, g2, g3, g4, g5, g6⟩ := rA_7 hG
  clear hG
  obtain ⟨x0, rfl, b0, d0⟩ := rG_ref (by decide) g0
  obtain ⟨x1, rfl, b1, d1⟩ := aG_int g1
  dsimp only at b1 d1
  obtain ⟨x2, rfl, b2, d2⟩ := aG_int g2
  dsimp only at b2 d2
  obtain ⟨x3, rfl, b3, d3⟩ := aG_int g3
  dsimp only at b3 d3
  obtain ⟨x4, rfl, b4, d4⟩ := aG_int g4
  dsimp only at b4 d4
  obtain ⟨x5, rfl, b5, d5⟩ := aG_int g5
  dsimp only at b5 d5
  obtain ⟨x6, rfl, b6, d6⟩ := aG_int g6
  dsimp only at b6 d6
  obtain ⟨m1, m2, m3, m4⟩ := hM0
  obtain ⟨T, hT⟩ := rTe_ex hH b0 d0
  obtain ⟨a0, c0, fs0, w0, e1, s0, t0, e4⟩ := m1 (0, 25, 6) (List.mem_of_getElem? (i := 0) rfl)
  obtain rfl : x0 = a0 := Sum.inl.inj (Option.some.inj (Sum.inr.inj (Sum.inr.inj (Option.some.inj (show some (rR x0) = some _ from e1)))))
  obtain rfl : rI x6 = w0 := Option.some.inj (show some (rI x6) = some w0 from e4)
  clear e1 e4
  have f0 : rB K n p 400 [rR x0] σ := by
    obtain ⟨w, e6, e7⟩ := m4 (6401, [0]) (List.mem_of_getElem? (i := 0) rfl)
    obtain rfl : [rR x0] = w := Option.some.inj (show some [rR x0] = some w from e6)
    exact (rF_b (r := 6401) (by decide) rfl).mp e7
  obtain ⟨hp, hR⟩ := ro_400.mp f0
  obtain rfl := rMg_u hT hR.1
  have uS : p.1.2.1 = x6.toInt := rTX_f hR.2.1 s0 t0
  have f1 : rB K n p 432 [rI x1, rI x3] σ := by
    obtain ⟨w, e6, e7⟩ := m4 (6914, [1, 3]) (List.mem_of_getElem? (i := 1) rfl)
    obtain rfl : [rI x1, rI x3] = w := Option.some.inj (show some [rI x1, rI x3] = some w from e6)
    exact (rF_b (r := 6914) (by decide) rfl).mp e7
  have f1 := ro_432.mp f1
  have f2 : rB K n p 430 [rI x1] σ := by
    obtain ⟨w, e6, e7⟩ := m4 (6881, [1]) (List.mem_of_getElem? (i := 2) rfl)
    obtain rfl : [rI x1] = w := Option.some.inj (show some [rI x1] = some w from e6)
    exact (rF_b (r := 6881) (by decide) rfl).mp e7
  have f2 := ro_430.mp f2
  have f3 : rB K n p 431 [rI x2] σ := by
    obtain ⟨w, e6, e7⟩ := m4 (6897, [2]) (List.mem_of_getElem? (i := 3) rfl)
    obtain rfl : [rI x2] = w := Option.some.inj (show some [rI x2] = some w from e6)
    exact (rF_b (r := 6897) (by decide) rfl).mp e7
  have f3 := ro_431.mp f3
  have f4 : rB K n p 428 [rI x2, rI x4] σ := by
    obtain ⟨w, e6, e7⟩ := m4 (6850, [2, 4]) (List.mem_of_getElem? (i := 4) rfl)
    obtain rfl : [rI x2, rI x4] = w := Option.some.inj (show some [rI x2, rI x4] = some w from e6)
    exact (rF_b (r := 6850) (by decide) rfl).mp e7
  have f4 := ro_428.mp f4
  clear m1 m2 m3 m4
  have q0 : rB K n p 429 [rI x1, rI x2, rI x5] σ := ro_429.mpr (by
    intro _
    have hk := f1.2
    have ho := f2.1
    unfold rOwn at ho
    have e : x1.toInt = 56 * p.1.2.1 + 4 := by omega
    have hm : p.1.1 (56 * p.1.2.1 + 4) = 8 * p.1.2.1 + 6 := by
      rw [← e]
      omega
    refine ⟨f2.1, f3, Or.inr ⟨by omega, Or.inr ⟨by omega, e, ?_⟩⟩, f2.2⟩
    rw [e]
    exact rTmc_c f1.1 hm (f4 (by omega)))
  exact ⟨p, fun _ => rfl, ⟨(fun q h => by cases h), fun q h => (by cases h), (fun f h => by cases h), (aAllc ⟨_, rfl, (rF_b (r := 6867) (by decide) rfl).mpr q0⟩ (fun f h => by cases h))⟩, [], List.mem_cons_self, fun f h => (by cases h)⟩
theorem rw_rwRY0 {K : Nat → Nat} {n : Nat} {JX : (Nat → jcell) → Prop} : aGho (rF K n) fa_T K n JX ag_rwRY0 := by
  refine aGho_of ⟨rfl, rfl⟩ ?_
  intro p σ ρ hH hX hA hM0
  have hG := aAG_of hA.1 (fun i e v he hv => (hA.2 i e v he hv).1)
  clear hA
  obtain ⟨v0, v1, v2, v3, v4, v5, v6, rfl, g0, g1, g2, g3, g4, g5, g6⟩ := rA_7 hG
  clear hG
  obtain ⟨x0, rfl, b0, d0⟩ := aG_int g0
  dsimp only at b0 d0
  obtain ⟨x1, rfl, b1, d1⟩ := aG_int g1
  dsimp only at b1 d1
  obtain ⟨x2, rfl, b2, d2⟩ := aG_int g2
  dsimp only at b2 d2
  obtain ⟨x3, rfl, b3, d3⟩ := aG_int g3
  dsimp only at b3 d3
  obtain ⟨x4, rfl, b4, d4⟩ := aG_int g4
  dsimp only at b4 d4
  obtain ⟨x5, rfl, b5, d5⟩ := aG_int g5
  dsimp only at b5 d5
  obtain ⟨x6, rfl, b6, d6⟩ := aG_int g6
  dsimp only at b6 d6
  obtain ⟨m1, m2, m3, m4⟩ := hM0
  have l0 : 0 ≤ (1 * x4.toInt + 0) + 0 := by
    obtain ⟨z, e6, e7⟩ := m3 ([(4, 1)], 0) (List.mem_of_getElem? (i := 0) rfl)
    obtain rfl : (1 * x4.toInt + 0) = z := Option.some.inj (show some (1 * x4.toInt + 0) = some z from e6)
    exact e7
  have l1 : 0 ≤ (-1 * x4.toInt + 0) + 0 := by
    obtain ⟨z, e6, e7⟩ := m3 ([(4, -1)], 0) (List.mem_of_getElem? (i := 1) rfl)
    obtain rfl : (-1 * x4.toInt + 0) = z := Option.some.inj (show some (-1 * x4.toInt + 0) = some z from e6)
    exact e7
  have l2 : 0 ≤ (1 * x5.toInt + 0) + -1 := by
    obtain ⟨z, e6, e7⟩ := m3 ([(5, 1)], -1) (List.mem_of_getElem? (i := 2) rfl)
    obtain rfl : (1 * x5.toInt + 0) = z := Option.some.inj (show some (1 * x5.toInt + 0) = some z from e6)
    exact e7
  have f0 : rB K n p 226 [rI x0, rI x1, rI x4, rI x5] σ := by
    obtain ⟨w, e6, e7⟩ := m4 (3620, [0, 1, 4, 5]) (List.mem_of_getElem? (i := 0) rfl)
    obtain rfl : [rI x0, rI x1, rI x4, rI x5] = w := Option.some.inj (show some [rI x0, rI x1, rI x4, rI x5] = some w from e6)
    exact (rF_b (r := 3620) (by decide) rfl).mp e7
  have f0 := ro_226.mp f0
  have f1 : rB K n p 120 [rI x0, rI x2, rI x3, rI x6] σ := by
    obtain ⟨w, e6, e7⟩ := m4 (1924, [0, 2, 3, 6]) (List.mem_of_getElem? (i := 1) rfl)
    obtain rfl : [rI x0, rI x2, rI x3, rI x6] = w := Option.some.inj (show some [rI x0, rI x2, rI x3, rI x6] = some w from e6)
    exact (rF_b (r := 1924) (by decide) rfl).mp e7
  have f1 := ro_120.mp f1
  clear m1 m2 m3 m4
  have r0 : 0 ≤ (1 * x6.toInt + 0) + 0 := by
    have e : x6.toInt = x0.toInt + 0 + 8 * 1 := by
      have h := f1
      rw [show x2.toInt = 0 by omega, show x3.toInt = 1 by omega] at h
      unfold rSp at h
      rw [if_pos (by omega)] at h
      exact h
    omega
  have q0 : rB K n p 433 [rI x0, rI x1, rI x2, rI x3, rI x6] σ := ro_433.mpr (by
    have e : x6.toInt = x0.toInt + 0 + 8 * 1 := by
      have h := f1
      rw [show x2.toInt = 0 by omega, show x3.toInt = 1 by omega] at h
      unfold rSp at h
      rw [if_pos (by omega)] at h
      exact h
    refine ⟨fun v hv => by rw [← f1]; exact hv, by omega, by omega, by omega, by omega, by omega, d6, (1 * x5.toInt) - 1, by omega, ?_, ?_⟩
    · rw [show x2.toInt = 0 by omega]
      omega
    · rw [show x3.toInt = 1 by omega]
      omega)
  exact ⟨p, fun _ => rfl, ⟨(fun q h => by cases h), fun q h => (by cases h), (aAllc ⟨_, rfl, r0⟩ (fun f h => by cases h)), (aAllc ⟨_, rfl, (rF_b (r := 6933) (by decide) rfl).mpr q0⟩ (fun f h => by cases h))⟩, [], List.mem_cons_self, fun f h => (by cases h)⟩
theorem rw_rwRY1 {K : Nat → Nat} {n : Nat} {JX : (Nat → jcell) → Prop} : aGho (rF K n) fa_T K n JX ag_rwRY1 := by
  refine aGho_of ⟨rfl, rfl⟩ ?_
  intro p σ ρ hH hX hA hM0
  have hG := aAG_of hA.1 (fun i e v he hv => (hA.2 i e v he hv).1)
  clear hA
  obtain ⟨v0, v1, v2, v3, v4, v5, v6, rfl, g0, g1, g2, g3, g4, g5, g6⟩ := rA_7 hG
  clear hG
  obtain ⟨x0, rfl, b0, d0⟩ := aG_int g0
  dsimp only at b0 d0
  obtain ⟨x1, rfl, b1, d1⟩ := aG_int g1
  dsimp only at b1 d1
  obtain ⟨x2, rfl, b2, d2⟩ := aG_int g2
  dsimp only at b2 d2
  obtain ⟨x3, rfl, b3, d3⟩ := aG_int g3
  dsimp only at b3 d3
  obtain ⟨x4, rfl, b4, d4⟩ := aG_int g4
  dsimp only at b4 d4
  obtain ⟨x5, rfl, b5, d5⟩ := aG_int g5
  dsimp only at b5 d5
  obtain ⟨x6, rfl, b6, d6⟩ := aG_int g6
  dsimp only at b6 d6
  obtain ⟨m1, m2, m3, m4⟩ := hM0
  have l0 : 0 ≤ (1 * x4.toInt + 0) + 0 := by
    obtain ⟨z, e6, e7⟩ := m3 ([(4, 1)], 0) (List.mem_of_getElem? (i := 0) rfl)
    obtain rfl : (1 * x4.toInt + 0) = z := Option.some.inj (show some (1 * x4.toInt + 0) = some z from e6)
    exact e7
  have l1 : 0 ≤ (-1 * x4.toInt + 0) + 0 := by
    obtain ⟨z, e6, e7⟩ := m3 ([(4, -1)], 0) (List.mem_of_getElem? (i := 1) rfl)
    obtain rfl : (-1 * x4.toInt + 0) = z := Option.some.inj (show some (-1 * x4.toInt + 0) = some z from e6)
    exact e7
  have l2 : 0 ≤ (-1 * x5.toInt + 0) + -1 := by
    obtain ⟨z, e6, e7⟩ := m3 ([(5, -1)], -1) (List.mem_of_getElem? (i := 2) rfl)
    obtain rfl : (-1 * x5.toInt + 0) = z := Option.some.inj (show some (-1 * x5.toInt + 0) = some z from e6)
    exact e7
  have f0 : rB K n p 226 [rI x0, rI x1, rI x4, rI x5] σ := by
    obtain ⟨w, e6, e7⟩ := m4 (3620, [0, 1, 4, 5]) (List.mem_of_getElem? (i := 0) rfl)
    obtain rfl : [rI x0, rI x1, rI x4, rI x5] = w := Option.some.inj (show some [rI x0, rI x1, rI x4, rI x5] = some w from e6)
    exact (rF_b (r := 3620) (by decide) rfl).mp e7
  have f0 := ro_226.mp f0
  have f1 : rB K n p 120 [rI x0, rI x2, rI x3, rI x6] σ := by
    obtain ⟨w, e6, e7⟩ := m4 (1924, [0, 2, 3, 6]) (List.mem_of_getElem? (i := 1) rfl)
    obtain rfl : [rI x0, rI x2, rI x3, rI x6] = w := Option.some.inj (show some [rI x0, rI x2, rI x3, rI x6] = some w from e6)
    exact (rF_b (r := 1924) (by decide) rfl).mp e7
  have f1 := ro_120.mp f1
  clear m1 m2 m3 m4
  have r0 : 0 ≤ (1 * x6.toInt + 0) + 0 := by
    have e : x6.toInt = x0.toInt + 0 + 8 * (-1) := by
      have h := f1
      rw [show x2.toInt = 0 by omega, show x3.toInt = -1 by omega] at h
      unfold rSp at h
      rw [if_pos (by omega)] at h
      exact h
    omega
  have q0 : rB K n p 433 [rI x0, rI x1, rI x2, rI x3, rI x6] σ := ro_433.mpr (by
    have e : x6.toInt = x0.toInt + 0 + 8 * (-1) := by
      have h := f1
      rw [show x2.toInt = 0 by omega, show x3.toInt = -1 by omega] at h
      unfold rSp at h
      rw [if_pos (by omega)] at h
      exact h
    refine ⟨fun v hv => by rw [← f1]; exact hv, by omega, by omega, by omega, by omega, by omega, d6, (-1 * x5.toInt) - 1, by omega, ?_, ?_⟩
    · rw [show x2.toInt = 0 by omega]
      omega
    · rw [show x3.toInt = -1 by omega]
      omega)
  exact ⟨p, fun _ => rfl, ⟨(fun q h => by cases h), fun q h => (by cases h), (aAllc ⟨_, rfl, r0⟩ (fun f h => by cases h)), (aAllc ⟨_, rfl, (rF_b (r := 6933) (by decide) rfl).mpr q0⟩ (fun f h => by cases h))⟩, [], List.mem_cons_self, fun f h => (by cases h)⟩
theorem rw_rwRY2 {K : Nat → Nat} {n : Nat} {JX : (Nat → jcell) → Prop} : aGho (rF K n) fa_T K n JX ag_rwRY2 := by
  refine aGho_of ⟨rfl, rfl⟩ ?_
  intro p σ ρ hH hX hA hM0
  have hG := aAG_of hA.1 (fun i e v he hv => (hA.2 i e v he hv).1)
  clear hA
  obtain ⟨v0, v1, v2, v3, v4, v5, v6, rfl, g0, g1, g2, g3, g4, g5, g6⟩ := rA_7 hG
  clear hG
  obtain ⟨x0, rfl, b0, d0⟩ := aG_int g0
  dsimp only at b0 d0
  obtain ⟨x1, rfl, b1, d1⟩ := aG_int g1
  dsimp only at b1 d1
  obtain ⟨x2, rfl, b2, d2⟩ := aG_int g2
  dsimp only at b2 d2
  obtain ⟨x3, rfl, b3, d3⟩ := aG_int g3
  dsimp only at b3 d3
  obtain ⟨x4, rfl, b4, d4⟩ := aG_int g4
  dsimp only at b4 d4
  obtain ⟨x5, rfl, b5, d5⟩ := aG_int g5
  dsimp only at b5 d5
  obtain ⟨x6, rfl, b6, d6⟩ := aG_int g6
  dsimp only at b6 d6
  obtain ⟨m1, m2, m3, m4⟩ := hM0
  have l0 : 0 ≤ (1 * x4.toInt + 0) + -1 := by
    obtain ⟨z, e6, e7⟩ := m3 ([(4, 1)], -1) (List.mem_of_getElem? (i := 0) rfl)
    obtain rfl : (1 * x4.toInt + 0) = z := Option.some.inj (show some (1 * x4.toInt + 0) = some z from e6)
    exact e7
  have l1 : 0 ≤ (1 * x5.toInt + 0) + 0 := by
    obtain ⟨z, e6, e7⟩ := m3 ([(5, 1)], 0) (List.mem_of_getElem? (i := 1) rfl)
    obtain rfl : (1 * x5.toInt + 0) = z := Option.some.inj (show some (1 * x5.toInt + 0) = some z from e6)
    exact e7
  have l2 : 0 ≤ (-1 * x5.toInt + 0) + 0 := by
    obtain ⟨z, e6, e7⟩ := m3 ([(5, -1)], 0) (List.mem_of_getElem? (i := 2) rfl)
    obtain rfl : (-1 * x5.toInt + 0) = z := Option.some.inj (show some (-1 * x5.toInt + 0) = some z from e6)
    exact e7
  have f0 : rB K n p 226 [rI x0, rI x1, rI x4, rI x5] σ := by
    obtain ⟨w, e6, e7⟩ := m4 (3620, [0, 1, 4, 5]) (List.mem_of_getElem? (i := 0) rfl)
    obtain rfl : [rI x0, rI x1, rI x4, rI x5] = w := Option.some.inj (show some [rI x0, rI x1, rI x4, rI x5] = some w from e6)
    exact (rF_b (r := 3620) (by decide) rfl).mp e7
  have f0 := ro_226.mp f0
  have f1 : rB K n p 120 [rI x0, rI x2, rI x3, rI x6] σ := by
    obtain ⟨w, e6, e7⟩ := m4 (1924, [0, 2, 3, 6]) (List.mem_of_getElem? (i := 1) rfl)
    obtain rfl : [rI x0, rI x2, rI x3, rI x6] = w := Option.some.inj (show some [rI x0, rI x2, rI x3, rI x6] = some w from e6)
    exact (rF_b (r := 1924) (by decide) rfl).mp e7
  have f1 := ro_120.mp f1
  clear m1 m2 m3 m4
  have r0 : 0 ≤ (1 * x6.toInt + 0) + 0 := by
    have e : x6.toInt = x0.toInt + 1 + 8 * 0 := by
      have h := f1
      rw [show x2.toInt = 1 by omega, show x3.toInt = 0 by omega] at h
      unfold rSp at h
      rw [if_pos (by omega)] at h
      exact h
    omega
  have q0 : rB K n p 433 [rI x0, rI x1, rI x2, rI x3, rI x6] σ := ro_433.mpr (by
    have e : x6.toInt = x0.toInt + 1 + 8 * 0 := by
      have h := f1
      rw [show x2.toInt = 1 by omega, show x3.toInt = 0 by omega] at h
      unfold rSp at h
      rw [if_pos (by omega)] at h
      exact h
    refine ⟨fun v hv => by rw [← f1]; exact hv, by omega, by omega, by omega, by omega, by omega, d6, (1 * x4.toInt) - 1, by omega, ?_, ?_⟩
    · rw [show x2.toInt = 1 by omega]
      omega
    · rw [show x3.toInt = 0 by omega]
      omega)
  exact ⟨p, fun _ => rfl, ⟨(fun q h => by cases h), fun q h => (by cases h), (aAllc ⟨_, rfl, r0⟩ (fun f h => by cases h)), (aAllc ⟨_, rfl, (rF_b (r := 6933) (by decide) rfl).mpr q0⟩ (fun f h => by cases h))⟩, [], List.mem_cons_self, fun f h => (by cases h)⟩
theorem rw_rwRY3 {K : Nat → Nat} {n : Nat} {JX : (Nat → jcell) → Prop} : aGho (rF K n) fa_T K n JX ag_rwRY3 := by
  refine aGho_of ⟨rfl, rfl⟩ ?_
  intro p σ ρ hH hX hA hM0
  have hG := aAG_of hA.1 (fun i e v he hv => (hA.2 i e v he hv).1)
  clear hA
  obtain ⟨v0, v1, v2, v3, v4, v5, v6, rfl, g0, g1, g2, g3, g4, g5, g6⟩ := rA_7 hG
  clear hG
  obtain ⟨x0, rfl, b0, d0⟩ := aG_int g0
  dsimp only at b0 d0
  obtain ⟨x1, rfl, b1, d1⟩ := aG_int g1
  dsimp only at b1 d1
  obtain ⟨x2, rfl, b2, d2⟩ := aG_int g2
  dsimp only at b2 d2
  obtain ⟨x3, rfl, b3, d3⟩ := aG_int g3
  dsimp only at b3 d3
  obtain ⟨x4, rfl, b4, d4⟩ := aG_int g4
  dsimp only at b4 d4
  obtain ⟨x5, rfl, b5, d5⟩ := aG_int g5
  dsimp only at b5 d5
  obtain ⟨x6, rfl, b6, d6⟩ := aG_int g6
  dsimp only at b6 d6
  obtain ⟨m1, m2, m3, m4⟩ := hM0
  have l0 : 0 ≤ (-1 * x4.toInt + 0) + -1 := by
    obtain ⟨z, e6, e7⟩ := m3 ([(4, -1)], -1) (List.mem_of_getElem? (i := 0) rfl)
    obtain rfl : (-1 * x4.toInt + 0) = z := Option.some.inj (show some (-1 * x4.toInt + 0) = some z from e6)
    exact e7
  have l1 : 0 ≤ (1 * x5.toInt + 0) + 0 := by
    obtain ⟨z, e6, e7⟩ := m3 ([(5, 1)], 0) (List.mem_of_getElem? (i := 1) rfl)
    obtain rfl : (1 * x5.toInt + 0) = z := Option.some.inj (show some (1 * x5.toInt + 0) = some z from e6)
    exact e7
  have l2 : 0 ≤ (-1 * x5.toInt + 0) + 0 := by
    obtain ⟨z, e6, e7⟩ := m3 ([(5, -1)], 0) (List.mem_of_getElem? (i := 2) rfl)
    obtain rfl : (-1 * x5.toInt + 0) = z := Option.some.inj (show some (-1 * x5.toInt + 0) = some z from e6)
    exact e7
  have f0 : rB K n p 226 [rI x0, rI x1, rI x4, rI x5] σ := by
    obtain ⟨w, e6, e7⟩ := m4 (3620, [0, 1, 4, 5]) (List.mem_of_getElem? (i := 0) rfl)
    obtain rfl : [rI x0, rI x1, rI x4, rI x5] = w := Option.some.inj (show some [rI x0, rI x1, rI x4, rI x5] = some w from e6)
    exact (rF_b (r := 3620) (by decide) rfl).mp e7
  have f0 := ro_226.mp f0
  have f1 : rB K n p 120 [rI x0, rI x2, rI x3, rI x6] σ := by
    obtain ⟨w, e6, e7⟩ := m4 (1924, [0, 2, 3, 6]) (List.mem_of_getElem? (i := 1) rfl)
    obtain rfl : [rI x0, rI x2, rI x3, rI x6] = w := Option.some.inj (show some [rI x0, rI x2, rI x3, rI x6] = some w from e6)
    exact (rF_b (r := 1924) (by decide) rfl).mp e7
  have f1 := ro_120.mp f1
  clear m1 m2 m3 m4
  have r0 : 0 ≤ (1 * x6.toInt + 0) + 0 := by
    have e : x6.toInt = x0.toInt + -1 + 8 * 0 := by
      have h := f1
      rw [show x2.toInt = -1 by omega, show x3.toInt = 0 by omega] at h
      unfold rSp at h
      rw [if_pos (by omega)] at h
      exact h
    omega
  have q0 : rB K n p 433 [rI x0, rI x1, rI x2, rI x3, rI x6] σ := ro_433.mpr (by
    have e : x6.toInt = x0.toInt + -1 + 8 * 0 := by
      have h := f1
      rw [show x2.toInt = -1 by omega, show x3.toInt = 0 by omega] at h
      unfold rSp at h
      rw [if_pos (by omega)] at h
      exact h
    refine ⟨fun v hv => by rw [← f1]; exact hv, by omega, by omega, by omega, by omega, by omega, d6, (-1 * x4.toInt) - 1, by omega, ?_, ?_⟩
    · rw [show x2.toInt = -1 by omega]
      omega
    · rw [show x3.toInt = 0 by omega]
      omega)
  exact ⟨p, fun _ => rfl, ⟨(fun q h => by cases h), fun q h => (by cases h), (aAllc ⟨_, rfl, r0⟩ (fun f h => by cases h)), (aAllc ⟨_, rfl, (rF_b (r := 6933) (by decide) rfl).mpr q0⟩ (fun f h => by cases h))⟩, [], List.mem_cons_self, fun f h => (by cases h)⟩
theorem rw_rwRY4 {K : Nat → Nat} {n : Nat} {JX : (Nat → jcell) → Prop} : aGho (rF K n) fa_T K n JX ag_rwRY4 := by
  refine aGho_of ⟨rfl, rfl⟩ ?_
  intro p σ ρ hH hX hA hM0
  have hG := aAG_of hA.1 (fun i e v he hv => (hA.2 i e v he hv).1)
  clear hA
  obtain ⟨v0, v1, v2, v3, v4, v5, v6, rfl, g0, g1, g2, g3, g4, g5, g6⟩ := rA_7 hG
  clear hG
  obtain ⟨x0, rfl, b0, d0⟩ := aG_int g0
  dsimp only at b0 d0
  obtain ⟨x1, rfl, b1, d1⟩ := aG_int g1
  dsimp only at b1 d1
  obtain ⟨x2, rfl, b2, d2⟩ := aG_int g2
  dsimp only at b2 d2
  obtain ⟨x3, rfl, b3, d3⟩ := aG_int g3
  dsimp only at b3 d3
  obtain ⟨x4, rfl, b4, d4⟩ := aG_int g4
  dsimp only at b4 d4
  obtain ⟨x5, rfl, b5, d5⟩ := aG_int g5
  dsimp only at b5 d5
  obtain ⟨x6, rfl, b6, d6⟩ := aG_int g6
  dsimp only at b6 d6
  obtain ⟨m1, m2, m3, m4⟩ := hM0
  have l0 : 0 ≤ (1 * x4.toInt + 0) + -1 := by
    obtain ⟨z, e6, e7⟩ := m3 ([(4, 1)], -1) (List.mem_of_getElem? (i := 0) rfl)
    obtain rfl : (1 * x4.toInt + 0) = z := Option.some.inj (show some (1 * x4.toInt + 0) = some z from e6)
    exact e7
  have l1 : 0 ≤ (1 * x5.toInt + 0) + -1 := by
    obtain ⟨z, e6, e7⟩ := m3 ([(5, 1)], -1) (List.mem_of_getElem? (i := 1) rfl)
    obtain rfl : (1 * x5.toInt + 0) = z := Option.some.inj (show some (1 * x5.toInt + 0) = some z from e6)
    exact e7
  have l2 : 0 ≤ (1 * x4.toInt + (-1 * x5.toInt + 0)) + 0 := by
    obtain ⟨z, e6, e7⟩ := m3 ([(4, 1), (5, -1)], 0) (List.mem_of_getElem? (i := 2) rfl)
    obtain rfl : (1 * x4.toInt + (-1 * x5.toInt + 0)) = z := Option.some.inj (show some (1 * x4.toInt + (-1 * x5.toInt + 0)) = some z from e6)
    exact e7
  have l3 : 0 ≤ (-1 * x4.toInt + (1 * x5.toInt + 0)) + 0 := by
    obtain ⟨z, e6, e7⟩ := m3 ([(4, -1), (5, 1)], 0) (List.mem_of_getElem? (i := 3) rfl)
    obtain rfl : (-1 * x4.toInt + (1 * x5.toInt + 0)) = z := Option.some.inj (show some (-1 * x4.toInt + (1 * x5.toInt + 0)) = some z from e6)
    exact e7
  have f0 : rB K n p 226 [rI x0, rI x1, rI x4, rI x5] σ := by
    obtain ⟨w, e6, e7⟩ := m4 (3620, [0, 1, 4, 5]) (List.mem_of_getElem? (i := 0) rfl)
    obtain rfl : [rI x0, rI x1, rI x4, rI x5] = w := Option.some.inj (show some [rI x0, rI x1, rI x4, rI x5] = some w from e6)
    exact (rF_b (r := 3620) (by decide) rfl).mp e7
  have f0 := ro_226.mp f0
  have f1 : rB K n p 120 [rI x0, rI x2, rI x3, rI x6] σ := by
    obtain ⟨w, e6, e7⟩ := m4 (1924, [0, 2, 3, 6]) (List.mem_of_getElem? (i := 1) rfl)
    obtain rfl : [rI x0, rI x2, rI x3, rI x6] = w := Option.some.inj (show some [rI x0, rI x2, rI x3, rI x6] = some w from e6)
    exact (rF_b (r := 1924) (by decide) rfl).mp e7
  have f1 := ro_120.mp f1
  clear m1 m2 m3 m4
  have r0 : 0 ≤ (1 * x6.toInt + 0) + 0 := by
    have e : x6.toInt = x0.toInt + 1 + 8 * 1 := by
      have h := f1
      rw [show x2.toInt = 1 by omega, show x3.toInt = 1 by omega] at h
      unfold rSp at h
      rw [if_pos (by omega)] at h
      exact h
    omega
  have q0 : rB K n p 433 [rI x0, rI x1, rI x2, rI x3, rI x6] σ := ro_433.mpr (by
    have e : x6.toInt = x0.toInt + 1 + 8 * 1 := by
      have h := f1
      rw [show x2.toInt = 1 by omega, show x3.toInt = 1 by omega] at h
      unfold rSp at h
      rw [if_pos (by omega)] at h
      exact h
    refine ⟨fun v hv => by rw [← f1]; exact hv, by omega, by omega, by omega, by omega, by omega, d6, (1 * x4.toInt) - 1, by omega, ?_, ?_⟩
    · rw [show x2.toInt = 1 by omega]
      omega
    · rw [show x3.toInt = 1 by omega]
      omega)
  exact ⟨p, fun _ => rfl, ⟨(fun q h => by cases h), fun q h => (by cases h), (aAllc ⟨_, rfl, r0⟩ (fun f h => by cases h)), (aAllc ⟨_, rfl, (rF_b (r := 6933) (by decide) rfl).mpr q0⟩ (fun f h => by cases h))⟩, [], List.mem_cons_self, fun f h => (by cases h)⟩
theorem rw_rwRY5 {K : Nat → Nat} {n : Nat} {JX : (Nat → jcell) → Prop} : aGho (rF K n) fa_T K n JX ag_rwRY5 := by
  refine aGho_of ⟨rfl, rfl⟩ ?_
  intro p σ ρ hH hX hA hM0
  have hG := aAG_of hA.1 (fun i e v he hv => (hA.2 i e v he hv).1)
  clear hA
  obtain ⟨v0, v1, v2, v3, v4, v5, v6, rfl, g0, g1, g2, g3, g4, g5, g6⟩ := rA_7 hG
  clear hG
  obtain ⟨x0, rfl, b0, d0⟩ := aG_int g0
  dsimp only at b0 d0
  obtain ⟨x1, rfl, b1, d1⟩ := aG_int g1
  dsimp only at b1 d1
  obtain ⟨x2, rfl, b2, d2⟩ := aG_int g2
  dsimp only at b2 d2
  obtain ⟨x3, rfl, b3, d3⟩ := aG_int g3
  dsimp only at b3 d3
  obtain ⟨x4, rfl, b4, d4⟩ := aG_int g4
  dsimp only at b4 d4
  obtain ⟨x5, rfl, b5, d5⟩ := aG_int g5
  dsimp only at b5 d5
  obtain ⟨x6, rfl, b6, d6⟩ := aG_int g6
  dsimp only at b6 d6
  obtain ⟨m1, m2, m3, m4⟩ := hM0
  have l0 : 0 ≤ (-1 * x4.toInt + 0) + -1 := by
    obtain ⟨z, e6, e7⟩ := m3 ([(4, -1)], -1) (List.mem_of_getElem? (i := 0) rfl)
    obtain rfl : (-1 * x4.toInt + 0) = z := Option.some.inj (show some (-1 * x4.toInt + 0) = some z from e6)
    exact e7
  have l1 : 0 ≤ (-1 * x5.toInt + 0) + -1 := by
    obtain ⟨z, e6, e7⟩ := m3 ([(5, -1)], -1) (List.mem_of_getElem? (i := 1) rfl)
    obtain rfl : (-1 * x5.toInt + 0) = z := Option.some.inj (show some (-1 * x5.toInt + 0) = some z from e6)
    exact e7
  have l2 : 0 ≤ (-1 * x4.toInt + (1 * x5.toInt + 0)) + 0 := by
    obtain ⟨z, e6, e7⟩ := m3 ([(4, -1), (5, 1)], 0) (List.mem_of_getElem? (i := 2) rfl)
    obtain rfl : (-1 * x4.toInt + (1 * x5.toInt + 0)) = z := Option.some.inj (show some (-1 * x4.toInt + (1 * x5.toInt + 0)) = some z from e6)
    exact e7
  have l3 : 0 ≤ (1 * x4.toInt + (-1 * x5.toInt + 0)) + 0 := by
    obtain ⟨z, e6, e7⟩ := m3 ([(4, 1), (5, -1)], 0) (List.mem_of_getElem? (i := 3) rfl)
    obtain rfl : (1 * x4.toInt + (-1 * x5.toInt + 0)) = z := Option.some.inj (show some (1 * x4.toInt + (-1 * x5.toInt + 0)) = some z from e6)
    exact e7
  have f0 : rB K n p 226 [rI x0, rI x1, rI x4, rI x5] σ := by
    obtain ⟨w, e6, e7⟩ := m4 (3620, [0, 1, 4, 5]) (List.mem_of_getElem? (i := 0) rfl)
    obtain rfl : [rI x0, rI x1, rI x4, rI x5] = w := Option.some.inj (show some [rI x0, rI x1, rI x4, rI x5] = some w from e6)
    exact (rF_b (r := 3620) (by decide) rfl).mp e7
  have f0 := ro_226.mp f0
  have f1 : rB K n p 120 [rI x0, rI x2, rI x3, rI x6] σ := by
    obtain ⟨w, e6, e7⟩ := m4 (1924, [0, 2, 3, 6]) (List.mem_of_getElem? (i := 1) rfl)
    obtain rfl : [rI x0, rI x2, rI x3, rI x6] = w := Option.some.inj (show some [rI x0, rI x2, rI x3, rI x6] = some w from e6)
    exact (rF_b (r := 1924) (by decide) rfl).mp e7
  have f1 := ro_120.mp f1
  clear m1 m2 m3 m4
  have r0 : 0 ≤ (1 * x6.toInt + 0) + 0 := by
    have e : x6.toInt = x0.toInt + -1 + 8 * (-1) := by
      have h := f1
      rw [show x2.toInt = -1 by omega, show x3.toInt = -1 by omega] at h
      unfold rSp at h
      rw [if_pos (by omega)] at h
      exact h
    omega
  have q0 : rB K n p 433 [rI x0, rI x1, rI x2, rI x3, rI x6] σ := ro_433.mpr (by
    have e : x6.toInt = x0.toInt + -1 + 8 * (-1) := by
      have h := f1
      rw [show x2.toInt = -1 by omega, show x3.toInt = -1 by omega] at h
      unfold rSp at h
      rw [if_pos (by omega)] at h
      exact h
    refine ⟨fun v hv => by rw [← f1]; exact hv, by omega, by omega, by omega, by omega, by omega, d6, (-1 * x4.toInt) - 1, by omega, ?_, ?_⟩
    · rw [show x2.toInt = -1 by omega]
      omega
    · rw [show x3.toInt = -1 by omega]
      omega)
  exact ⟨p, fun _ => rfl, ⟨(fun q h => by cases h), fun q h => (by cases h), (aAllc ⟨_, rfl, r0⟩ (fun f h => by cases h)), (aAllc ⟨_, rfl, (rF_b (r := 6933) (by decide) rfl).mpr q0⟩ (fun f h => by cases h))⟩, [], List.mem_cons_self, fun f h => (by cases h)⟩
theorem rw_rwRY6 {K : Nat → Nat} {n : Nat} {JX : (Nat → jcell) → Prop} : aGho (rF K n) fa_T K n JX ag_rwRY6 := by
  refine aGho_of ⟨rfl, rfl⟩ ?_
  intro p σ ρ hH hX hA hM0
  have hG := aAG_of hA.1 (fun i e v he hv => (hA.2 i e v he hv).1)
  clear hA
  obtain ⟨v0, v1, v2, v3, v4, v5, v6, rfl, g0, g1, g2, g3, g4, g5, g6⟩ := rA_7 hG
  clear hG
  obtain ⟨x0, rfl, b0, d0⟩ := aG_int g0
  dsimp only at b0 d0
  obtain ⟨x1, rfl, b1, d1⟩ := aG_int g1
  dsimp only at b1 d1
  obtain ⟨x2, rfl, b2, d2⟩ := aG_int g2
  dsimp only at b2 d2
  obtain ⟨x3, rfl, b3, d3⟩ := aG_int g3
  dsimp only at b3 d3
  obtain ⟨x4, rfl, b4, d4⟩ := aG_int g4
  dsimp only at b4 d4
  obtain ⟨x5, rfl, b5, d5⟩ := aG_int g5
  dsimp only at b5 d5
  obtain ⟨x6, rfl, b6, d6⟩ := aG_int g6
  dsimp only at b6 d6
  obtain ⟨m1, m2, m3, m4⟩ := hM0
  have l0 : 0 ≤ (1 * x4.toInt + 0) + -1 := by
    obtain ⟨z, e6, e7⟩ := m3 ([(4, 1)], -1) (List.mem_of_getElem? (i := 0) rfl)
    obtain rfl : (1 * x4.toInt + 0) = z := Option.some.inj (show some (1 * x4.toInt + 0) = some z from e6)
    exact e7
  have l1 : 0 ≤ (-1 * x5.toInt + 0) + -1 := by
    obtain ⟨z, e6, e7⟩ := m3 ([(5, -1)], -1) (List.mem_of_getElem? (i := 1) rfl)
    obtain rfl : (-1 * x5.toInt + 0) = z := Option.some.inj (show some (-1 * x5.toInt + 0) = some z from e6)
    exact e7
  have l2 : 0 ≤ (1 * x4.toInt + (1 * x5.toInt + 0)) + 0 := by
    obtain ⟨z, e6, e7⟩ := m3 ([(4, 1), (5, 1)], 0) (List.mem_of_getElem? (i := 2) rfl)
    obtain rfl : (1 * x4.toInt + (1 * x5.toInt + 0)) = z := Option.some.inj (show some (1 * x4.toInt + (1 * x5.toInt + 0)) = some z from e6)
    exact e7
  have l3 : 0 ≤ (-1 * x4.toInt + (-1 * x5.toInt + 0)) + 0 := by
    obtain ⟨z, e6, e7⟩ := m3 ([(4, -1), (5, -1)], 0) (List.mem_of_getElem? (i := 3) rfl)
    obtain rfl : (-1 * x4.toInt + (-1 * x5.toInt + 0)) = z := Option.some.inj (show some (-1 * x4.toInt + (-1 * x5.toInt + 0)) = some z from e6)
    exact e7
  have f0 : rB K n p 226 [rI x0, rI x1, rI x4, rI x5] σ := by
    obtain ⟨w, e6, e7⟩ := m4 (3620, [0, 1, 4, 5]) (List.mem_of_getElem? (i := 0) rfl)
    obtain rfl : [rI x0, rI x1, rI x4, rI x5] = w := Option.some.inj (show some [rI x0, rI x1, rI x4, rI x5] = some w from e6)
    exact (rF_b (r := 3620) (by decide) rfl).mp e7
  have f0 := ro_226.mp f0
  have f1 : rB K n p 120 [rI x0, rI x2, rI x3, rI x6] σ := by
    obtain ⟨w, e6, e7⟩ := m4 (1924, [0, 2, 3, 6]) (List.mem_of_getElem? (i := 1) rfl)
    obtain rfl : [rI x0, rI x2, rI x3, rI x6] = w := Option.some.inj (show some [rI x0, rI x2, rI x3, rI x6] = some w from e6)
    exact (rF_b (r := 1924) (by decide) rfl).mp e7
  have f1 := ro_120.mp f1
  clear m1 m2 m3 m4
  have r0 : 0 ≤ (1 * x6.toInt + 0) + 0 := by
    have e : x6.toInt = x0.toInt + 1 + 8 * (-1) := by
      have h := f1
      rw [show x2.toInt = 1 by omega, show x3.toInt = -1 by omega] at h
      unfold rSp at h
      rw [if_pos (by omega)] at h
      exact h
    omega
  have q0 : rB K n p 433 [rI x0, rI x1, rI x2, rI x3, rI x6] σ := ro_433.mpr (by
    have e : x6.toInt = x0.toInt + 1 + 8 * (-1) := by
      have h := f1
      rw [show x2.toInt = 1 by omega, show x3.toInt = -1 by omega] at h
      unfold rSp at h
      rw [if_pos (by omega)] at h
      exact h
    refine ⟨fun v hv => by rw [← f1]; exact hv, by omega, by omega, by omega, by omega, by omega, d6, (1 * x4.toInt) - 1, by omega, ?_, ?_⟩
    · rw [show x2.toInt = 1 by omega]
      omega
    · rw [show x3.toInt = -1 by omega]
      omega)
  exact ⟨p, fun _ => rfl, ⟨(fun q h => by cases h), fun q h => (by cases h), (aAllc ⟨_, rfl, r0⟩ (fun f h => by cases h)), (aAllc ⟨_, rfl, (rF_b (r := 6933) (by decide) rfl).mpr q0⟩ (fun f h => by cases h))⟩, [], List.mem_cons_self, fun f h => (by cases h)⟩
theorem rw_rwRY7 {K : Nat → Nat} {n : Nat} {JX : (Nat → jcell) → Prop} : aGho (rF K n) fa_T K n JX ag_rwRY7 := by
  refine aGho_of ⟨rfl, rfl⟩ ?_
  intro p σ ρ hH hX hA hM0
  have hG := aAG_of hA.1 (fun i e v he hv => (hA.2 i e v he hv).1)
  clear hA
  obtain ⟨v0, v1, v2, v3, v4, v5, v6, rfl, g0, g1, g2, g3, g4, g5, g6⟩ := rA_7 hG
  clear hG
  obtain ⟨x0, rfl, b0, d0⟩ := aG_int g0
  dsimp only at b0 d0
  obtain ⟨x1, rfl, b1, d1⟩ := aG_int g1
  dsimp only at b1 d1
  obtain ⟨x2, rfl, b2, d2⟩ := aG_int g2
  dsimp only at b2 d2
  obtain ⟨x3, rfl, b3, d3⟩ := aG_int g3
  dsimp only at b3 d3
  obtain ⟨x4, rfl, b4, d4⟩ := aG_int g4
  dsimp only at b4 d4
  obtain ⟨x5, rfl, b5, d5⟩ := aG_int g5
  dsimp only at b5 d5
  obtain ⟨x6, rfl, b6, d6⟩ := aG_int g6
  dsimp only at b6 d6
  obtain ⟨m1, m2, m3, m4⟩ := hM0
  have l0 : 0 ≤ (-1 * x4.toInt + 0) + -1 := by
    obtain ⟨z, e6, e7⟩ := m3 ([(4, -1)], -1) (List.mem_of_getElem? (i := 0) rfl)
    obtain rfl : (-1 * x4.toInt + 0) = z := Option.some.inj (show some (-1 * x4.toInt + 0) = some z from e6)
    exact e7
  have l1 : 0 ≤ (1 * x5.toInt + 0) + -1 := by
    obtain ⟨z, e6, e7⟩ := m3 ([(5, 1)], -1) (List.mem_of_getElem? (i := 1) rfl)
    obtain rfl : (1 * x5.toInt + 0) = z := Option.some.inj (show some (1 * x5.toInt + 0) = some z from e6)
    exact e7
  have l2 : 0 ≤ (-1 * x4.toInt + (-1 * x5.toInt + 0)) + 0 := by
    obtain ⟨z, e6, e7⟩ := m3 ([(4, -1), (5, -1)], 0) (List.mem_of_getElem? (i := 2) rfl)
    obtain rfl : (-1 * x4.toInt + (-1 * x5.toInt + 0)) = z := Option.some.inj (show some (-1 * x4.toInt + (-1 * x5.toInt + 0)) = some z from e6)
    exact e7
  have l3 : 0 ≤ (1 * x4.toInt + (1 * x5.toInt + 0)) + 0 := by
    obtain ⟨z, e6, e7⟩ := m3 ([(4, 1), (5, 1)], 0) (List.mem_of_getElem? (i := 3) rfl)
    obtain rfl : (1 * x4.toInt + (1 * x5.toInt + 0)) = z := Option.some.inj (show some (1 * x4.toInt + (1 * x5.toInt + 0)) = some z from e6)
    exact e7
  have f0 : rB K n p 226 [rI x0, rI x1, rI x4, rI x5] σ := by
    obtain ⟨w, e6, e7⟩ := m4 (3620, [0, 1, 4, 5]) (List.mem_of_getElem? (i := 0) rfl)
    obtain rfl : [rI x0, rI x1, rI x4, rI x5] = w := Option.some.inj (show some [rI x0, rI x1, rI x4, rI x5] = some w from e6)
    exact (rF_b (r := 3620) (by decide) rfl).mp e7
  have f0 := ro_226.mp f0
  have f1 : rB K n p 120 [rI x0, rI x2, rI x3, rI x6] σ := by
    obtain ⟨w, e6, e7⟩ := m4 (1924, [0, 2, 3, 6]) (List.mem_of_getElem? (i := 1) rfl)
    obtain rfl : [rI x0, rI x2, rI x3, rI x6] = w := Option.some.inj (show some [rI x0, rI x2, rI x3, rI x6] = some w from e6)
    exact (rF_b (r := 1924) (by decide) rfl).mp e7
  have f1 := ro_120.mp f1
  clear m1 m2 m3 m4
  have r0 : 0 ≤ (1 * x6.toInt + 0) + 0 := by
    have e : x6.toInt = x0.toInt + -1 + 8 * 1 := by
      have h := f1
      rw [show x2.toInt = -1 by omega, show x3.toInt = 1 by omega] at h
      unfold rSp at h
      rw [if_pos (by omega)] at h
      exact h
    omega
  have q0 : rB K n p 433 [rI x0, rI x1, rI x2, rI x3, rI x6] σ := ro_433.mpr (by
    have e : x6.toInt = x0.toInt + -1 + 8 * 1 := by
      have h := f1
      rw [show x2.toInt = -1 by omega, show x3.toInt = 1 by omega] at h
      unfold rSp at h
      rw [if_pos (by omega)] at h
      exact h
    refine ⟨fun v hv => by rw [← f1]; exact hv, by omega, by omega, by omega, by omega, by omega, d6, (-1 * x4.toInt) - 1, by omega, ?_, ?_⟩
    · rw [show x2.toInt = -1 by omega]
      omega
    · rw [show x3.toInt = 1 by omega]
      omega)
  exact ⟨p, fun _ => rfl, ⟨(fun q h => by cases h), fun q h => (by cases h), (aAllc ⟨_, rfl, r0⟩ (fun f h => by cases h)), (aAllc ⟨_, rfl, (rF_b (r := 6933) (by decide) rfl).mpr q0⟩ (fun f h => by cases h))⟩, [], List.mem_cons_self, fun f h => (by cases h)⟩
theorem rw_rwRYz {K : Nat → Nat} {n : Nat} {JX : (Nat → jcell) → Prop} : aGho (rF K n) fa_T K n JX ag_rwRYz := by
  refine aGho_of ⟨rfl, rfl⟩ ?_
  intro p σ ρ hH hX hA hM0
  have hG := aAG_of hA.1 (fun i e v he hv => (hA.2 i e v he hv).1)
  clear hA
  obtain ⟨v0, v1, v2, v3, v4, v5, v6, v7, rfl, g0, g1, g2, g3, g4, g5, g6, g7⟩ := rA_8 hG
  clear hG
  obtain ⟨x0, rfl, b0, d0⟩ := rG_ref (by decide) g0
  obtain ⟨x1, rfl, b1, d1⟩ := aG_int g1
  dsimp only at b1 d1
  obtain ⟨x2, rfl, b2, d2⟩ := aG_int g2
  dsimp only at b2 d2
  obtain ⟨x3, rfl, b3, d3⟩ := aG_int g3
  dsimp only at b3 d3
  obtain ⟨x4, rfl, b4, d4⟩ := aG_int g4
  dsimp only at b4 d4
  obtain ⟨x5, rfl, b5, d5⟩ := aG_int g5
  dsimp only at b5 d5
  obtain ⟨x6, rfl, b6, d6⟩ := aG_int g6
  dsimp only at b6 d6
  obtain ⟨x7, rfl, b7, d7⟩ := rG_ref (by decide) g7
  obtain ⟨m1, m2, m3, m4⟩ := hM0
  obtain ⟨T, hT⟩ := rTe_ex hH b0 d0
  obtain ⟨a0, c0, fs0, w0, e1, s0, t0, e4⟩ := m1 (0, 24, 7) (List.mem_of_getElem? (i := 0) rfl)
  obtain rfl : x0 = a0 := Sum.inl.inj (Option.some.inj (Sum.inr.inj (Sum.inr.inj (Option.some.inj (show some (rR x0) = some _ from e1)))))
  obtain rfl : rR x7 = w0 := Option.some.inj (show some (rR x7) = some w0 from e4)
  clear e1 e4
  obtain ⟨a, mc0, ty0, gc0, ic0, e1, sc0, jc0, e4, e5⟩ := m2 (7, ([(5, 1)], 0), 6) (List.mem_of_getElem? (i := 0) rfl)
  obtain rfl : x7 = a := Sum.inl.inj (Option.some.inj (Sum.inr.inj (Sum.inr.inj (Option.some.inj (show some (rR x7) = some _ from e1)))))
  obtain ⟨gc0, rfl⟩ : ∃ g, gc0 = .inl g := by
    rcases gc0 with g | g
    · exact ⟨g, rfl⟩
    · exact absurd (show some (rI x6) = some (.inr (.inl (g ic0))) from e5) (fun h => by cases h)
  have sc0 : σ x7 = .inl (ty0, mc0, .inl gc0) := sc0
  have ec0 : x6 = gc0 ic0 := Sum.inl.inj (Option.some.inj (show some (rI x6) = some _ from e5))
  have kc0 : (ic0 : Int) = (1 * x5.toInt + 0) + 0 := by
    obtain ⟨z, e6, e7⟩ := e4
    obtain rfl : (1 * x5.toInt + 0) = z := Option.some.inj (show some (1 * x5.toInt + 0) = some z from e6)
    exact e7
  clear e1 e4 e5
  have y0 : T x5.toInt = x6.toInt := rMg_c hT s0 t0 sc0 (by omega) (by omega) (by omega) ec0
  have f0 : rB K n p 400 [rR x0] σ := by
    obtain ⟨w, e6, e7⟩ := m4 (6401, [0]) (List.mem_of_getElem? (i := 0) rfl)
    obtain rfl : [rR x0] = w := Option.some.inj (show some [rR x0] = some w from e6)
    exact (rF_b (r := 6401) (by decide) rfl).mp e7
  obtain ⟨hp, hR⟩ := ro_400.mp f0
  obtain rfl := rMg_u hT hR.1
  have f1 : rB K n p 433 [rI x1, rI x2, rI x3, rI x4, rI x5] σ := by
    obtain ⟨w, e6, e7⟩ := m4 (6933, [1, 2, 3, 4, 5]) (List.mem_of_getElem? (i := 1) rfl)
    obtain rfl : [rI x1, rI x2, rI x3, rI x4, rI x5] = w := Option.some.inj (show some [rI x1, rI x2, rI x3, rI x4, rI x5] = some w from e6)
    exact (rF_b (r := 6933) (by decide) rfl).mp e7
  have f1 := ro_433.mp f1
  clear m1 m2 m3 m4
  have q0 : rB K n p 434 [rI x1, rI x2, rI x3, rI x4, rI x5] σ := ro_434.mpr (by
    exact ⟨f1, by omega⟩)
  exact ⟨p, fun _ => rfl, ⟨(fun q h => by cases h), fun q h => (by cases h), (fun f h => by cases h), (aAllc ⟨_, rfl, (rF_b (r := 6949) (by decide) rfl).mpr q0⟩ (fun f h => by cases h))⟩, [], List.mem_cons_self, fun f h => (by cases h)⟩
theorem rw_rwRYnu {K : Nat → Nat} {n : Nat} {JX : (Nat → jcell) → Prop} : aGho (rF K n) fa_T K n JX ag_rwRYnu := by
  refine aGho_of ⟨rfl, rfl⟩ ?_
  intro p σ ρ hH hX hA hM0
  have hG := aAG_of hA.1 (fun i e v he hv => (hA.2 i e v he hv).1)
  clear hA
  obtain ⟨v0, v1, v2, v3, v4, v5, rfl, g0, g1, g2, g3, g4, g5⟩ := rA_6 hG
  clear hG
  obtain ⟨x0, rfl, b0, d0⟩ := aG_int g0
  dsimp only at b0 d0
  obtain ⟨x1, rfl, b1, d1⟩ := aG_int g1
  dsimp only at b1 d1
  obtain ⟨x2, rfl, b2, d2⟩ := aG_int g2
  dsimp only at b2 d2
  obtain ⟨x3, rfl, b3, d3⟩ := aG_int g3
  dsimp only at b3 d3
  obtain ⟨x4, rfl, b4, d4⟩ := aG_int g4
  dsimp only at b4 d4
  obtain ⟨x5, rfl, b5, d5⟩ := aG_int g5
  dsimp only at b5 d5
  obtain ⟨m1, m2, m3, m4⟩ := hM0
  have l0 : 0 ≤ (1 * x4.toInt + (-1 * x1.toInt + 0)) + -1 := by
    obtain ⟨z, e6, e7⟩ := m3 ([(4, 1), (1, -1)], -1) (List.mem_of_getElem? (i := 0) rfl)
    obtain rfl : (1 * x4.toInt + (-1 * x1.toInt + 0)) = z := Option.some.inj (show some (1 * x4.toInt + (-1 * x1.toInt + 0)) = some z from e6)
    exact e7
  have f0 : rB K n p 434 [rI x0, rI x1, rI x2, rI x3, rI x4] σ := by
    obtain ⟨w, e6, e7⟩ := m4 (6949, [0, 1, 2, 3, 4]) (List.mem_of_getElem? (i := 0) rfl)
    obtain rfl : [rI x0, rI x1, rI x2, rI x3, rI x4] = w := Option.some.inj (show some [rI x0, rI x1, rI x2, rI x3, rI x4] = some w from e6)
    exact (rF_b (r := 6949) (by decide) rfl).mp e7
  have f0 := ro_434.mp f0
  have f1 : rB K n p 120 [rI x4, rI x2, rI x3, rI x5] σ := by
    obtain ⟨w, e6, e7⟩ := m4 (1924, [4, 2, 3, 5]) (List.mem_of_getElem? (i := 1) rfl)
    obtain rfl : [rI x4, rI x2, rI x3, rI x5] = w := Option.some.inj (show some [rI x4, rI x2, rI x3, rI x5] = some w from e6)
    exact (rF_b (r := 1924) (by decide) rfl).mp e7
  have f1 := ro_120.mp f1
  clear m1 m2 m3 m4
  have r0 : 0 ≤ (1 * x5.toInt + 0) + 0 := by
    obtain ⟨⟨k1, k2, k3, k4, k5, k6, k7, j, j0, j1, j2⟩, k8⟩ := f0
    have hf : x2.toInt = -1 ∨ x2.toInt = 0 ∨ x2.toInt = 1 := by omega
    have hr : x3.toInt = -1 ∨ x3.toInt = 0 ∨ x3.toInt = 1 := by omega
    have jn : 1 ≤ j := by
      by_cases cj : j = 0
      · rw [cj, Int.zero_mul] at j1 j2
        omega
      · omega
    have e : x5.toInt = x4.toInt + x2.toInt + 8 * x3.toInt := by
      rw [f1]
      unfold rSp
      rw [if_pos ?_]
      rcases hf with h | h | h <;> rcases hr with h2 | h2 | h2 <;> rw [h] at j1 <;> rw [h2] at j2 <;> rw [h, h2] <;> omega
    rcases hf with h | h | h <;> rcases hr with h2 | h2 | h2 <;> rw [h] at j1 e <;> rw [h2] at j2 e <;> omega
  have q0 : rB K n p 433 [rI x0, rI x1, rI x2, rI x3, rI x5] σ := ro_433.mpr (by
    obtain ⟨⟨k1, k2, k3, k4, k5, k6, k7, j, j0, j1, j2⟩, k8⟩ := f0
    have hf : x2.toInt = -1 ∨ x2.toInt = 0 ∨ x2.toInt = 1 := by omega
    have hr : x3.toInt = -1 ∨ x3.toInt = 0 ∨ x3.toInt = 1 := by omega
    have jn : 1 ≤ j := by
      by_cases cj : j = 0
      · rw [cj, Int.zero_mul] at j1 j2
        omega
      · omega
    have e : x5.toInt = x4.toInt + x2.toInt + 8 * x3.toInt := by
      rw [f1]
      unfold rSp
      rw [if_pos ?_]
      rcases hf with h | h | h <;> rcases hr with h2 | h2 | h2 <;> rw [h] at j1 <;> rw [h2] at j2 <;> rw [h, h2] <;> omega
    have h5 : 0 ≤ x5.toInt := by
      rcases hf with h | h | h <;> rcases hr with h2 | h2 | h2 <;> rw [h] at j1 e <;> rw [h2] at j2 e <;> omega
    have jf : (j - 1) * x2.toInt = j * x2.toInt - x2.toInt := by rw [Int.sub_mul, Int.one_mul]
    have jr : (j - 1) * x3.toInt = j * x3.toInt - x3.toInt := by rw [Int.sub_mul, Int.one_mul]
    refine ⟨fun v hv => k1 v (rWf_i.mpr ⟨k6, Or.inr ⟨k8, by rw [← f1]; exact hv⟩⟩), k2, k3, k4, k5, h5, d5, j - 1, by omega, ?_, ?_⟩
    · have h6 : x5.toInt % 8 = x4.toInt % 8 + x2.toInt := by
        rcases hf with h | h | h <;> rcases hr with h2 | h2 | h2 <;> rw [h] at j1 e ⊢ <;> rw [h2] at j2 e <;> omega
      omega
    · have h6 : x5.toInt / 8 = x4.toInt / 8 + x3.toInt := by
        rcases hf with h | h | h <;> rcases hr with h2 | h2 | h2 <;> rw [h] at j1 e <;> rw [h2] at j2 e ⊢ <;> omega
      omega)
  exact ⟨p, fun _ => rfl, ⟨(fun q h => by cases h), fun q h => (by cases h), (aAllc ⟨_, rfl, r0⟩ (fun f h => by cases h)), (aAllc ⟨_, rfl, (rF_b (r := 6933) (by decide) rfl).mpr q0⟩ (fun f h => by cases h))⟩, [], List.mem_cons_self, fun f h => (by cases h)⟩
theorem rw_rwRYnd {K : Nat → Nat} {n : Nat} {JX : (Nat → jcell) → Prop} : aGho (rF K n) fa_T K n JX ag_rwRYnd := by
  refine aGho_of ⟨rfl, rfl⟩ ?_
  intro p σ ρ hH hX hA hM0
  have hG := aAG_of hA.1 (fun i e v he hv => (hA.2 i e v he hv).1)
  clear hA
  obtain ⟨v0, v1, v2, v3, v4, v5, rfl, g0, g1, g2, g3, g4, g5⟩ := rA_6 hG
  clear hG
  obtain ⟨x0, rfl, b0, d0⟩ := aG_int g0
  dsimp only at b0 d0
  obtain ⟨x1, rfl, b1, d1⟩ := aG_int g1
  dsimp only at b1 d1
  obtain ⟨x2, rfl, b2, d2⟩ := aG_int g2
  dsimp only at b2 d2
  obtain ⟨x3, rfl, b3, d3⟩ := aG_int g3
  dsimp only at b3 d3
  obtain ⟨x4, rfl, b4, d4⟩ := aG_int g4
  dsimp only at b4 d4
  obtain ⟨x5, rfl, b5, d5⟩ := aG_int g5
  dsimp only at b5 d5
  obtain ⟨m1, m2, m3, m4⟩ := hM0
  have l0 : 0 ≤ (-1 * x4.toInt + (1 * x1.toInt + 0)) + -1 := by
    obtain ⟨z, e6, e7⟩ := m3 ([(4, -1), (1, 1)], -1) (List.mem_of_getElem? (i := 0) rfl)
    obtain rfl : (-1 * x4.toInt + (1 * x1.toInt + 0)) = z := Option.some.inj (show some (-1 * x4.toInt + (1 * x1.toInt + 0)) = some z from e6)
    exact e7
  have f0 : rB K n p 434 [rI x0, rI x1, rI x2, rI x3, rI x4] σ := by
    obtain ⟨w, e6, e7⟩ := m4 (6949, [0, 1, 2, 3, 4]) (List.mem_of_getElem? (i := 0) rfl)
    obtain rfl : [rI x0, rI x1, rI x2, rI x3, rI x4] = w := Option.some.inj (show some [rI x0, rI x1, rI x2, rI x3, rI x4] = some w from e6)
    exact (rF_b (r := 6949) (by decide) rfl).mp e7
  have f0 := ro_434.mp f0
  have f1 : rB K n p 120 [rI x4, rI x2, rI x3, rI x5] σ := by
    obtain ⟨w, e6, e7⟩ := m4 (1924, [4, 2, 3, 5]) (List.mem_of_getElem? (i := 1) rfl)
    obtain rfl : [rI x4, rI x2, rI x3, rI x5] = w := Option.some.inj (show some [rI x4, rI x2, rI x3, rI x5] = some w from e6)
    exact (rF_b (r := 1924) (by decide) rfl).mp e7
  have f1 := ro_120.mp f1
  clear m1 m2 m3 m4
  have r0 : 0 ≤ (1 * x5.toInt + 0) + 0 := by
    obtain ⟨⟨k1, k2, k3, k4, k5, k6, k7, j, j0, j1, j2⟩, k8⟩ := f0
    have hf : x2.toInt = -1 ∨ x2.toInt = 0 ∨ x2.toInt = 1 := by omega
    have hr : x3.toInt = -1 ∨ x3.toInt = 0 ∨ x3.toInt = 1 := by omega
    have jn : 1 ≤ j := by
      by_cases cj : j = 0
      · rw [cj, Int.zero_mul] at j1 j2
        omega
      · omega
    have e : x5.toInt = x4.toInt + x2.toInt + 8 * x3.toInt := by
      rw [f1]
      unfold rSp
      rw [if_pos ?_]
      rcases hf with h | h | h <;> rcases hr with h2 | h2 | h2 <;> rw [h] at j1 <;> rw [h2] at j2 <;> rw [h, h2] <;> omega
    rcases hf with h | h | h <;> rcases hr with h2 | h2 | h2 <;> rw [h] at j1 e <;> rw [h2] at j2 e <;> omega
  have q0 : rB K n p 433 [rI x0, rI x1, rI x2, rI x3, rI x5] σ := ro_433.mpr (by
    obtain ⟨⟨k1, k2, k3, k4, k5, k6, k7, j, j0, j1, j2⟩, k8⟩ := f0
    have hf : x2.toInt = -1 ∨ x2.toInt = 0 ∨ x2.toInt = 1 := by omega
    have hr : x3.toInt = -1 ∨ x3.toInt = 0 ∨ x3.toInt = 1 := by omega
    have jn : 1 ≤ j := by
      by_cases cj : j = 0
      · rw [cj, Int.zero_mul] at j1 j2
        omega
      · omega
    have e : x5.toInt = x4.toInt + x2.toInt + 8 * x3.toInt := by
      rw [f1]
      unfold rSp
      rw [if_pos ?_]
      rcases hf with h | h | h <;> rcases hr with h2 | h2 | h2 <;> rw [h] at j1 <;> rw [h2] at j2 <;> rw [h, h2] <;> omega
    have h5 : 0 ≤ x5.toInt := by
      rcases hf with h | h | h <;> rcases hr with h2 | h2 | h2 <;> rw [h] at j1 e <;> rw [h2] at j2 e <;> omega
    have jf : (j - 1) * x2.toInt = j * x2.toInt - x2.toInt := by rw [Int.sub_mul, Int.one_mul]
    have jr : (j - 1) * x3.toInt = j * x3.toInt - x3.toInt := by rw [Int.sub_mul, Int.one_mul]
    refine ⟨fun v hv => k1 v (rWf_i.mpr ⟨k6, Or.inr ⟨k8, by rw [← f1]; exact hv⟩⟩), k2, k3, k4, k5, h5, d5, j - 1, by omega, ?_, ?_⟩
    · have h6 : x5.toInt % 8 = x4.toInt % 8 + x2.toInt := by
        rcases hf with h | h | h <;> rcases hr with h2 | h2 | h2 <;> rw [h] at j1 e ⊢ <;> rw [h2] at j2 e <;> omega
      omega
    · have h6 : x5.toInt / 8 = x4.toInt / 8 + x3.toInt := by
        rcases hf with h | h | h <;> rcases hr with h2 | h2 | h2 <;> rw [h] at j1 e <;> rw [h2] at j2 e ⊢ <;> omega
      omega)
  exact ⟨p, fun _ => rfl, ⟨(fun q h => by cases h), fun q h => (by cases h), (aAllc ⟨_, rfl, r0⟩ (fun f h => by cases h)), (aAllc ⟨_, rfl, (rF_b (r := 6933) (by decide) rfl).mpr q0⟩ (fun f h => by cases h))⟩, [], List.mem_cons_self, fun f h => (by cases h)⟩
theorem rw_rwGD34 {K : Nat → Nat} {n : Nat} {JX : (Nat → jcell) → Prop} : aGho (rF K n) fa_T K n JX ag_rwGD34 := by
  refine aGho_of ⟨rfl, rfl⟩ ?_
  intro p σ ρ hH hX hA hM0
  have hG := aAG_of hA.1 (fun i e v he hv => (hA.2 i e v he hv).1)
  clear hA
  obtain ⟨v0, v1, v2, v3, rfl, g0, g1, g2, g3⟩ := rA_4 hG
  clear hG
  obtain ⟨x0, rfl, b0, d0⟩ := aG_int g0
  dsimp only at b0 d0
  obtain ⟨x1, rfl, b1, d1⟩ := aG_int g1
  dsimp only at b1 d1
  obtain ⟨x2, rfl, b2, d2⟩ := aG_int g2
  dsimp only at b2 d2
  obtain ⟨x3, rfl, b3, d3⟩ := aG_int g3
  dsimp only at b3 d3
  obtain ⟨m1, m2, m3, m4⟩ := hM0
  have f0 : rB K n p 432 [rI x0, rI x1] σ := by
    obtain ⟨w, e6, e7⟩ := m4 (6914, [0, 1]) (List.mem_of_getElem? (i := 0) rfl)
    obtain rfl : [rI x0, rI x1] = w := Option.some.inj (show some [rI x0, rI x1] = some w from e6)
    exact (rF_b (r := 6914) (by decide) rfl).mp e7
  have f0 := ro_432.mp f0
  clear m1 m2 m3 m4
  have q0 : rB K n p 445 [rI x0, rI x2, rI x3] σ := ro_445.mpr (by
    have h := f0.2
    unfold rSl
    rw [show x2.toInt = 1 by omega, show x3.toInt = 1 by omega]
    omega)
  exact ⟨p, fun _ => rfl, ⟨(fun q h => by cases h), fun q h => (by cases h), (fun f h => by cases h), (aAllc ⟨_, rfl, (rF_b (r := 7123) (by decide) rfl).mpr q0⟩ (fun f h => by cases h))⟩, [], List.mem_cons_self, fun f h => (by cases h)⟩
theorem rw_rwGD35 {K : Nat → Nat} {n : Nat} {JX : (Nat → jcell) → Prop} : aGho (rF K n) fa_T K n JX ag_rwGD35 := by
  refine aGho_of ⟨rfl, rfl⟩ ?_
  intro p σ ρ hH hX hA hM0
  have hG := aAG_of hA.1 (fun i e v he hv => (hA.2 i e v he hv).1)
  clear hA
  obtain ⟨v0, v1, v2, v3, rfl, g0, g1, g2, g3⟩ := rA_4 hG
  clear hG
  obtain ⟨x0, rfl, b0, d0⟩ := aG_int g0
  dsimp only at b0 d0
  obtain ⟨x1, rfl, b1, d1⟩ := aG_int g1
  dsimp only at b1 d1
  obtain ⟨x2, rfl, b2, d2⟩ := aG_int g2
  dsimp only at b2 d2
  obtain ⟨x3, rfl, b3, d3⟩ := aG_int g3
  dsimp only at b3 d3
  obtain ⟨m1, m2, m3, m4⟩ := hM0
  have f0 : rB K n p 432 [rI x0, rI x1] σ := by
    obtain ⟨w, e6, e7⟩ := m4 (6914, [0, 1]) (List.mem_of_getElem? (i := 0) rfl)
    obtain rfl : [rI x0, rI x1] = w := Option.some.inj (show some [rI x0, rI x1] = some w from e6)
    exact (rF_b (r := 6914) (by decide) rfl).mp e7
  have f0 := ro_432.mp f0
  clear m1 m2 m3 m4
  have q0 : rB K n p 445 [rI x0, rI x2, rI x3] σ := ro_445.mpr (by
    have h := f0.2
    unfold rSl
    rw [show x2.toInt = -1 by omega, show x3.toInt = -1 by omega]
    omega)
  exact ⟨p, fun _ => rfl, ⟨(fun q h => by cases h), fun q h => (by cases h), (fun f h => by cases h), (aAllc ⟨_, rfl, (rF_b (r := 7123) (by decide) rfl).mpr q0⟩ (fun f h => by cases h))⟩, [], List.mem_cons_self, fun f h => (by cases h)⟩
theorem rw_rwGD36 {K : Nat → Nat} {n : Nat} {JX : (Nat → jcell) → Prop} : aGho (rF K n) fa_T K n JX ag_rwGD36 := by
  refine aGho_of ⟨rfl, rfl⟩ ?_
  intro p σ ρ hH hX hA hM0
  have hG := aAG_of hA.1 (fun i e v he hv => (hA.2 i e v he hv).1)
  clear hA
  obtain ⟨v0, v1, v2, v3, rfl, g0, g1, g2, g3⟩ := rA_4 hG
  clear hG
  obtain ⟨x0, rfl, b0, d0⟩ := aG_int g0
  dsimp only at b0 d0
  obtain ⟨x1, rfl, b1, d1⟩ := aG_int g1
  dsimp only at b1 d1
  obtain ⟨x2, rfl, b2, d2⟩ := aG_int g2
  dsimp only at b2 d2
  obtain ⟨x3, rfl, b3, d3⟩ := aG_int g3
  dsimp only at b3 d3
  obtain ⟨m1, m2, m3, m4⟩ := hM0
  have f0 : rB K n p 432 [rI x0, rI x1] σ := by
    obtain ⟨w, e6, e7⟩ := m4 (6914, [0, 1]) (List.mem_of_getElem? (i := 0) rfl)
    obtain rfl : [rI x0, rI x1] = w := Option.some.inj (show some [rI x0, rI x1] = some w from e6)
    exact (rF_b (r := 6914) (by decide) rfl).mp e7
  have f0 := ro_432.mp f0
  clear m1 m2 m3 m4
  have q0 : rB K n p 445 [rI x0, rI x2, rI x3] σ := ro_445.mpr (by
    have h := f0.2
    unfold rSl
    rw [show x2.toInt = 1 by omega, show x3.toInt = -1 by omega]
    omega)
  exact ⟨p, fun _ => rfl, ⟨(fun q h => by cases h), fun q h => (by cases h), (fun f h => by cases h), (aAllc ⟨_, rfl, (rF_b (r := 7123) (by decide) rfl).mpr q0⟩ (fun f h => by cases h))⟩, [], List.mem_cons_self, fun f h => (by cases h)⟩
theorem rw_rwGD37 {K : Nat → Nat} {n : Nat} {JX : (Nat → jcell) → Prop} : aGho (rF K n) fa_T K n JX ag_rwGD37 := by
  refine aGho_of ⟨rfl, rfl⟩ ?_
  intro p σ ρ hH hX hA hM0
  have hG := aAG_of hA.1 (fun i e v he hv => (hA.2 i e v he hv).1)
  clear hA
  obtain ⟨v0, v1, v2, v3, rfl, g0, g1, g2, g3⟩ := rA_4 hG
  clear hG
  obtain ⟨x0, rfl, b0, d0⟩ := aG_int g0
  dsimp only at b0 d0
  obtain ⟨x1, rfl, b1, d1⟩ := aG_int g1
  dsimp only at b1 d1
  obtain ⟨x2, rfl, b2, d2⟩ := aG_int g2
  dsimp only at b2 d2
  obtain ⟨x3, rfl, b3, d3⟩ := aG_int g3
  dsimp only at b3 d3
  obtain ⟨m1, m2, m3, m4⟩ := hM0
  have f0 : rB K n p 432 [rI x0, rI x1] σ := by
    obtain ⟨w, e6, e7⟩ := m4 (6914, [0, 1]) (List.mem_of_getElem? (i := 0) rfl)
    obtain rfl : [rI x0, rI x1] = w := Option.some.inj (show some [rI x0, rI x1] = some w from e6)
    exact (rF_b (r := 6914) (by decide) rfl).mp e7
  have f0 := ro_432.mp f0
  clear m1 m2 m3 m4
  have q0 : rB K n p 445 [rI x0, rI x2, rI x3] σ := ro_445.mpr (by
    have h := f0.2
    unfold rSl
    rw [show x2.toInt = -1 by omega, show x3.toInt = 1 by omega]
    omega)
  exact ⟨p, fun _ => rfl, ⟨(fun q h => by cases h), fun q h => (by cases h), (fun f h => by cases h), (aAllc ⟨_, rfl, (rF_b (r := 7123) (by decide) rfl).mpr q0⟩ (fun f h => by cases h))⟩, [], List.mem_cons_self, fun f h => (by cases h)⟩
theorem rw_rwGD40 {K : Nat → Nat} {n : Nat} {JX : (Nat → jcell) → Prop} : aGho (rF K n) fa_T K n JX ag_rwGD40 := by
  refine aGho_of ⟨rfl, rfl⟩ ?_
  intro p σ ρ hH hX hA hM0
  have hG := aAG_of hA.1 (fun i e v he hv => (hA.2 i e v he hv).1)
  clear hA
  obtain ⟨v0, v1, v2, v3, rfl, g0, g1, g2, g3⟩ := rA_4 hG
  clear hG
  obtain ⟨x0, rfl, b0, d0⟩ := aG_int g0
  dsimp only at b0 d0
  obtain ⟨x1, rfl, b1, d1⟩ := aG_int g1
  dsimp only at b1 d1
  obtain ⟨x2, rfl, b2, d2⟩ := aG_int g2
  dsimp only at b2 d2
  obtain ⟨x3, rfl, b3, d3⟩ := aG_int g3
  dsimp only at b3 d3
  obtain ⟨m1, m2, m3, m4⟩ := hM0
  have f0 : rB K n p 432 [rI x0, rI x1] σ := by
    obtain ⟨w, e6, e7⟩ := m4 (6914, [0, 1]) (List.mem_of_getElem? (i := 0) rfl)
    obtain rfl : [rI x0, rI x1] = w := Option.some.inj (show some [rI x0, rI x1] = some w from e6)
    exact (rF_b (r := 6914) (by decide) rfl).mp e7
  have f0 := ro_432.mp f0
  clear m1 m2 m3 m4
  have q0 : rB K n p 445 [rI x0, rI x2, rI x3] σ := ro_445.mpr (by
    have h := f0.2
    unfold rSl
    rw [show x2.toInt = 0 by omega, show x3.toInt = 1 by omega]
    omega)
  exact ⟨p, fun _ => rfl, ⟨(fun q h => by cases h), fun q h => (by cases h), (fun f h => by cases h), (aAllc ⟨_, rfl, (rF_b (r := 7123) (by decide) rfl).mpr q0⟩ (fun f h => by cases h))⟩, [], List.mem_cons_self, fun f h => (by cases h)⟩
theorem rw_rwGD41 {K : Nat → Nat} {n : Nat} {JX : (Nat → jcell) → Prop} : aGho (rF K n) fa_T K n JX ag_rwGD41 := by
  refine aGho_of ⟨rfl, rfl⟩ ?_
  intro p σ ρ hH hX hA hM0
  have hG := aAG_of hA.1 (fun i e v he hv => (hA.2 i e v he hv).1)
  clear hA
  obtain ⟨v0, v1, v2, v3, rfl, g0, g1, g2, g3⟩ := rA_4 hG
  clear hG
  obtain ⟨x0, rfl, b0, d0⟩ := aG_int g0
  dsimp only at b0 d0
  obtain ⟨x1, rfl, b1, d1⟩ := aG_int g1
  dsimp only at b1 d1
  obtain ⟨x2, rfl, b2, d2⟩ := aG_int g2
  dsimp only at b2 d2
  obtain ⟨x3, rfl, b3, d3⟩ := aG_int g3
  dsimp only at b3 d3
  obtain ⟨m1, m2, m3, m4⟩ := hM0
  have f0 : rB K n p 432 [rI x0, rI x1] σ := by
    obtain ⟨w, e6, e7⟩ := m4 (6914, [0, 1]) (List.mem_of_getElem? (i := 0) rfl)
    obtain rfl : [rI x0, rI x1] = w := Option.some.inj (show some [rI x0, rI x1] = some w from e6)
    exact (rF_b (r := 6914) (by decide) rfl).mp e7
  have f0 := ro_432.mp f0
  clear m1 m2 m3 m4
  have q0 : rB K n p 445 [rI x0, rI x2, rI x3] σ := ro_445.mpr (by
    have h := f0.2
    unfold rSl
    rw [show x2.toInt = 0 by omega, show x3.toInt = -1 by omega]
    omega)
  exact ⟨p, fun _ => rfl, ⟨(fun q h => by cases h), fun q h => (by cases h), (fun f h => by cases h), (aAllc ⟨_, rfl, (rF_b (r := 7123) (by decide) rfl).mpr q0⟩ (fun f h => by cases h))⟩, [], List.mem_cons_self, fun f h => (by cases h)⟩
theorem rw_rwGD42 {K : Nat → Nat} {n : Nat} {JX : (Nat → jcell) → Prop} : aGho (rF K n) fa_T K n JX ag_rwGD42 := by
  refine aGho_of ⟨rfl, rfl⟩ ?_
  intro p σ ρ hH hX hA hM0
  have hG := aAG_of hA.1 (fun i e v he hv => (hA.2 i e v he hv).1)
  clear hA
  obtain ⟨v0, v1, v2, v3, rfl, g0, g1, g2, g3⟩ := rA_4 hG
  clear hG
  obtain ⟨x0, rfl, b0, d0⟩ := aG_int g0
  dsimp only at b0 d0
  obtain ⟨x1, rfl, b1, d1⟩ := aG_int g1
  dsimp only at b1 d1
  obtain ⟨x2, rfl, b2, d2⟩ := aG_int g2
  dsimp only at b2 d2
  obtain ⟨x3, rfl, b3, d3⟩ := aG_int g3
  dsimp only at b3 d3
  obtain ⟨m1, m2, m3, m4⟩ := hM0
  have f0 : rB K n p 432 [rI x0, rI x1] σ := by
    obtain ⟨w, e6, e7⟩ := m4 (6914, [0, 1]) (List.mem_of_getElem? (i := 0) rfl)
    obtain rfl : [rI x0, rI x1] = w := Option.some.inj (show some [rI x0, rI x1] = some w from e6)
    exact (rF_b (r := 6914) (by decide) rfl).mp e7
  have f0 := ro_432.mp f0
  clear m1 m2 m3 m4
  have q0 : rB K n p 445 [rI x0, rI x2, rI x3] σ := ro_445.mpr (by
    have h := f0.2
    unfold rSl
    rw [show x2.toInt = 1 by omega, show x3.toInt = 0 by omega]
    omega)
  exact ⟨p, fun _ => rfl, ⟨(fun q h => by cases h), fun q h => (by cases h), (fun f h => by cases h), (aAllc ⟨_, rfl, (rF_b (r := 7123) (by decide) rfl).mpr q0⟩ (fun f h => by cases h))⟩, [], List.mem_cons_self, fun f h => (by cases h)⟩
theorem rw_rwGD43 {K : Nat → Nat} {n : Nat} {JX : (Nat → jcell) → Prop} : aGho (rF K n) fa_T K n JX ag_rwGD43 := by
  refine aGho_of ⟨rfl, rfl⟩ ?_
  intro p σ ρ hH hX hA hM0
  have hG := aAG_of hA.1 (fun i e v he hv => (hA.2 i e v he hv).1)
  clear hA
  obtain ⟨v0, v1, v2, v3, rfl, g0, g1, g2, g3⟩ := rA_4 hG
  clear hG
  obtain ⟨x0, rfl, b0, d0⟩ := aG_int g0
  dsimp only at b0 d0
  obtain ⟨x1, rfl, b1, d1⟩ := aG_int g1
  dsimp only at b1 d1
  obtain ⟨x2, rfl, b2, d2⟩ := aG_int g2
  dsimp only at b2 d2
  obtain ⟨x3, rfl, b3, d3⟩ := aG_int g3
  dsimp only at b3 d3
  obtain ⟨m1, m2, m3, m4⟩ := hM0
  have f0 : rB K n p 432 [rI x0, rI x1] σ := by
    obtain ⟨w, e6, e7⟩ := m4 (6914, [0, 1]) (List.mem_of_getElem? (i := 0) rfl)
    obtain rfl : [rI x0, rI x1] = w := Option.some.inj (show some [rI x0, rI x1] = some w from e6)
    exact (rF_b (r := 6914) (by decide) rfl).mp e7
  have f0 := ro_432.mp f0
  clear m1 m2 m3 m4
  have q0 : rB K n p 445 [rI x0, rI x2, rI x3] σ := ro_445.mpr (by
    have h := f0.2
    unfold rSl
    rw [show x2.toInt = -1 by omega, show x3.toInt = 0 by omega]
    omega)
  exact ⟨p, fun _ => rfl, ⟨(fun q h => by cases h), fun q h => (by cases h), (fun f h => by cases h), (aAllc ⟨_, rfl, (rF_b (r := 7123) (by decide) rfl).mpr q0⟩ (fun f h => by cases h))⟩, [], List.mem_cons_self, fun f h => (by cases h)⟩
theorem rw_rwGD50 {K : Nat → Nat} {n : Nat} {JX : (Nat → jcell) → Prop} : aGho (rF K n) fa_T K n JX ag_rwGD50 := by
  refine aGho_of ⟨rfl, rfl⟩ ?_
  intro p σ ρ hH hX hA hM0
  have hG := aAG_of hA.1 (fun i e v he hv => (hA.2 i e v he hv).1)
  clear hA
  obtain ⟨v0, v1, v2, v3, rfl, g0, g1, g2, g3⟩ := rA_4 hG
  clear hG
  obtain ⟨x0, rfl, b0, d0⟩ := aG_int g0
  dsimp only at b0 d0
  obtain ⟨x1, rfl, b1, d1⟩ := aG_int g1
  dsimp only at b1 d1
  obtain ⟨x2, rfl, b2, d2⟩ := aG_int g2
  dsimp only at b2 d2
  obtain ⟨x3, rfl, b3, d3⟩ := aG_int g3
  dsimp only at b3 d3
  obtain ⟨m1, m2, m3, m4⟩ := hM0
  have f0 : rB K n p 432 [rI x0, rI x1] σ := by
    obtain ⟨w, e6, e7⟩ := m4 (6914, [0, 1]) (List.mem_of_getElem? (i := 0) rfl)
    obtain rfl : [rI x0, rI x1] = w := Option.some.inj (show some [rI x0, rI x1] = some w from e6)
    exact (rF_b (r := 6914) (by decide) rfl).mp e7
  have f0 := ro_432.mp f0
  clear m1 m2 m3 m4
  have q0 : rB K n p 445 [rI x0, rI x2, rI x3] σ := ro_445.mpr (by
    have h := f0.2
    unfold rSl
    rw [show x2.toInt = 0 by omega, show x3.toInt = 1 by omega]
    omega)
  exact ⟨p, fun _ => rfl, ⟨(fun q h => by cases h), fun q h => (by cases h), (fun f h => by cases h), (aAllc ⟨_, rfl, (rF_b (r := 7123) (by decide) rfl).mpr q0⟩ (fun f h => by cases h))⟩, [], List.mem_cons_self, fun f h => (by cases h)⟩
theorem rw_rwGD51 {K : Nat → Nat} {n : Nat} {JX : (Nat → jcell) → Prop} : aGho (rF K n) fa_T K n JX ag_rwGD51 := by
  refine aGho_of ⟨rfl, rfl⟩ ?_
  intro p σ ρ hH hX hA hM0
  have hG := aAG_of hA.1 (fun i e v he hv => (hA.2 i e v he hv).1)
  clear hA
  obtain ⟨v0, v1, v2, v3, rfl, g0, g1, g2, g3⟩ := rA_4 hG
  clear hG
  obtain ⟨x0, rfl, b0, d0⟩ := aG_int g0
  dsimp only at b0 d0
  obtain ⟨x1, rfl, b1, d1⟩ := aG_int g1
  dsimp only at b1 d1
  obtain ⟨x2, rfl, b2, d2⟩ := aG_int g2
  dsimp only at b2 d2
  obtain ⟨x3, rfl, b3, d3⟩ := aG_int g3
  dsimp only at b3 d3
  obtain ⟨m1, m2, m3, m4⟩ := hM0
  have f0 : rB K n p 432 [rI x0, rI x1] σ := by
    obtain ⟨w, e6, e7⟩ := m4 (6914, [0, 1]) (List.mem_of_getElem? (i := 0) rfl)
    obtain rfl : [rI x0, rI x1] = w := Option.some.inj (show some [rI x0, rI x1] = some w from e6)
    exact (rF_b (r := 6914) (by decide) rfl).mp e7
  have f0 := ro_432.mp f0
  clear m1 m2 m3 m4
  have q0 : rB K n p 445 [rI x0, rI x2, rI x3] σ := ro_445.mpr (by
    have h := f0.2
    unfold rSl
    rw [show x2.toInt = 0 by omega, show x3.toInt = -1 by omega]
    omega)
  exact ⟨p, fun _ => rfl, ⟨(fun q h => by cases h), fun q h => (by cases h), (fun f h => by cases h), (aAllc ⟨_, rfl, (rF_b (r := 7123) (by decide) rfl).mpr q0⟩ (fun f h => by cases h))⟩, [], List.mem_cons_self, fun f h => (by cases h)⟩
theorem rw_rwGD52 {K : Nat → Nat} {n : Nat} {JX : (Nat → jcell) → Prop} : aGho (rF K n) fa_T K n JX ag_rwGD52 := by
  refine aGho_of ⟨rfl, rfl⟩ ?_
  intro p σ ρ hH hX hA hM0
  have hG := aAG_of hA.1 (fun i e v he hv => (hA.2 i e v he hv).1)
  clear hA
  obtain ⟨v0, v1, v2, v3, rfl, g0, g1, g2, g3⟩ := rA_4 hG
  clear hG
  obtain ⟨x0, rfl, b0, d0⟩ := aG_int g0
  dsimp only at b0 d0
  obtain ⟨x1, rfl, b1, d1⟩ := aG_int g1
  dsimp only at b1 d1
  obtain ⟨x2, rfl, b2, d2⟩ := aG_int g2
  dsimp only at b2 d2
  obtain ⟨x3, rfl, b3, d3⟩ := aG_int g3
  dsimp only at b3 d3
  obtain ⟨m1, m2, m3, m4⟩ := hM0
  have f0 : rB K n p 432 [rI x0, rI x1] σ := by
    obtain ⟨w, e6, e7⟩ := m4 (6914, [0, 1]) (List.mem_of_getElem? (i := 0) rfl)
    obtain rfl : [rI x0, rI x1] = w := Option.some.inj (show some [rI x0, rI x1] = some w from e6)
    exact (rF_b (r := 6914) (by decide) rfl).mp e7
  have f0 := ro_432.mp f0
  clear m1 m2 m3 m4
  have q0 : rB K n p 445 [rI x0, rI x2, rI x3] σ := ro_445.mpr (by
    have h := f0.2
    unfold rSl
    rw [show x2.toInt = 1 by omega, show x3.toInt = 0 by omega]
    omega)
  exact ⟨p, fun _ => rfl, ⟨(fun q h => by cases h), fun q h => (by cases h), (fun f h => by cases h), (aAllc ⟨_, rfl, (rF_b (r := 7123) (by decide) rfl).mpr q0⟩ (fun f h => by cases h))⟩, [], List.mem_cons_self, fun f h => (by cases h)⟩
theorem rw_rwGD53 {K : Nat → Nat} {n : Nat} {JX : (Nat → jcell) → Prop} : aGho (rF K n) fa_T K n JX ag_rwGD53 := by
  refine aGho_of ⟨rfl, rfl⟩ ?_
  intro p σ ρ hH hX hA hM0
  have hG := aAG_of hA.1 (fun i e v he hv => (hA.2 i e v he hv).1)
  clear hA
  obtain ⟨v0, v1, v2, v3, rfl, g0, g1, g2, g3⟩ := rA_4 hG
  clear hG
  obtain ⟨x0, rfl, b0, d0⟩ := aG_int g0
  dsimp only at b0 d0
  obtain ⟨x1, rfl, b1, d1⟩ := aG_int g1
  dsimp only at b1 d1
  obtain ⟨x2, rfl, b2, d2⟩ := aG_int g2
  dsimp only at b2 d2
  obtain ⟨x3, rfl, b3, d3⟩ := aG_int g3
  dsimp only at b3 d3
  obtain ⟨m1, m2, m3, m4⟩ := hM0
  have f0 : rB K n p 432 [rI x0, rI x1] σ := by
    obtain ⟨w, e6, e7⟩ := m4 (6914, [0, 1]) (List.mem_of_getElem? (i := 0) rfl)
    obtain rfl : [rI x0, rI x1] = w := Option.some.inj (show some [rI x0, rI x1] = some w from e6)
    exact (rF_b (r := 6914) (by decide) rfl).mp e7
  have f0 := ro_432.mp f0
  clear m1 m2 m3 m4
  have q0 : rB K n p 445 [rI x0, rI x2, rI x3] σ := ro_445.mpr (by
    have h := f0.2
    unfold rSl
    rw [show x2.toInt = -1 by omega, show x3.toInt = 0 by omega]
    omega)
  exact ⟨p, fun _ => rfl, ⟨(fun q h => by cases h), fun q h => (by cases h), (fun f h => by cases h), (aAllc ⟨_, rfl, (rF_b (r := 7123) (by decide) rfl).mpr q0⟩ (fun f h => by cases h))⟩, [], List.mem_cons_self, fun f h => (by cases h)⟩
theorem rw_rwGD54 {K : Nat → Nat} {n : Nat} {JX : (Nat → jcell) → Prop} : aGho (rF K n) fa_T K n JX ag_rwGD54 := by
  refine aGho_of ⟨rfl, rfl⟩ ?_
  intro p σ ρ hH hX hA hM0
  have hG := aAG_of hA.1 (fun i e v he hv => (hA.2 i e v he hv).1)
  clear hA
  obtain ⟨v0, v1, v2, v3, rfl, g0, g1, g2, g3⟩ := rA_4 hG
  clear hG
  obtain ⟨x0, rfl, b0, d0⟩ := aG_int g0
  dsimp only at b0 d0
  obtain ⟨x1, rfl, b1, d1⟩ := aG_int g1
  dsimp only at b1 d1
  obtain ⟨x2, rfl, b2, d2⟩ := aG_int g2
  dsimp only at b2 d2
  obtain ⟨x3, rfl, b3, d3⟩ := aG_int g3
  dsimp only at b3 d3
  obtain ⟨m1, m2, m3, m4⟩ := hM0
  have f0 : rB K n p 432 [rI x0, rI x1] σ := by
    obtain ⟨w, e6, e7⟩ := m4 (6914, [0, 1]) (List.mem_of_getElem? (i := 0) rfl)
    obtain rfl : [rI x0, rI x1] = w := Option.some.inj (show some [rI x0, rI x1] = some w from e6)
    exact (rF_b (r := 6914) (by decide) rfl).mp e7
  have f0 := ro_432.mp f0
  clear m1 m2 m3 m4
  have q0 : rB K n p 445 [rI x0, rI x2, rI x3] σ := ro_445.mpr (by
    have h := f0.2
    unfold rSl
    rw [show x2.toInt = 1 by omega, show x3.toInt = 1 by omega]
    omega)
  exact ⟨p, fun _ => rfl, ⟨(fun q h => by cases h), fun q h => (by cases h), (fun f h => by cases h), (aAllc ⟨_, rfl, (rF_b (r := 7123) (by decide) rfl).mpr q0⟩ (fun f h => by cases h))⟩, [], List.mem_cons_self, fun f h => (by cases h)⟩
theorem rw_rwGD55 {K : Nat → Nat} {n : Nat} {JX : (Nat → jcell) → Prop} : aGho (rF K n) fa_T K n JX ag_rwGD55 := by
  refine aGho_of ⟨rfl, rfl⟩ ?_
  intro p σ ρ hH hX hA hM0
  have hG := aAG_of hA.1 (fun i e v he hv => (hA.2 i e v he hv).1)
  clear hA
  obtain ⟨v0, v1, v2, v3, rfl, g0, g1, g2, g3⟩ := rA_4 hG
  clear hG
  obtain ⟨x0, rfl, b0, d0⟩ := aG_int g0
  dsimp only at b0 d0
  obtain ⟨x1, rfl, b1, d1⟩ := aG_int g1
  dsimp only at b1 d1
  obtain ⟨x2, rfl, b2, d2⟩ := aG_int g2
  dsimp only at b2 d2
  obtain ⟨x3, rfl, b3, d3⟩ := aG_int g3
  dsimp only at b3 d3
  obtain ⟨m1, m2, m3, m4⟩ := hM0
  have f0 : rB K n p 432 [rI x0, rI x1] σ := by
    obtain ⟨w, e6, e7⟩ := m4 (6914, [0, 1]) (List.mem_of_getElem? (i := 0) rfl)
    obtain rfl : [rI x0, rI x1] = w := Option.some.inj (show some [rI x0, rI x1] = some w from e6)
    exact (rF_b (r := 6914) (by decide) rfl).mp e7
  have f0 := ro_432.mp f0
  clear m1 m2 m3 m4
  have q0 : rB K n p 445 [rI x0, rI x2, rI x3] σ := ro_445.mpr (by
    have h := f0.2
    unfold rSl
    rw [show x2.toInt = -1 by omega, show x3.toInt = -1 by omega]
    omega)
  exact ⟨p, fun _ => rfl, ⟨(fun q h => by cases h), fun q h => (by cases h), (fun f h => by cases h), (aAllc ⟨_, rfl, (rF_b (r := 7123) (by decide) rfl).mpr q0⟩ (fun f h => by cases h))⟩, [], List.mem_cons_self, fun f h => (by cases h)⟩
theorem rw_rwGD56 {K : Nat → Nat} {n : Nat} {JX : (Nat → jcell) → Prop} : aGho (rF K n) fa_T K n JX ag_rwGD56 := by
  refine aGho_of ⟨rfl, rfl⟩ ?_
  intro p σ ρ hH hX hA hM0
  have hG := aAG_of hA.1 (fun i e v he hv => (hA.2 i e v he hv).1)
  clear hA
  obtain ⟨v0, v1, v2, v3, rfl, g0, g1, g2, g3⟩ := rA_4 hG
  clear hG
  obtain ⟨x0, rfl, b0, d0⟩ := aG_int g0
  dsimp only at b0 d0
  obtain ⟨x1, rfl, b1, d1⟩ := aG_int g1
  dsimp only at b1 d1
  obtain ⟨x2, rfl, b2, d2⟩ := aG_int g2
  dsimp only at b2 d2
  obtain ⟨x3, rfl, b3, d3⟩ := aG_int g3
  dsimp only at b3 d3
  obtain ⟨m1, m2, m3, m4⟩ := hM0
  have f0 : rB K n p 432 [rI x0, rI x1] σ := by
    obtain ⟨w, e6, e7⟩ := m4 (6914, [0, 1]) (List.mem_of_getElem? (i := 0) rfl)
    obtain rfl : [rI x0, rI x1] = w := Option.some.inj (show some [rI x0, rI x1] = some w from e6)
    exact (rF_b (r := 6914) (by decide) rfl).mp e7
  have f0 := ro_432.mp f0
  clear m1 m2 m3 m4
  have q0 : rB K n p 445 [rI x0, rI x2, rI x3] σ := ro_445.mpr (by
    have h := f0.2
    unfold rSl
    rw [show x2.toInt = 1 by omega, show x3.toInt = -1 by omega]
    omega)
  exact ⟨p, fun _ => rfl, ⟨(fun q h => by cases h), fun q h => (by cases h), (fun f h => by cases h), (aAllc ⟨_, rfl, (rF_b (r := 7123) (by decide) rfl).mpr q0⟩ (fun f h => by cases h))⟩, [], List.mem_cons_self, fun f h => (by cases h)⟩
theorem rw_rwGD57 {K : Nat → Nat} {n : Nat} {JX : (Nat → jcell) → Prop} : aGho (rF K n) fa_T K n JX ag_rwGD57 := by
  refine aGho_of ⟨rfl, rfl⟩ ?_
  intro p σ ρ hH hX hA hM0
  have hG := aAG_of hA.1 (fun i e v he hv => (hA.2 i e v he hv).1)
  clear hA
  obtain ⟨v0, v1, v2, v3, rfl, g0, g1, g2, g3⟩ := rA_4 hG
  clear hG
  obtain ⟨x0, rfl, b0, d0⟩ := aG_int g0
  dsimp only at b0 d0
  obtain ⟨x1, rfl, b1, d1⟩ := aG_int g1
  dsimp only at b1 d1
  obtain ⟨x2, rfl, b2, d2⟩ := aG_int g2
  dsimp only at b2 d2
  obtain ⟨x3, rfl, b3, d3⟩ := aG_int g3
  dsimp only at b3 d3
  obtain ⟨m1, m2, m3, m4⟩ := hM0
  have f0 : rB K n p 432 [rI x0, rI x1] σ := by
    obtain ⟨w, e6, e7⟩ := m4 (6914, [0, 1]) (List.mem_of_getElem? (i := 0) rfl)
    obtain rfl : [rI x0, rI x1] = w := Option.some.inj (show some [rI x0, rI x1] = some w from e6)
    exact (rF_b (r := 6914) (by decide) rfl).mp e7
  have f0 := ro_432.mp f0
  clear m1 m2 m3 m4
  have q0 : rB K n p 445 [rI x0, rI x2, rI x3] σ := ro_445.mpr (by
    have h := f0.2
    unfold rSl
    rw [show x2.toInt = -1 by omega, show x3.toInt = 1 by omega]
    omega)
  exact ⟨p, fun _ => rfl, ⟨(fun q h => by cases h), fun q h => (by cases h), (fun f h => by cases h), (aAllc ⟨_, rfl, (rF_b (r := 7123) (by decide) rfl).mpr q0⟩ (fun f h => by cases h))⟩, [], List.mem_cons_self, fun f h => (by cases h)⟩
theorem rw_rwGS {K : Nat → Nat} {n : Nat} {JX : (Nat → jcell) → Prop} : aGho (rF K n) fa_T K n JX ag_rwGS := by
  refine aGho_of ⟨rfl, rfl⟩ ?_
  intro p σ ρ hH hX hA hM0
  have hG := aAG_of hA.1 (fun i e v he hv => (hA.2 i e v he hv).1)
  clear hA
  obtain ⟨v0, v1, v2, v3, v4, v5, rfl, g0, g1, g2, g3, g4, g5⟩ := rA_6 hG
  clear hG
  obtain ⟨x0, rfl, b0, d0⟩ := aG_int g0
  dsimp only at b0 d0
  obtain ⟨x1, rfl, b1, d1⟩ := aG_int g1
  dsimp only at b1 d1
  obtain ⟨x2, rfl, b2, d2⟩ := aG_int g2
  dsimp only at b2 d2
  obtain ⟨x3, rfl, b3, d3⟩ := aG_int g3
  dsimp only at b3 d3
  obtain ⟨x4, rfl, b4, d4⟩ := aG_int g4
  dsimp only at b4 d4
  obtain ⟨x5, rfl, b5, d5⟩ := aG_int g5
  dsimp only at b5 d5
  obtain ⟨m1, m2, m3, m4⟩ := hM0
  have l0 : 0 ≤ (1 * x4.toInt + (-1 * x1.toInt + 0)) + 0 := by
    obtain ⟨z, e6, e7⟩ := m3 ([(4, 1), (1, -1)], 0) (List.mem_of_getElem? (i := 0) rfl)
    obtain rfl : (1 * x4.toInt + (-1 * x1.toInt + 0)) = z := Option.some.inj (show some (1 * x4.toInt + (-1 * x1.toInt + 0)) = some z from e6)
    exact e7
  have l1 : 0 ≤ (-1 * x4.toInt + (1 * x1.toInt + 0)) + 0 := by
    obtain ⟨z, e6, e7⟩ := m3 ([(4, -1), (1, 1)], 0) (List.mem_of_getElem? (i := 1) rfl)
    obtain rfl : (-1 * x4.toInt + (1 * x1.toInt + 0)) = z := Option.some.inj (show some (-1 * x4.toInt + (1 * x1.toInt + 0)) = some z from e6)
    exact e7
  have f0 : rB K n p 445 [rI x0, rI x2, rI x3] σ := by
    obtain ⟨w, e6, e7⟩ := m4 (7123, [0, 2, 3]) (List.mem_of_getElem? (i := 0) rfl)
    obtain rfl : [rI x0, rI x2, rI x3] = w := Option.some.inj (show some [rI x0, rI x2, rI x3] = some w from e6)
    exact (rF_b (r := 7123) (by decide) rfl).mp e7
  have f0 := ro_445.mp f0
  have f1 : rB K n p 430 [rI x0] σ := by
    obtain ⟨w, e6, e7⟩ := m4 (6881, [0]) (List.mem_of_getElem? (i := 1) rfl)
    obtain rfl : [rI x0] = w := Option.some.inj (show some [rI x0] = some w from e6)
    exact (rF_b (r := 6881) (by decide) rfl).mp e7
  have f1 := ro_430.mp f1
  have f2 : rB K n p 431 [rI x1] σ := by
    obtain ⟨w, e6, e7⟩ := m4 (6897, [1]) (List.mem_of_getElem? (i := 2) rfl)
    obtain rfl : [rI x1] = w := Option.some.inj (show some [rI x1] = some w from e6)
    exact (rF_b (r := 6897) (by decide) rfl).mp e7
  have f2 := ro_431.mp f2
  have f3 : rB K n p 433 [rI x0, rI x1, rI x2, rI x3, rI x4] σ := by
    obtain ⟨w, e6, e7⟩ := m4 (6933, [0, 1, 2, 3, 4]) (List.mem_of_getElem? (i := 3) rfl)
    obtain rfl : [rI x0, rI x1, rI x2, rI x3, rI x4] = w := Option.some.inj (show some [rI x0, rI x1, rI x2, rI x3, rI x4] = some w from e6)
    exact (rF_b (r := 6933) (by decide) rfl).mp e7
  have f3 := ro_433.mp f3
  clear m1 m2 m3 m4
  have q0 : rB K n p 429 [rI x0, rI x1, rI x5] σ := ro_429.mpr (by
    intro _
    obtain ⟨k1, k2, k3, k4, k5, k6, k7, -⟩ := f3
    have h := f0
    unfold rSl at h
    refine ⟨f1.1, f2, Or.inr ⟨by omega, Or.inl ⟨x2.toInt, x3.toInt, by omega, by omega, by omega, by omega, Or.inr ⟨h, ?_⟩⟩⟩, f1.2⟩
    exact k1 _ (rWf_i.mpr ⟨k6, Or.inl (by omega)⟩))
  exact ⟨p, fun _ => rfl, ⟨(fun q h => by cases h), fun q h => (by cases h), (fun f h => by cases h), (aAllc ⟨_, rfl, (rF_b (r := 6867) (by decide) rfl).mpr q0⟩ (fun f h => by cases h))⟩, [], List.mem_cons_self, fun f h => (by cases h)⟩
theorem rw_rwNZ {K : Nat → Nat} {n : Nat} {JX : (Nat → jcell) → Prop} : aGho (rF K n) fa_T K n JX ag_rwNZ := by
  refine aGho_of ⟨rfl, rfl⟩ ?_
  intro p σ ρ hH hX hA hM0
  have hG := aAG_of hA.1 (fun i e v he hv => (hA.2 i e v he hv).1)
  clear hA
  obtain ⟨v0, v1, v2, v3, rfl, g0, g1, g2, g3⟩ := rA_4 hG
  clear hG
  obtain ⟨x0, rfl, b0, d0⟩ := aG_int g0
  dsimp only at b0 d0
  obtain ⟨x1, rfl, b1, d1⟩ := aG_int g1
  dsimp only at b1 d1
  obtain ⟨x2, rfl, b2, d2⟩ := aG_int g2
  dsimp only at b2 d2
  obtain ⟨x3, rfl, b3, d3⟩ := aG_int g3
  dsimp only at b3 d3
  obtain ⟨m1, m2, m3, m4⟩ := hM0
  have f0 : rB K n p 225 [rI x0, rI x1] σ := by
    obtain ⟨w, e6, e7⟩ := m4 (3602, [0, 1]) (List.mem_of_getElem? (i := 0) rfl)
    obtain rfl : [rI x0, rI x1] = w := Option.some.inj (show some [rI x0, rI x1] = some w from e6)
    exact (rF_b (r := 3602) (by decide) rfl).mp e7
  have f0 := ro_225.mp f0
  have f1 : rB K n p 226 [rI x0, rI x1, rI x2, rI x3] σ := by
    obtain ⟨w, e6, e7⟩ := m4 (3620, [0, 1, 2, 3]) (List.mem_of_getElem? (i := 1) rfl)
    obtain rfl : [rI x0, rI x1, rI x2, rI x3] = w := Option.some.inj (show some [rI x0, rI x1, rI x2, rI x3] = some w from e6)
    exact (rF_b (r := 3620) (by decide) rfl).mp e7
  have f1 := ro_226.mp f1
  clear m1 m2 m3 m4
  have hd : (0 ≤ (1 * x2.toInt + 0) + -1) := by
    omega
  have w0 := hd
  · exact ⟨p, fun _ => rfl, ⟨(fun q h => by cases h), fun q h => (by cases h), (fun f h => by cases h), (fun f h => by cases h)⟩, _, List.mem_of_getElem? (i := 0) rfl, (aAllc ⟨_, rfl, w0⟩ (fun f h => by cases h))⟩
theorem rw_rvTK {K : Nat → Nat} {n : Nat} {JX : (Nat → jcell) → Prop} : aGho (rF K n) fa_T K n JX ag_rvTK := by
  refine aGho_of ⟨rfl, rfl⟩ ?_
  intro p σ ρ hH hX hA hM0
  have hG := aAG_of hA.1 (fun i e v he hv => (hA.2 i e v he hv).1)
  clear hA
  obtain ⟨v0, rfl, g0⟩ := rA_1 hG
  clear hG
  obtain ⟨x0, rfl, b0, d0⟩ := aG_int g0
  dsimp only at b0 d0
  obtain ⟨m1, m2, m3, m4⟩ := hM0
  clear m1 m2 m3 m4
  have hd : (0 ≤ (1 * x0.toInt + 0) + -3 ∧ 0 ≤ (-1 * x0.toInt + 0) + 3) ∨ (0 ≤ (1 * x0.toInt + 0) + -4 ∧ 0 ≤ (-1 * x0.toInt + 0) + 4) ∨ (0 ≤ (1 * x0.toInt + 0) + -5 ∧ 0 ≤ (-1 * x0.toInt + 0) + 5) := by
    omega
  rcases hd with ⟨w0, w1⟩ | ⟨w0, w1⟩ | ⟨w0, w1⟩
  · exact ⟨p, fun _ => rfl, ⟨(fun q h => by cases h), fun q h => (by cases h), (fun f h => by cases h), (fun f h => by cases h)⟩, _, List.mem_of_getElem? (i := 0) rfl, (aAllc ⟨_, rfl, w0⟩ (aAllc ⟨_, rfl, w1⟩ (fun f h => by cases h)))⟩
  · exact ⟨p, fun _ => rfl, ⟨(fun q h => by cases h), fun q h => (by cases h), (fun f h => by cases h), (fun f h => by cases h)⟩, _, List.mem_of_getElem? (i := 1) rfl, (aAllc ⟨_, rfl, w0⟩ (aAllc ⟨_, rfl, w1⟩ (fun f h => by cases h)))⟩
  · exact ⟨p, fun _ => rfl, ⟨(fun q h => by cases h), fun q h => (by cases h), (fun f h => by cases h), (fun f h => by cases h)⟩, _, List.mem_of_getElem? (i := 2) rfl, (aAllc ⟨_, rfl, w0⟩ (aAllc ⟨_, rfl, w1⟩ (fun f h => by cases h)))⟩
theorem rw_rvTRI0b {K : Nat → Nat} {n : Nat} {JX : (Nat → jcell) → Prop} : aGho (rF K n) fa_T K n JX ag_rvTRI0b := by
  refine aGho_of ⟨rfl, rfl⟩ ?_
  intro p σ ρ hH hX hA hM0
  have hG := aAG_of hA.1 (fun i e v he hv => (hA.2 i e v he hv).1)
  clear hA
  obtain ⟨v0, rfl, g0⟩ := rA_1 hG
  clear hG
  obtain ⟨x0, rfl, b0, d0⟩ := aG_int g0
  dsimp only at b0 d0
  obtain ⟨m1, m2, m3, m4⟩ := hM0
  clear m1 m2 m3 m4
  have hd : (0 ≤ (-1 * x0.toInt + 0) + -1) ∨ (0 ≤ (1 * x0.toInt + 0) + 0 ∧ 0 ≤ (-1 * x0.toInt + 0) + 0) ∨ (0 ≤ (1 * x0.toInt + 0) + -1) := by
    omega
  rcases hd with w0 | ⟨w0, w1⟩ | w0
  · exact ⟨p, fun _ => rfl, ⟨(fun q h => by cases h), fun q h => (by cases h), (fun f h => by cases h), (fun f h => by cases h)⟩, _, List.mem_of_getElem? (i := 0) rfl, (aAllc ⟨_, rfl, w0⟩ (fun f h => by cases h))⟩
  · exact ⟨p, fun _ => rfl, ⟨(fun q h => by cases h), fun q h => (by cases h), (fun f h => by cases h), (fun f h => by cases h)⟩, _, List.mem_of_getElem? (i := 1) rfl, (aAllc ⟨_, rfl, w0⟩ (aAllc ⟨_, rfl, w1⟩ (fun f h => by cases h)))⟩
  · exact ⟨p, fun _ => rfl, ⟨(fun q h => by cases h), fun q h => (by cases h), (fun f h => by cases h), (fun f h => by cases h)⟩, _, List.mem_of_getElem? (i := 2) rfl, (aAllc ⟨_, rfl, w0⟩ (fun f h => by cases h))⟩
theorem rw_rwRYq0 {K : Nat → Nat} {n : Nat} {JX : (Nat → jcell) → Prop} : aGho (rF K n) fa_T K n JX ag_rwRYq0 := by
  refine aGho_of ⟨rfl, rfl⟩ ?_
  intro p σ ρ hH hX hA hM0
  have hG := aAG_of hA.1 (fun i e v he hv => (hA.2 i e v he hv).1)
  clear hA
  obtain ⟨v0, v1, v2, v3, v4, rfl, g0, g1, g2, g3, g4⟩ := rA_5 hG
  clear hG
  obtain ⟨x0, rfl, b0, d0⟩ := aG_int g0
  dsimp only at b0 d0
  obtain ⟨x1, rfl, b1, d1⟩ := aG_int g1
  dsimp only at b1 d1
  obtain ⟨x2, rfl, b2, d2⟩ := aG_int g2
  dsimp only at b2 d2
  obtain ⟨x3, rfl, b3, d3⟩ := aG_int g3
  dsimp only at b3 d3
  obtain ⟨x4, rfl, b4, d4⟩ := aG_int g4
  dsimp only at b4 d4
  obtain ⟨m1, m2, m3, m4⟩ := hM0
  have f0 : rB K n p 433 [rI x0, rI x1, rI x2, rI x3, rI x4] σ := by
    obtain ⟨w, e6, e7⟩ := m4 (6933, [0, 1, 2, 3, 4]) (List.mem_of_getElem? (i := 0) rfl)
    obtain rfl : [rI x0, rI x1, rI x2, rI x3, rI x4] = w := Option.some.inj (show some [rI x0, rI x1, rI x2, rI x3, rI x4] = some w from e6)
    exact (rF_b (r := 6933) (by decide) rfl).mp e7
  have f0 := ro_433.mp f0
  clear m1 m2 m3 m4
  have r0 : 0 ≤ (1 * x1.toInt + (-1 * x4.toInt + 0)) + 0 := by
    obtain ⟨k1, k2, k3, k4, k5, k6, k7, j, j0, j1, j2⟩ := f0
    have hf : x2.toInt = -1 ∨ x2.toInt = 0 ∨ x2.toInt = 1 := by omega
    have hr : x3.toInt = -1 ∨ x3.toInt = 0 ∨ x3.toInt = 1 := by omega
    rcases hf with h | h | h <;> rcases hr with h2 | h2 | h2 <;> rw [h] at j1 <;> rw [h2] at j2 <;> omega
  exact ⟨p, fun _ => rfl, ⟨(fun q h => by cases h), fun q h => (by cases h), (aAllc ⟨_, rfl, r0⟩ (fun f h => by cases h)), (fun f h => by cases h)⟩, [], List.mem_cons_self, fun f h => (by cases h)⟩
theorem rw_rwRYq1 {K : Nat → Nat} {n : Nat} {JX : (Nat → jcell) → Prop} : aGho (rF K n) fa_T K n JX ag_rwRYq1 := by
  refine aGho_of ⟨rfl, rfl⟩ ?_
  intro p σ ρ hH hX hA hM0
  have hG := aAG_of hA.1 (fun i e v he hv => (hA.2 i e v he hv).1)
  clear hA
  obtain ⟨v0, v1, v2, v3, v4, rfl, g0, g1, g2, g3, g4⟩ := rA_5 hG
  clear hG
  obtain ⟨x0, rfl, b0, d0⟩ := aG_int g0
  dsimp only at b0 d0
  obtain ⟨x1, rfl, b1, d1⟩ := aG_int g1
  dsimp only at b1 d1
  obtain ⟨x2, rfl, b2, d2⟩ := aG_int g2
  dsimp only at b2 d2
  obtain ⟨x3, rfl, b3, d3⟩ := aG_int g3
  dsimp only at b3 d3
  obtain ⟨x4, rfl, b4, d4⟩ := aG_int g4
  dsimp only at b4 d4
  obtain ⟨m1, m2, m3, m4⟩ := hM0
  have f0 : rB K n p 433 [rI x0, rI x1, rI x2, rI x3, rI x4] σ := by
    obtain ⟨w, e6, e7⟩ := m4 (6933, [0, 1, 2, 3, 4]) (List.mem_of_getElem? (i := 0) rfl)
    obtain rfl : [rI x0, rI x1, rI x2, rI x3, rI x4] = w := Option.some.inj (show some [rI x0, rI x1, rI x2, rI x3, rI x4] = some w from e6)
    exact (rF_b (r := 6933) (by decide) rfl).mp e7
  have f0 := ro_433.mp f0
  clear m1 m2 m3 m4
  have r0 : 0 ≤ (-1 * x1.toInt + (1 * x4.toInt + 0)) + 0 := by
    obtain ⟨k1, k2, k3, k4, k5, k6, k7, j, j0, j1, j2⟩ := f0
    have hf : x2.toInt = -1 ∨ x2.toInt = 0 ∨ x2.toInt = 1 := by omega
    have hr : x3.toInt = -1 ∨ x3.toInt = 0 ∨ x3.toInt = 1 := by omega
    rcases hf with h | h | h <;> rcases hr with h2 | h2 | h2 <;> rw [h] at j1 <;> rw [h2] at j2 <;> omega
  exact ⟨p, fun _ => rfl, ⟨(fun q h => by cases h), fun q h => (by cases h), (aAllc ⟨_, rfl, r0⟩ (fun f h => by cases h)), (fun f h => by cases h)⟩, [], List.mem_cons_self, fun f h => (by cases h)⟩
theorem rw_rwRYq2 {K : Nat → Nat} {n : Nat} {JX : (Nat → jcell) → Prop} : aGho (rF K n) fa_T K n JX ag_rwRYq2 := by
  refine aGho_of ⟨rfl, rfl⟩ ?_
  intro p σ ρ hH hX hA hM0
  have hG := aAG_of hA.1 (fun i e v he hv => (hA.2 i e v he hv).1)
  clear hA
  obtain ⟨v0, v1, v2, v3, v4, rfl, g0, g1, g2, g3, g4⟩ := rA_5 hG
  clear hG
  obtain ⟨x0, rfl, b0, d0⟩ := aG_int g0
  dsimp only at b0 d0
  obtain ⟨x1, rfl, b1, d1⟩ := aG_int g1
  dsimp only at b1 d1
  obtain ⟨x2, rfl, b2, d2⟩ := aG_int g2
  dsimp only at b2 d2
  obtain ⟨x3, rfl, b3, d3⟩ := aG_int g3
  dsimp only at b3 d3
  obtain ⟨x4, rfl, b4, d4⟩ := aG_int g4
  dsimp only at b4 d4
  obtain ⟨m1, m2, m3, m4⟩ := hM0
  have f0 : rB K n p 433 [rI x0, rI x1, rI x2, rI x3, rI x4] σ := by
    obtain ⟨w, e6, e7⟩ := m4 (6933, [0, 1, 2, 3, 4]) (List.mem_of_getElem? (i := 0) rfl)
    obtain rfl : [rI x0, rI x1, rI x2, rI x3, rI x4] = w := Option.some.inj (show some [rI x0, rI x1, rI x2, rI x3, rI x4] = some w from e6)
    exact (rF_b (r := 6933) (by decide) rfl).mp e7
  have f0 := ro_433.mp f0
  clear m1 m2 m3 m4
  have r0 : 0 ≤ (1 * x1.toInt + (-1 * x4.toInt + 0)) + 0 := by
    obtain ⟨k1, k2, k3, k4, k5, k6, k7, j, j0, j1, j2⟩ := f0
    have hf : x2.toInt = -1 ∨ x2.toInt = 0 ∨ x2.toInt = 1 := by omega
    have hr : x3.toInt = -1 ∨ x3.toInt = 0 ∨ x3.toInt = 1 := by omega
    rcases hf with h | h | h <;> rcases hr with h2 | h2 | h2 <;> rw [h] at j1 <;> rw [h2] at j2 <;> omega
  exact ⟨p, fun _ => rfl, ⟨(fun q h => by cases h), fun q h => (by cases h), (aAllc ⟨_, rfl, r0⟩ (fun f h => by cases h)), (fun f h => by cases h)⟩, [], List.mem_cons_self, fun f h => (by cases h)⟩
theorem rw_rwRYq3 {K : Nat → Nat} {n : Nat} {JX : (Nat → jcell) → Prop} : aGho (rF K n) fa_T K n JX ag_rwRYq3 := by
  refine aGho_of ⟨rfl, rfl⟩ ?_
  intro p σ ρ hH hX hA hM0
  have hG := aAG_of hA.1 (fun i e v he hv => (hA.2 i e v he hv).1)
  clear hA
  obtain ⟨v0, v1, v2, v3, v4, rfl, g0, g1, g2, g3, g4⟩ := rA_5 hG
  clear hG
  obtain ⟨x0, rfl, b0, d0⟩ := aG_int g0
  dsimp only at b0 d0
  obtain ⟨x1, rfl, b1, d1⟩ := aG_int g1
  dsimp only at b1 d1
  obtain ⟨x2, rfl, b2, d2⟩ := aG_int g2
  dsimp only at b2 d2
  obtain ⟨x3, rfl, b3, d3⟩ := aG_int g3
  dsimp only at b3 d3
  obtain ⟨x4, rfl, b4, d4⟩ := aG_int g4
  dsimp only at b4 d4
  obtain ⟨m1, m2, m3, m4⟩ := hM0
  have f0 : rB K n p 433 [rI x0, rI x1, rI x2, rI x3, rI x4] σ := by
    obtain ⟨w, e6, e7⟩ := m4 (6933, [0, 1, 2, 3, 4]) (List.mem_of_getElem? (i := 0) rfl)
    obtain rfl : [rI x0, rI x1, rI x2, rI x3, rI x4] = w := Option.some.inj (show some [rI x0, rI x1, rI x2, rI x3, rI x4] = some w from e6)
    exact (rF_b (r := 6933) (by decide) rfl).mp e7
  have f0 := ro_433.mp f0
  clear m1 m2 m3 m4
  have r0 : 0 ≤ (-1 * x1.toInt + (1 * x4.toInt + 0)) + 0 := by
    obtain ⟨k1, k2, k3, k4, k5, k6, k7, j, j0, j1, j2⟩ := f0
    have hf : x2.toInt = -1 ∨ x2.toInt = 0 ∨ x2.toInt = 1 := by omega
    have hr : x3.toInt = -1 ∨ x3.toInt = 0 ∨ x3.toInt = 1 := by omega
    rcases hf with h | h | h <;> rcases hr with h2 | h2 | h2 <;> rw [h] at j1 <;> rw [h2] at j2 <;> omega
  exact ⟨p, fun _ => rfl, ⟨(fun q h => by cases h), fun q h => (by cases h), (aAllc ⟨_, rfl, r0⟩ (fun f h => by cases h)), (fun f h => by cases h)⟩, [], List.mem_cons_self, fun f h => (by cases h)⟩
theorem rw_rxB0 {K : Nat → Nat} {n : Nat} {JX : (Nat → jcell) → Prop} : aGho (rF K n) fa_T K n JX ag_rxB0 := by
  refine aGho_of ⟨rfl, rfl⟩ ?_
  intro p σ ρ hH hX hA hM0
  have hG := aAG_of hA.1 (fun i e v he hv => (hA.2 i e v he hv).1)
  clear hA
  obtain ⟨v0, v1, rfl, g0, g1⟩ := rA_2 hG
  clear hG
  obtain ⟨x0, rfl, b0, d0⟩ := aG_int g0
  dsimp only at b0 d0
  obtain ⟨x1, rfl, b1, d1⟩ := aG_int g1
  dsimp only at b1 d1
  obtain ⟨m1, m2, m3, m4⟩ := hM0
  clear m1 m2 m3 m4
  have q0 : rB K n p 435 [rI x0, rI x1] σ := ro_435.mpr (by
    omega)
  exact ⟨p, fun _ => rfl, ⟨(fun q h => by cases h), fun q h => (by cases h), (fun f h => by cases h), (aAllc ⟨_, rfl, (rF_b (r := 6962) (by decide) rfl).mpr q0⟩ (fun f h => by cases h))⟩, [], List.mem_cons_self, fun f h => (by cases h)⟩
theorem rw_rxL0 {K : Nat → Nat} {n : Nat} {JX : (Nat → jcell) → Prop} : aGho (rF K n) fa_T K n JX ag_rxL0 := by
  refine aGho_of ⟨rfl, rfl⟩ ?_
  intro p σ ρ hH hX hA hM0
  have hG := aAG_of hA.1 (fun i e v he hv => (hA.2 i e v he hv).1)
  clear hA
  obtain ⟨v0, v1, rfl, g0, g1⟩ := rA_2 hG
  clear hG
  obtain ⟨x0, rfl, b0, d0⟩ := rG_ref (by decide) g0
  obtain ⟨x1, rfl, b1, d1⟩ := aG_int g1
  dsimp only at b1 d1
  obtain ⟨m1, m2, m3, m4⟩ := hM0
  obtain ⟨T, hT⟩ := rTe_ex hH b0 d0
  clear m1 m2 m3 m4
  have q0 : rB K n p 438 [rR x0, rI x1] σ := ro_438.mpr (by
    obtain ⟨g, h⟩ := rRo_ex (ko := 62) (f := 32) (kr := 85) (len := 2048) hH rfl rfl rfl (by decide) b0 d0
    exact ⟨by omega, g, h, fun j h1 h2 => by omega⟩)
  exact ⟨p, fun _ => rfl, ⟨(fun q h => by cases h), fun q h => (by cases h), (fun f h => by cases h), (aAllc ⟨_, rfl, (rF_b (r := 7010) (by decide) rfl).mpr q0⟩ (fun f h => by cases h))⟩, [], List.mem_cons_self, fun f h => (by cases h)⟩
theorem rw_rxI0 {K : Nat → Nat} {n : Nat} {JX : (Nat → jcell) → Prop} : aGho (rF K n) fa_T K n JX ag_rxI0 := by
  refine aGho_of ⟨rfl, rfl⟩ ?_
  intro p σ ρ hH hX hA hM0
  have hG := aAG_of hA.1 (fun i e v he hv => (hA.2 i e v he hv).1)
  clear hA
  obtain ⟨v0, v1, v2, rfl, g0, g1, g2⟩ := rA_3 hG
  clear hG
  obtain ⟨x0, rfl, b0, d0⟩ := aG_int g0
  dsimp only at b0 d0
  obtain ⟨x1, rfl, b1, d1⟩ := aG_int g1
  dsimp only at b1 d1
  obtain ⟨x2, rfl, b2, d2⟩ := aG_int g2
  dsimp only at b2 d2
  obtain ⟨m1, m2, m3, m4⟩ := hM0
  have f0 : rB K n p 435 [rI x0, rI x1] σ := by
    obtain ⟨w, e6, e7⟩ := m4 (6962, [0, 1]) (List.mem_of_getElem? (i := 0) rfl)
    obtain rfl : [rI x0, rI x1] = w := Option.some.inj (show some [rI x0, rI x1] = some w from e6)
    exact (rF_b (r := 6962) (by decide) rfl).mp e7
  have f0 := ro_435.mp f0
  clear m1 m2 m3 m4
  have q0 : rB K n p 436 [rI x0, rI x2, rI x1] σ := ro_436.mpr (by
    rw [show x2.toInt.toNat = 0 by omega]
    show x1.toInt ≤ 31 * x0.toInt + 0
    omega)
  exact ⟨p, fun _ => rfl, ⟨(fun q h => by cases h), fun q h => (by cases h), (fun f h => by cases h), (aAllc ⟨_, rfl, (rF_b (r := 6979) (by decide) rfl).mpr q0⟩ (fun f h => by cases h))⟩, [], List.mem_cons_self, fun f h => (by cases h)⟩
theorem rw_rxE0 {K : Nat → Nat} {n : Nat} {JX : (Nat → jcell) → Prop} : aGho (rF K n) fa_T K n JX ag_rxE0 := by
  refine aGho_of ⟨rfl, rfl⟩ ?_
  intro p σ ρ hH hX hA hM0
  have hG := aAG_of hA.1 (fun i e v he hv => (hA.2 i e v he hv).1)
  clear hA
  obtain ⟨v0, v1, v2, rfl, g0, g1, g2⟩ := rA_3 hG
  clear hG
  obtain ⟨x0, rfl, b0, d0⟩ := aG_int g0
  dsimp only at b0 d0
  obtain ⟨x1, rfl, b1, d1⟩ := aG_int g1
  dsimp only at b1 d1
  obtain ⟨x2, rfl, b2, d2⟩ := aG_int g2
  dsimp only at b2 d2
  obtain ⟨m1, m2, m3, m4⟩ := hM0
  have f0 : rB K n p 436 [rI x0, rI x1, rI x2] σ := by
    obtain ⟨w, e6, e7⟩ := m4 (6979, [0, 1, 2]) (List.mem_of_getElem? (i := 0) rfl)
    obtain rfl : [rI x0, rI x1, rI x2] = w := Option.some.inj (show some [rI x0, rI x1, rI x2] = some w from e6)
    exact (rF_b (r := 6979) (by decide) rfl).mp e7
  have f0 := ro_436.mp f0
  clear m1 m2 m3 m4
  have q0 : rB K n p 441 [rI x0, rI x1, rI x2] σ := ro_441.mpr (by
    rw [rSm_s b1]
    have := rWt_0 (k := p.1.1 x0.toInt % 8) (s := x0.toInt) (t := x1.toInt)
    omega)
  exact ⟨p, fun _ => rfl, ⟨(fun q h => by cases h), fun q h => (by cases h), (fun f h => by cases h), (aAllc ⟨_, rfl, (rF_b (r := 7059) (by decide) rfl).mpr q0⟩ (fun f h => by cases h))⟩, [], List.mem_cons_self, fun f h => (by cases h)⟩
theorem rw_rxGY {K : Nat → Nat} {n : Nat} {JX : (Nat → jcell) → Prop} : aGho (rF K n) fa_T K n JX ag_rxGY := by
  refine aGho_of ⟨rfl, rfl⟩ ?_
  intro p σ ρ hH hX hA hM0
  have hG := aAG_of hA.1 (fun i e v he hv => (hA.2 i e v he hv).1)
  clear hA
  obtain ⟨v0, v1, v2, rfl, g0, g1, g2⟩ := rA_3 hG
  clear hG
  obtain ⟨x0, rfl, b0, d0⟩ := aG_int g0
  dsimp only at b0 d0
  obtain ⟨x1, rfl, b1, d1⟩ := aG_int g1
  dsimp only at b1 d1
  obtain ⟨x2, rfl, b2, d2⟩ := aG_int g2
  dsimp only at b2 d2
  obtain ⟨m1, m2, m3, m4⟩ := hM0
  have f0 : rB K n p 429 [rI x0, rI x1, rI x2] σ := by
    obtain ⟨w, e6, e7⟩ := m4 (6867, [0, 1, 2]) (List.mem_of_getElem? (i := 0) rfl)
    obtain rfl : [rI x0, rI x1, rI x2] = w := Option.some.inj (show some [rI x0, rI x1, rI x2] = some w from e6)
    exact (rF_b (r := 6867) (by decide) rfl).mp e7
  have f0 := ro_429.mp f0
  clear m1 m2 m3 m4
  have q0 : rB K n p 447 [rI x0, rI x1] σ := ro_447.mpr (by
    exact f0 (by omega))
  exact ⟨p, fun _ => rfl, ⟨(fun q h => by cases h), fun q h => (by cases h), (fun f h => by cases h), (aAllc ⟨_, rfl, (rF_b (r := 7154) (by decide) rfl).mpr q0⟩ (fun f h => by cases h))⟩, [], List.mem_cons_self, fun f h => (by cases h)⟩
theorem rw_rxSG {K : Nat → Nat} {n : Nat} {JX : (Nat → jcell) → Prop} : aGho (rF K n) fa_T K n JX ag_rxSG := by
  refine aGho_of ⟨rfl, rfl⟩ ?_
  intro p σ ρ hH hX hA hM0
  have hG := aAG_of hA.1 (fun i e v he hv => (hA.2 i e v he hv).1)
  clear hA
  obtain ⟨v0, v1, v2, v3, rfl, g0, g1, g2, g3⟩ := rA_4 hG
  clear hG
  obtain ⟨x0, rfl, b0, d0⟩ := aG_int g0
  dsimp only at b0 d0
  obtain ⟨x1, rfl, b1, d1⟩ := aG_int g1
  dsimp only at b1 d1
  obtain ⟨x2, rfl, b2, d2⟩ := aG_int g2
  dsimp only at b2 d2
  obtain ⟨x3, rfl, b3, d3⟩ := aG_int g3
  dsimp only at b3 d3
  obtain ⟨m1, m2, m3, m4⟩ := hM0
  have l0 : 0 ≤ (1 * x2.toInt + (-1 * x0.toInt + (-64 * x1.toInt + 0))) + 0 := by
    obtain ⟨z, e6, e7⟩ := m3 ([(2, 1), (0, -1), (1, -64)], 0) (List.mem_of_getElem? (i := 0) rfl)
    obtain rfl : (1 * x2.toInt + (-1 * x0.toInt + (-64 * x1.toInt + 0))) = z := Option.some.inj (show some (1 * x2.toInt + (-1 * x0.toInt + (-64 * x1.toInt + 0))) = some z from e6)
    exact e7
  have l1 : 0 ≤ (-1 * x2.toInt + (1 * x0.toInt + (64 * x1.toInt + 0))) + 0 := by
    obtain ⟨z, e6, e7⟩ := m3 ([(2, -1), (0, 1), (1, 64)], 0) (List.mem_of_getElem? (i := 1) rfl)
    obtain rfl : (-1 * x2.toInt + (1 * x0.toInt + (64 * x1.toInt + 0))) = z := Option.some.inj (show some (-1 * x2.toInt + (1 * x0.toInt + (64 * x1.toInt + 0))) = some z from e6)
    exact e7
  have f0 : rB K n p 426 [rI x2, rI x3] σ := by
    obtain ⟨w, e6, e7⟩ := m4 (6818, [2, 3]) (List.mem_of_getElem? (i := 0) rfl)
    obtain rfl : [rI x2, rI x3] = w := Option.some.inj (show some [rI x2, rI x3] = some w from e6)
    exact (rF_b (r := 6818) (by decide) rfl).mp e7
  have f0 := ro_426.mp f0
  clear m1 m2 m3 m4
  have q0 : rB K n p 446 [rI x0, rI x1, rI x3] σ := ro_446.mpr (by
    intro h
    rw [← show x2.toInt = x0.toInt + 64 * x1.toInt by omega]
    exact f0 h)
  exact ⟨p, fun _ => rfl, ⟨(fun q h => by cases h), fun q h => (by cases h), (fun f h => by cases h), (aAllc ⟨_, rfl, (rF_b (r := 7139) (by decide) rfl).mpr q0⟩ (fun f h => by cases h))⟩, [], List.mem_cons_self, fun f h => (by cases h)⟩
theorem rw_rxLS1a {K : Nat → Nat} {n : Nat} {JX : (Nat → jcell) → Prop} : aGho (rF K n) fa_T K n JX ag_rxLS1a := by
  refine aGho_of ⟨rfl, rfl⟩ ?_
  intro p σ ρ hH hX hA hM0
  have hG := aAG_of hA.1 (fun i e v he hv => (hA.2 i e v he hv).1)
  clear hA
  obtain ⟨v0, v1, v2, v3, rfl, g0, g1, g2, g3⟩ := rA_4 hG
  clear hG
  obtain ⟨x0, rfl, b0, d0⟩ := aG_int g0
  dsimp only at b0 d0
  obtain ⟨x1, rfl, b1, d1⟩ := aG_int g1
  dsimp only at b1 d1
  obtain ⟨x2, rfl, b2, d2⟩ := aG_int g2
  dsimp only at b2 d2
  obtain ⟨x3, rfl, b3, d3⟩ := aG_int g3
  dsimp only at b3 d3
  obtain ⟨m1, m2, m3, m4⟩ := hM0
  have f0 : rB K n p 432 [rI x0, rI x2] σ := by
    obtain ⟨w, e6, e7⟩ := m4 (6914, [0, 2]) (List.mem_of_getElem? (i := 0) rfl)
    obtain rfl : [rI x0, rI x2] = w := Option.some.inj (show some [rI x0, rI x2] = some w from e6)
    exact (rF_b (r := 6914) (by decide) rfl).mp e7
  have f0 := ro_432.mp f0
  clear m1 m2 m3 m4
  have q0 : rB K n p 440 [rI x0, rI x1, rI x3] σ := ro_440.mpr (by
    have h := f0.2
    unfold rLs
    omega)
  exact ⟨p, fun _ => rfl, ⟨(fun q h => by cases h), fun q h => (by cases h), (fun f h => by cases h), (aAllc ⟨_, rfl, (rF_b (r := 7043) (by decide) rfl).mpr q0⟩ (fun f h => by cases h))⟩, [], List.mem_cons_self, fun f h => (by cases h)⟩
theorem rw_rxLS1b {K : Nat → Nat} {n : Nat} {JX : (Nat → jcell) → Prop} : aGho (rF K n) fa_T K n JX ag_rxLS1b := by
  refine aGho_of ⟨rfl, rfl⟩ ?_
  intro p σ ρ hH hX hA hM0
  have hG := aAG_of hA.1 (fun i e v he hv => (hA.2 i e v he hv).1)
  clear hA
  obtain ⟨v0, v1, v2, v3, rfl, g0, g1, g2, g3⟩ := rA_4 hG
  clear hG
  obtain ⟨x0, rfl, b0, d0⟩ := aG_int g0
  dsimp only at b0 d0
  obtain ⟨x1, rfl, b1, d1⟩ := aG_int g1
  dsimp only at b1 d1
  obtain ⟨x2, rfl, b2, d2⟩ := aG_int g2
  dsimp only at b2 d2
  obtain ⟨x3, rfl, b3, d3⟩ := aG_int g3
  dsimp only at b3 d3
  obtain ⟨m1, m2, m3, m4⟩ := hM0
  have f0 : rB K n p 432 [rI x0, rI x2] σ := by
    obtain ⟨w, e6, e7⟩ := m4 (6914, [0, 2]) (List.mem_of_getElem? (i := 0) rfl)
    obtain rfl : [rI x0, rI x2] = w := Option.some.inj (show some [rI x0, rI x2] = some w from e6)
    exact (rF_b (r := 6914) (by decide) rfl).mp e7
  have f0 := ro_432.mp f0
  clear m1 m2 m3 m4
  have q0 : rB K n p 440 [rI x0, rI x1, rI x3] σ := ro_440.mpr (by
    have h := f0.2
    unfold rLs
    omega)
  exact ⟨p, fun _ => rfl, ⟨(fun q h => by cases h), fun q h => (by cases h), (fun f h => by cases h), (aAllc ⟨_, rfl, (rF_b (r := 7043) (by decide) rfl).mpr q0⟩ (fun f h => by cases h))⟩, [], List.mem_cons_self, fun f h => (by cases h)⟩
theorem rw_rxLS0a {K : Nat → Nat} {n : Nat} {JX : (Nat → jcell) → Prop} : aGho (rF K n) fa_T K n JX ag_rxLS0a := by
  refine aGho_of ⟨rfl, rfl⟩ ?_
  intro p σ ρ hH hX hA hM0
  have hG := aAG_of hA.1 (fun i e v he hv => (hA.2 i e v he hv).1)
  clear hA
  obtain ⟨v0, v1, v2, v3, rfl, g0, g1, g2, g3⟩ := rA_4 hG
  clear hG
  obtain ⟨x0, rfl, b0, d0⟩ := aG_int g0
  dsimp only at b0 d0
  obtain ⟨x1, rfl, b1, d1⟩ := aG_int g1
  dsimp only at b1 d1
  obtain ⟨x2, rfl, b2, d2⟩ := aG_int g2
  dsimp only at b2 d2
  obtain ⟨x3, rfl, b3, d3⟩ := aG_int g3
  dsimp only at b3 d3
  obtain ⟨m1, m2, m3, m4⟩ := hM0
  have f0 : rB K n p 432 [rI x0, rI x2] σ := by
    obtain ⟨w, e6, e7⟩ := m4 (6914, [0, 2]) (List.mem_of_getElem? (i := 0) rfl)
    obtain rfl : [rI x0, rI x2] = w := Option.some.inj (show some [rI x0, rI x2] = some w from e6)
    exact (rF_b (r := 6914) (by decide) rfl).mp e7
  have f0 := ro_432.mp f0
  clear m1 m2 m3 m4
  have q0 : rB K n p 440 [rI x0, rI x1, rI x3] σ := ro_440.mpr (by
    have h := f0.2
    unfold rLs
    omega)
  exact ⟨p, fun _ => rfl, ⟨(fun q h => by cases h), fun q h => (by cases h), (fun f h => by cases h), (aAllc ⟨_, rfl, (rF_b (r := 7043) (by decide) rfl).mpr q0⟩ (fun f h => by cases h))⟩, [], List.mem_cons_self, fun f h => (by cases h)⟩
theorem rw_rxLS0c {K : Nat → Nat} {n : Nat} {JX : (Nat → jcell) → Prop} : aGho (rF K n) fa_T K n JX ag_rxLS0c := by
  refine aGho_of ⟨rfl, rfl⟩ ?_
  intro p σ ρ hH hX hA hM0
  have hG := aAG_of hA.1 (fun i e v he hv => (hA.2 i e v he hv).1)
  clear hA
  obtain ⟨v0, v1, v2, v3, rfl, g0, g1, g2, g3⟩ := rA_4 hG
  clear hG
  obtain ⟨x0, rfl, b0, d0⟩ := aG_int g0
  dsimp only at b0 d0
  obtain ⟨x1, rfl, b1, d1⟩ := aG_int g1
  dsimp only at b1 d1
  obtain ⟨x2, rfl, b2, d2⟩ := aG_int g2
  dsimp only at b2 d2
  obtain ⟨x3, rfl, b3, d3⟩ := aG_int g3
  dsimp only at b3 d3
  obtain ⟨m1, m2, m3, m4⟩ := hM0
  have f0 : rB K n p 432 [rI x0, rI x2] σ := by
    obtain ⟨w, e6, e7⟩ := m4 (6914, [0, 2]) (List.mem_of_getElem? (i := 0) rfl)
    obtain rfl : [rI x0, rI x2] = w := Option.some.inj (show some [rI x0, rI x2] = some w from e6)
    exact (rF_b (r := 6914) (by decide) rfl).mp e7
  have f0 := ro_432.mp f0
  clear m1 m2 m3 m4
  have q0 : rB K n p 440 [rI x0, rI x1, rI x3] σ := ro_440.mpr (by
    have h := f0.2
    unfold rLs
    omega)
  exact ⟨p, fun _ => rfl, ⟨(fun q h => by cases h), fun q h => (by cases h), (fun f h => by cases h), (aAllc ⟨_, rfl, (rF_b (r := 7043) (by decide) rfl).mpr q0⟩ (fun f h => by cases h))⟩, [], List.mem_cons_self, fun f h => (by cases h)⟩
theorem rw_rxJ0 {K : Nat → Nat} {n : Nat} {JX : (Nat → jcell) → Prop} : aGho (rF K n) fa_T K n JX ag_rxJ0 := by
  refine aGho_of ⟨rfl, rfl⟩ ?_
  intro p σ ρ hH hX hA hM0
  have hG := aAG_of hA.1 (fun i e v he hv => (hA.2 i e v he hv).1)
  clear hA
  obtain ⟨v0, v1, v2, v3, v4, rfl, g0, g1, g2, g3, g4⟩ := rA_5 hG
  clear hG
  obtain ⟨x0, rfl, b0, d0⟩ := aG_int g0
  dsimp only at b0 d0
  obtain ⟨x1, rfl, b1, d1⟩ := aG_int g1
  dsimp only at b1 d1
  obtain ⟨x2, rfl, b2, d2⟩ := aG_int g2
  dsimp only at b2 d2
  obtain ⟨x3, rfl, b3, d3⟩ := aG_int g3
  dsimp only at b3 d3
  obtain ⟨x4, rfl, b4, d4⟩ := aG_int g4
  dsimp only at b4 d4
  obtain ⟨m1, m2, m3, m4⟩ := hM0
  have f0 : rB K n p 436 [rI x0, rI x1, rI x4] σ := by
    obtain ⟨w, e6, e7⟩ := m4 (6979, [0, 1, 4]) (List.mem_of_getElem? (i := 0) rfl)
    obtain rfl : [rI x0, rI x1, rI x4] = w := Option.some.inj (show some [rI x0, rI x1, rI x4] = some w from e6)
    exact (rF_b (r := 6979) (by decide) rfl).mp e7
  have f0 := ro_436.mp f0
  have f1 : rB K n p 440 [rI x0, rI x1, rI x2] σ := by
    obtain ⟨w, e6, e7⟩ := m4 (7043, [0, 1, 2]) (List.mem_of_getElem? (i := 1) rfl)
    obtain rfl : [rI x0, rI x1, rI x2] = w := Option.some.inj (show some [rI x0, rI x1, rI x2] = some w from e6)
    exact (rF_b (r := 7043) (by decide) rfl).mp e7
  have f1 := ro_440.mp f1
  have f2 : rB K n p 447 [rI x0, rI x1] σ := by
    obtain ⟨w, e6, e7⟩ := m4 (7154, [0, 1]) (List.mem_of_getElem? (i := 2) rfl)
    obtain rfl : [rI x0, rI x1] = w := Option.some.inj (show some [rI x0, rI x1] = some w from e6)
    exact (rF_b (r := 7154) (by decide) rfl).mp e7
  have f2 := ro_447.mp f2
  clear m1 m2 m3 m4
  have q0 : rB K n p 437 [rI x0, rI x1, rI x3, rI x4] σ := ro_437.mpr (by
    refine ⟨⟨f2.2.2.2.1, f2.2.2.2.2⟩, f2.2.2.1, ?_⟩
    rcases f1 with h9 | h9
    · have := h9.1; omega
    · exact Or.inr ⟨h9.2, by omega⟩)
  exact ⟨p, fun _ => rfl, ⟨(fun q h => by cases h), fun q h => (by cases h), (fun f h => by cases h), (aAllc ⟨_, rfl, (rF_b (r := 6996) (by decide) rfl).mpr q0⟩ (fun f h => by cases h))⟩, [], List.mem_cons_self, fun f h => (by cases h)⟩
theorem rw_rxJ1 {K : Nat → Nat} {n : Nat} {JX : (Nat → jcell) → Prop} : aGho (rF K n) fa_T K n JX ag_rxJ1 := by
  refine aGho_of ⟨rfl, rfl⟩ ?_
  intro p σ ρ hH hX hA hM0
  have hG := aAG_of hA.1 (fun i e v he hv => (hA.2 i e v he hv).1)
  clear hA
  obtain ⟨v0, v1, v2, v3, v4, rfl, g0, g1, g2, g3, g4⟩ := rA_5 hG
  clear hG
  obtain ⟨x0, rfl, b0, d0⟩ := aG_int g0
  dsimp only at b0 d0
  obtain ⟨x1, rfl, b1, d1⟩ := aG_int g1
  dsimp only at b1 d1
  obtain ⟨x2, rfl, b2, d2⟩ := aG_int g2
  dsimp only at b2 d2
  obtain ⟨x3, rfl, b3, d3⟩ := aG_int g3
  dsimp only at b3 d3
  obtain ⟨x4, rfl, b4, d4⟩ := aG_int g4
  dsimp only at b4 d4
  obtain ⟨m1, m2, m3, m4⟩ := hM0
  have f0 : rB K n p 436 [rI x0, rI x1, rI x4] σ := by
    obtain ⟨w, e6, e7⟩ := m4 (6979, [0, 1, 4]) (List.mem_of_getElem? (i := 0) rfl)
    obtain rfl : [rI x0, rI x1, rI x4] = w := Option.some.inj (show some [rI x0, rI x1, rI x4] = some w from e6)
    exact (rF_b (r := 6979) (by decide) rfl).mp e7
  have f0 := ro_436.mp f0
  have f1 : rB K n p 440 [rI x0, rI x1, rI x2] σ := by
    obtain ⟨w, e6, e7⟩ := m4 (7043, [0, 1, 2]) (List.mem_of_getElem? (i := 1) rfl)
    obtain rfl : [rI x0, rI x1, rI x2] = w := Option.some.inj (show some [rI x0, rI x1, rI x2] = some w from e6)
    exact (rF_b (r := 7043) (by decide) rfl).mp e7
  have f1 := ro_440.mp f1
  have f2 : rB K n p 447 [rI x0, rI x1] σ := by
    obtain ⟨w, e6, e7⟩ := m4 (7154, [0, 1]) (List.mem_of_getElem? (i := 2) rfl)
    obtain rfl : [rI x0, rI x1] = w := Option.some.inj (show some [rI x0, rI x1] = some w from e6)
    exact (rF_b (r := 7154) (by decide) rfl).mp e7
  have f2 := ro_447.mp f2
  clear m1 m2 m3 m4
  have q0 : rB K n p 437 [rI x0, rI x1, rI x3, rI x4] σ := ro_437.mpr (by
    refine ⟨⟨f2.2.2.2.1, f2.2.2.2.2⟩, f2.2.2.1, ?_⟩
    rcases f1 with h9 | h9
    · exact Or.inl ⟨h9.2, by omega⟩
    · have := h9.1; omega)
  exact ⟨p, fun _ => rfl, ⟨(fun q h => by cases h), fun q h => (by cases h), (fun f h => by cases h), (aAllc ⟨_, rfl, (rF_b (r := 6996) (by decide) rfl).mpr q0⟩ (fun f h => by cases h))⟩, [], List.mem_cons_self, fun f h => (by cases h)⟩
theorem rw_rxLG0 {K : Nat → Nat} {n : Nat} {JX : (Nat → jcell) → Prop} : aGho (rF K n) fa_T K n JX ag_rxLG0 := by
  refine aGho_of ⟨rfl, rfl⟩ ?_
  intro p σ ρ hH hX hA hM0
  have hG := aAG_of hA.1 (fun i e v he hv => (hA.2 i e v he hv).1)
  clear hA
  obtain ⟨v0, v1, v2, v3, v4, v5, v6, rfl, g0, g1, g2, g3, g4, g5, g6⟩ := rA_7 hG
  clear hG
  obtain ⟨x0, rfl, b0, d0⟩ := rG_ref (by decide) g0
  obtain ⟨x1, rfl, b1, d1⟩ := aG_int g1
  dsimp only at b1 d1
  obtain ⟨x2, rfl, b2, d2⟩ := aG_int g2
  dsimp only at b2 d2
  obtain ⟨x3, rfl, b3, d3⟩ := aG_int g3
  dsimp only at b3 d3
  obtain ⟨x4, rfl, b4, d4⟩ := aG_int g4
  dsimp only at b4 d4
  obtain ⟨x5, rfl, b5, d5⟩ := aG_int g5
  dsimp only at b5 d5
  obtain ⟨x6, rfl, b6, d6⟩ := aG_int g6
  dsimp only at b6 d6
  obtain ⟨m1, m2, m3, m4⟩ := hM0
  obtain ⟨T, hT⟩ := rTe_ex hH b0 d0
  have l0 : 0 ≤ (1 * x5.toInt + (-1 * x1.toInt + (-64 * x2.toInt + (-4096 * x4.toInt + 0)))) + 0 := by
    obtain ⟨z, e6, e7⟩ := m3 ([(5, 1), (1, -1), (2, -64), (4, -4096)], 0) (List.mem_of_getElem? (i := 0) rfl)
    obtain rfl : (1 * x5.toInt + (-1 * x1.toInt + (-64 * x2.toInt + (-4096 * x4.toInt + 0)))) = z := Option.some.inj (show some (1 * x5.toInt + (-1 * x1.toInt + (-64 * x2.toInt + (-4096 * x4.toInt + 0)))) = some z from e6)
    exact e7
  have l1 : 0 ≤ (-1 * x5.toInt + (1 * x1.toInt + (64 * x2.toInt + (4096 * x4.toInt + 0)))) + 0 := by
    obtain ⟨z, e6, e7⟩ := m3 ([(5, -1), (1, 1), (2, 64), (4, 4096)], 0) (List.mem_of_getElem? (i := 1) rfl)
    obtain rfl : (-1 * x5.toInt + (1 * x1.toInt + (64 * x2.toInt + (4096 * x4.toInt + 0)))) = z := Option.some.inj (show some (-1 * x5.toInt + (1 * x1.toInt + (64 * x2.toInt + (4096 * x4.toInt + 0)))) = some z from e6)
    exact e7
  have f0 : rB K n p 400 [rR x0] σ := by
    obtain ⟨w, e6, e7⟩ := m4 (6401, [0]) (List.mem_of_getElem? (i := 0) rfl)
    obtain rfl : [rR x0] = w := Option.some.inj (show some [rR x0] = some w from e6)
    exact (rF_b (r := 6401) (by decide) rfl).mp e7
  obtain ⟨hp, hR⟩ := ro_400.mp f0
  obtain rfl := rMg_u hT hR.1
  have f1 : rB K n p 447 [rI x1, rI x2] σ := by
    obtain ⟨w, e6, e7⟩ := m4 (7154, [1, 2]) (List.mem_of_getElem? (i := 1) rfl)
    obtain rfl : [rI x1, rI x2] = w := Option.some.inj (show some [rI x1, rI x2] = some w from e6)
    exact (rF_b (r := 7154) (by decide) rfl).mp e7
  have f1 := ro_447.mp f1
  have f2 : rB K n p 440 [rI x1, rI x2, rI x3] σ := by
    obtain ⟨w, e6, e7⟩ := m4 (7043, [1, 2, 3]) (List.mem_of_getElem? (i := 2) rfl)
    obtain rfl : [rI x1, rI x2, rI x3] = w := Option.some.inj (show some [rI x1, rI x2, rI x3] = some w from e6)
    exact (rF_b (r := 7043) (by decide) rfl).mp e7
  have f2 := ro_440.mp f2
  have f3 : rB K n p 446 [rI x1, rI x2, rI x6] σ := by
    obtain ⟨w, e6, e7⟩ := m4 (7139, [1, 2, 6]) (List.mem_of_getElem? (i := 3) rfl)
    obtain rfl : [rI x1, rI x2, rI x6] = w := Option.some.inj (show some [rI x1, rI x2, rI x6] = some w from e6)
    exact (rF_b (r := 7139) (by decide) rfl).mp e7
  have f3 := ro_446.mp f3
  have f4 : rB K n p 24 [] σ := by
    obtain ⟨w, e6, e7⟩ := m4 (384, []) (List.mem_of_getElem? (i := 4) rfl)
    obtain rfl : [] = w := Option.some.inj (show some [] = some w from e6)
    exact (rF_b (r := 384) (by decide) rfl).mp e7
  have f4 := ro_24.mp f4
  clear m1 m2 m3 m4
  have q0 : rB K n p 31 [rI x5] σ := ro_31.mpr (by
    exact rLg_of (b := x4.toInt) f4 b1 d1 b2 d2 f1.1 f1.2.1 f1.2.2.1 (by
      rcases f2 with h9 | h9
      · have := h9.1; omega
      · exact Or.inr ⟨h9.2, by omega⟩) (f3 (by omega)) (by omega))
  exact ⟨p, fun _ => rfl, ⟨(fun q h => by cases h), fun q h => (by cases h), (fun f h => by cases h), (aAllc ⟨_, rfl, (rF_b (r := 497) (by decide) rfl).mpr q0⟩ (fun f h => by cases h))⟩, [], List.mem_cons_self, fun f h => (by cases h)⟩
theorem rw_rxJb0 {K : Nat → Nat} {n : Nat} {JX : (Nat → jcell) → Prop} : aGho (rF K n) fa_T K n JX ag_rxJb0 := by
  refine aGho_of ⟨rfl, rfl⟩ ?_
  intro p σ ρ hH hX hA hM0
  have hG := aAG_of hA.1 (fun i e v he hv => (hA.2 i e v he hv).1)
  clear hA
  obtain ⟨v0, v1, v2, v3, v4, rfl, g0, g1, g2, g3, g4⟩ := rA_5 hG
  clear hG
  obtain ⟨x0, rfl, b0, d0⟩ := aG_int g0
  dsimp only at b0 d0
  obtain ⟨x1, rfl, b1, d1⟩ := aG_int g1
  dsimp only at b1 d1
  obtain ⟨x2, rfl, b2, d2⟩ := aG_int g2
  dsimp only at b2 d2
  obtain ⟨x3, rfl, b3, d3⟩ := aG_int g3
  dsimp only at b3 d3
  obtain ⟨x4, rfl, b4, d4⟩ := aG_int g4
  dsimp only at b4 d4
  obtain ⟨m1, m2, m3, m4⟩ := hM0
  have f0 : rB K n p 437 [rI x0, rI x1, rI x3, rI x4] σ := by
    obtain ⟨w, e6, e7⟩ := m4 (6996, [0, 1, 3, 4]) (List.mem_of_getElem? (i := 0) rfl)
    obtain rfl : [rI x0, rI x1, rI x3, rI x4] = w := Option.some.inj (show some [rI x0, rI x1, rI x3, rI x4] = some w from e6)
    exact (rF_b (r := 6996) (by decide) rfl).mp e7
  have f0 := ro_437.mp f0
  have f1 : rB K n p 440 [rI x0, rI x1, rI x2] σ := by
    obtain ⟨w, e6, e7⟩ := m4 (7043, [0, 1, 2]) (List.mem_of_getElem? (i := 1) rfl)
    obtain rfl : [rI x0, rI x1, rI x2] = w := Option.some.inj (show some [rI x0, rI x1, rI x2] = some w from e6)
    exact (rF_b (r := 7043) (by decide) rfl).mp e7
  have f1 := ro_440.mp f1
  clear m1 m2 m3 m4
  have r0 : 0 ≤ (-1 * x4.toInt + 0) + 2047 := by
    obtain ⟨-, -, k4⟩ := f0
    have hb := rSm_b (k := p.1.1 x0.toInt % 8) (s := x0.toInt) (t := x1.toInt.toNat) (by omega) (by omega) (by omega) (by omega) (by omega)
    omega
  exact ⟨p, fun _ => rfl, ⟨(fun q h => by cases h), fun q h => (by cases h), (aAllc ⟨_, rfl, r0⟩ (fun f h => by cases h)), (fun f h => by cases h)⟩, [], List.mem_cons_self, fun f h => (by cases h)⟩
theorem rw_rxLG1 {K : Nat → Nat} {n : Nat} {JX : (Nat → jcell) → Prop} : aGho (rF K n) fa_T K n JX ag_rxLG1 := by
  refine aGho_of ⟨rfl, rfl⟩ ?_
  intro p σ ρ hH hX hA hM0
  have hG := aAG_of hA.1 (fun i e v he hv => (hA.2 i e v he hv).1)
  clear hA
  obtain ⟨v0, v1, v2, v3, v4, v5, v6, rfl, g0, g1, g2, g3, g4, g5, g6⟩ := rA_7 hG
  clear hG
  obtain ⟨x0, rfl, b0, d0⟩ := rG_ref (by decide) g0
  obtain ⟨x1, rfl, b1, d1⟩ := aG_int g1
  dsimp only at b1 d1
  obtain ⟨x2, rfl, b2, d2⟩ := aG_int g2
  dsimp only at b2 d2
  obtain ⟨x3, rfl, b3, d3⟩ := aG_int g3
  dsimp only at b3 d3
  obtain ⟨x4, rfl, b4, d4⟩ := aG_int g4
  dsimp only at b4 d4
  obtain ⟨x5, rfl, b5, d5⟩ := aG_int g5
  dsimp only at b5 d5
  obtain ⟨x6, rfl, b6, d6⟩ := aG_int g6
  dsimp only at b6 d6
  obtain ⟨m1, m2, m3, m4⟩ := hM0
  obtain ⟨T, hT⟩ := rTe_ex hH b0 d0
  have l0 : 0 ≤ (1 * x5.toInt + (-1 * x1.toInt + (-64 * x2.toInt + (-4096 * x4.toInt + 0)))) + 0 := by
    obtain ⟨z, e6, e7⟩ := m3 ([(5, 1), (1, -1), (2, -64), (4, -4096)], 0) (List.mem_of_getElem? (i := 0) rfl)
    obtain rfl : (1 * x5.toInt + (-1 * x1.toInt + (-64 * x2.toInt + (-4096 * x4.toInt + 0)))) = z := Option.some.inj (show some (1 * x5.toInt + (-1 * x1.toInt + (-64 * x2.toInt + (-4096 * x4.toInt + 0)))) = some z from e6)
    exact e7
  have l1 : 0 ≤ (-1 * x5.toInt + (1 * x1.toInt + (64 * x2.toInt + (4096 * x4.toInt + 0)))) + 0 := by
    obtain ⟨z, e6, e7⟩ := m3 ([(5, -1), (1, 1), (2, 64), (4, 4096)], 0) (List.mem_of_getElem? (i := 1) rfl)
    obtain rfl : (-1 * x5.toInt + (1 * x1.toInt + (64 * x2.toInt + (4096 * x4.toInt + 0)))) = z := Option.some.inj (show some (-1 * x5.toInt + (1 * x1.toInt + (64 * x2.toInt + (4096 * x4.toInt + 0)))) = some z from e6)
    exact e7
  have f0 : rB K n p 400 [rR x0] σ := by
    obtain ⟨w, e6, e7⟩ := m4 (6401, [0]) (List.mem_of_getElem? (i := 0) rfl)
    obtain rfl : [rR x0] = w := Option.some.inj (show some [rR x0] = some w from e6)
    exact (rF_b (r := 6401) (by decide) rfl).mp e7
  obtain ⟨hp, hR⟩ := ro_400.mp f0
  obtain rfl := rMg_u hT hR.1
  have f1 : rB K n p 447 [rI x1, rI x2] σ := by
    obtain ⟨w, e6, e7⟩ := m4 (7154, [1, 2]) (List.mem_of_getElem? (i := 1) rfl)
    obtain rfl : [rI x1, rI x2] = w := Option.some.inj (show some [rI x1, rI x2] = some w from e6)
    exact (rF_b (r := 7154) (by decide) rfl).mp e7
  have f1 := ro_447.mp f1
  have f2 : rB K n p 440 [rI x1, rI x2, rI x3] σ := by
    obtain ⟨w, e6, e7⟩ := m4 (7043, [1, 2, 3]) (List.mem_of_getElem? (i := 2) rfl)
    obtain rfl : [rI x1, rI x2, rI x3] = w := Option.some.inj (show some [rI x1, rI x2, rI x3] = some w from e6)
    exact (rF_b (r := 7043) (by decide) rfl).mp e7
  have f2 := ro_440.mp f2
  have f3 : rB K n p 446 [rI x1, rI x2, rI x6] σ := by
    obtain ⟨w, e6, e7⟩ := m4 (7139, [1, 2, 6]) (List.mem_of_getElem? (i := 3) rfl)
    obtain rfl : [rI x1, rI x2, rI x6] = w := Option.some.inj (show some [rI x1, rI x2, rI x6] = some w from e6)
    exact (rF_b (r := 7139) (by decide) rfl).mp e7
  have f3 := ro_446.mp f3
  have f4 : rB K n p 24 [] σ := by
    obtain ⟨w, e6, e7⟩ := m4 (384, []) (List.mem_of_getElem? (i := 4) rfl)
    obtain rfl : [] = w := Option.some.inj (show some [] = some w from e6)
    exact (rF_b (r := 384) (by decide) rfl).mp e7
  have f4 := ro_24.mp f4
  clear m1 m2 m3 m4
  have q0 : rB K n p 31 [rI x5] σ := ro_31.mpr (by
    exact rLg_of (b := x4.toInt) f4 b1 d1 b2 d2 f1.1 f1.2.1 f1.2.2.1 (by
      rcases f2 with h9 | h9
      · exact Or.inl ⟨h9.2, b4, d4⟩
      · have := h9.1; omega) (f3 (by omega)) (by omega))
  exact ⟨p, fun _ => rfl, ⟨(fun q h => by cases h), fun q h => (by cases h), (fun f h => by cases h), (aAllc ⟨_, rfl, (rF_b (r := 497) (by decide) rfl).mpr q0⟩ (fun f h => by cases h))⟩, [], List.mem_cons_self, fun f h => (by cases h)⟩
theorem rw_rxJb1 {K : Nat → Nat} {n : Nat} {JX : (Nat → jcell) → Prop} : aGho (rF K n) fa_T K n JX ag_rxJb1 := by
  refine aGho_of ⟨rfl, rfl⟩ ?_
  intro p σ ρ hH hX hA hM0
  have hG := aAG_of hA.1 (fun i e v he hv => (hA.2 i e v he hv).1)
  clear hA
  obtain ⟨v0, v1, v2, v3, v4, rfl, g0, g1, g2, g3, g4⟩ := rA_5 hG
  clear hG
  obtain ⟨x0, rfl, b0, d0⟩ := aG_int g0
  dsimp only at b0 d0
  obtain ⟨x1, rfl, b1, d1⟩ := aG_int g1
  dsimp only at b1 d1
  obtain ⟨x2, rfl, b2, d2⟩ := aG_int g2
  dsimp only at b2 d2
  obtain ⟨x3, rfl, b3, d3⟩ := aG_int g3
  dsimp only at b3 d3
  obtain ⟨x4, rfl, b4, d4⟩ := aG_int g4
  dsimp only at b4 d4
  obtain ⟨m1, m2, m3, m4⟩ := hM0
  have f0 : rB K n p 437 [rI x0, rI x1, rI x3, rI x4] σ := by
    obtain ⟨w, e6, e7⟩ := m4 (6996, [0, 1, 3, 4]) (List.mem_of_getElem? (i := 0) rfl)
    obtain rfl : [rI x0, rI x1, rI x3, rI x4] = w := Option.some.inj (show some [rI x0, rI x1, rI x3, rI x4] = some w from e6)
    exact (rF_b (r := 6996) (by decide) rfl).mp e7
  have f0 := ro_437.mp f0
  have f1 : rB K n p 440 [rI x0, rI x1, rI x2] σ := by
    obtain ⟨w, e6, e7⟩ := m4 (7043, [0, 1, 2]) (List.mem_of_getElem? (i := 1) rfl)
    obtain rfl : [rI x0, rI x1, rI x2] = w := Option.some.inj (show some [rI x0, rI x1, rI x2] = some w from e6)
    exact (rF_b (r := 7043) (by decide) rfl).mp e7
  have f1 := ro_440.mp f1
  clear m1 m2 m3 m4
  have r0 : 0 ≤ (-1 * x4.toInt + 0) + 2047 := by
    obtain ⟨-, -, k4⟩ := f0
    have hb := rSm_b (k := p.1.1 x0.toInt % 8) (s := x0.toInt) (t := x1.toInt.toNat) (by omega) (by omega) (by omega) (by omega) (by omega)
    omega
  exact ⟨p, fun _ => rfl, ⟨(fun q h => by cases h), fun q h => (by cases h), (aAllc ⟨_, rfl, r0⟩ (fun f h => by cases h)), (fun f h => by cases h)⟩, [], List.mem_cons_self, fun f h => (by cases h)⟩
theorem rw_rxLs {K : Nat → Nat} {n : Nat} {JX : (Nat → jcell) → Prop} : aGho (rF K n) fa_T K n JX ag_rxLs := by
  refine aGho_of ⟨rfl, rfl⟩ ?_
  intro p σ ρ hH hX hA hM0
  have hG := aAG_of hA.1 (fun i e v he hv => (hA.2 i e v he hv).1)
  clear hA
  obtain ⟨v0, v1, v2, v3, rfl, g0, g1, g2, g3⟩ := rA_4 hG
  clear hG
  obtain ⟨x0, rfl, b0, d0⟩ := rG_ref (by decide) g0
  obtain ⟨x1, rfl, b1, d1⟩ := rG_ref (by decide) g1
  obtain ⟨x2, rfl, b2, d2⟩ := aG_int g2
  dsimp only at b2 d2
  obtain ⟨x3, rfl, b3, d3⟩ := aG_int g3
  dsimp only at b3 d3
  obtain ⟨m1, m2, m3, m4⟩ := hM0
  obtain ⟨T, hT⟩ := rTe_ex hH b0 d0
  obtain ⟨a0, c0, fs0, w0, e1, s0, t0, e4⟩ := m1 (0, 32, 1) (List.mem_of_getElem? (i := 0) rfl)
  obtain rfl : x0 = a0 := Sum.inl.inj (Option.some.inj (Sum.inr.inj (Sum.inr.inj (Option.some.inj (show some (rR x0) = some _ from e1)))))
  obtain rfl : rR x1 = w0 := Option.some.inj (show some (rR x1) = some w0 from e4)
  clear e1 e4
  have f0 : rB K n p 438 [rR x0, rI x2] σ := by
    obtain ⟨w, e6, e7⟩ := m4 (7010, [0, 2]) (List.mem_of_getElem? (i := 0) rfl)
    obtain rfl : [rR x0, rI x2] = w := Option.some.inj (show some [rR x0, rI x2] = some w from e6)
    exact (rF_b (r := 7010) (by decide) rfl).mp e7
  have f0 := ro_438.mp f0
  have f1 : rB K n p 31 [rI x3] σ := by
    obtain ⟨w, e6, e7⟩ := m4 (497, [3]) (List.mem_of_getElem? (i := 1) rfl)
    obtain rfl : [rI x3] = w := Option.some.inj (show some [rI x3] = some w from e6)
    exact (rF_b (r := 497) (by decide) rfl).mp e7
  have f1 := ro_31.mp f1
  clear m1 m2 m3 m4
  have q0 : rB K n p 439 [rR x0, rI x2] (jup σ x1 (jsto (σ x1) x2.toNatClampNeg x3)) := ro_439.mpr (by
    obtain ⟨hc, g, h, k⟩ := f0
    refine ⟨by omega, _, rRo_up h s0 t0, fun j h1 h2 => ?_⟩
    have hi : x2.toNatClampNeg = x2.toInt.toNat := rfl
    unfold upd
    by_cases cj : j = x2.toInt
    · rw [if_pos (by rw [hi]; omega)]
      exact f1
    · rw [if_neg (by rw [hi]; omega)]
      exact k j h1 (by omega))
  exact ⟨p, fun _ => rfl, ⟨(fun q h => by cases h), fun q h => (by cases h), (fun f h => by cases h), (aAllc ⟨_, rfl, rF_p (r := 7026) (by decide) (by decide) q0⟩ (fun f h => by cases h))⟩, [], List.mem_cons_self, fun f h => (by cases h)⟩
theorem rw_rxLn {K : Nat → Nat} {n : Nat} {JX : (Nat → jcell) → Prop} : aGho (rF K n) fa_T K n JX ag_rxLn := by
  refine aGho_of ⟨rfl, rfl⟩ ?_
  intro p σ ρ hH hX hA hM0
  have hG := aAG_of hA.1 (fun i e v he hv => (hA.2 i e v he hv).1)
  clear hA
  obtain ⟨v0, v1, v2, rfl, g0, g1, g2⟩ := rA_3 hG
  clear hG
  obtain ⟨x0, rfl, b0, d0⟩ := rG_ref (by decide) g0
  obtain ⟨x1, rfl, b1, d1⟩ := aG_int g1
  dsimp only at b1 d1
  obtain ⟨x2, rfl, b2, d2⟩ := aG_int g2
  dsimp only at b2 d2
  obtain ⟨m1, m2, m3, m4⟩ := hM0
  obtain ⟨T, hT⟩ := rTe_ex hH b0 d0
  have l0 : 0 ≤ (1 * x2.toInt + (-1 * x1.toInt + 0)) + -1 := by
    obtain ⟨z, e6, e7⟩ := m3 ([(2, 1), (1, -1)], -1) (List.mem_of_getElem? (i := 0) rfl)
    obtain rfl : (1 * x2.toInt + (-1 * x1.toInt + 0)) = z := Option.some.inj (show some (1 * x2.toInt + (-1 * x1.toInt + 0)) = some z from e6)
    exact e7
  have l1 : 0 ≤ (-1 * x2.toInt + (1 * x1.toInt + 0)) + 1 := by
    obtain ⟨z, e6, e7⟩ := m3 ([(2, -1), (1, 1)], 1) (List.mem_of_getElem? (i := 1) rfl)
    obtain rfl : (-1 * x2.toInt + (1 * x1.toInt + 0)) = z := Option.some.inj (show some (-1 * x2.toInt + (1 * x1.toInt + 0)) = some z from e6)
    exact e7
  have f0 : rB K n p 439 [rR x0, rI x1] σ := by
    obtain ⟨w, e6, e7⟩ := m4 (7026, [0, 1]) (List.mem_of_getElem? (i := 0) rfl)
    obtain rfl : [rR x0, rI x1] = w := Option.some.inj (show some [rR x0, rI x1] = some w from e6)
    exact (rF_b (r := 7026) (by decide) rfl).mp e7
  have f0 := ro_439.mp f0
  clear m1 m2 m3 m4
  have q0 : rB K n p 438 [rR x0, rI x2] σ := ro_438.mpr (by
    rw [show x2.toInt = x1.toInt + 1 by omega]
    exact ⟨by omega, f0.2⟩)
  exact ⟨p, fun _ => rfl, ⟨(fun q h => by cases h), fun q h => (by cases h), (fun f h => by cases h), (aAllc ⟨_, rfl, (rF_b (r := 7010) (by decide) rfl).mpr q0⟩ (fun f h => by cases h))⟩, [], List.mem_cons_self, fun f h => (by cases h)⟩
theorem rw_rxJy {K : Nat → Nat} {n : Nat} {JX : (Nat → jcell) → Prop} : aGho (rF K n) fa_T K n JX ag_rxJy := by
  refine aGho_of ⟨rfl, rfl⟩ ?_
  intro p σ ρ hH hX hA hM0
  have hG := aAG_of hA.1 (fun i e v he hv => (hA.2 i e v he hv).1)
  clear hA
  obtain ⟨v0, v1, v2, v3, v4, rfl, g0, g1, g2, g3, g4⟩ := rA_5 hG
  clear hG
  obtain ⟨x0, rfl, b0, d0⟩ := aG_int g0
  dsimp only at b0 d0
  obtain ⟨x1, rfl, b1, d1⟩ := aG_int g1
  dsimp only at b1 d1
  obtain ⟨x2, rfl, b2, d2⟩ := aG_int g2
  dsimp only at b2 d2
  obtain ⟨x3, rfl, b3, d3⟩ := aG_int g3
  dsimp only at b3 d3
  obtain ⟨x4, rfl, b4, d4⟩ := aG_int g4
  dsimp only at b4 d4
  obtain ⟨m1, m2, m3, m4⟩ := hM0
  have l0 : 0 ≤ (1 * x4.toInt + (-1 * x3.toInt + 0)) + -1 := by
    obtain ⟨z, e6, e7⟩ := m3 ([(4, 1), (3, -1)], -1) (List.mem_of_getElem? (i := 0) rfl)
    obtain rfl : (1 * x4.toInt + (-1 * x3.toInt + 0)) = z := Option.some.inj (show some (1 * x4.toInt + (-1 * x3.toInt + 0)) = some z from e6)
    exact e7
  have l1 : 0 ≤ (-1 * x4.toInt + (1 * x3.toInt + 0)) + 1 := by
    obtain ⟨z, e6, e7⟩ := m3 ([(4, -1), (3, 1)], 1) (List.mem_of_getElem? (i := 1) rfl)
    obtain rfl : (-1 * x4.toInt + (1 * x3.toInt + 0)) = z := Option.some.inj (show some (-1 * x4.toInt + (1 * x3.toInt + 0)) = some z from e6)
    exact e7
  have f0 : rB K n p 437 [rI x0, rI x1, rI x2, rI x3] σ := by
    obtain ⟨w, e6, e7⟩ := m4 (6996, [0, 1, 2, 3]) (List.mem_of_getElem? (i := 0) rfl)
    obtain rfl : [rI x0, rI x1, rI x2, rI x3] = w := Option.some.inj (show some [rI x0, rI x1, rI x2, rI x3] = some w from e6)
    exact (rF_b (r := 6996) (by decide) rfl).mp e7
  have f0 := ro_437.mp f0
  clear m1 m2 m3 m4
  have q0 : rB K n p 443 [rI x0, rI x1, rI x2, rI x4] σ := ro_443.mpr (by
    obtain ⟨hsd, k3, k4⟩ := f0
    exact ⟨hsd, k3, k4.imp (fun h => ⟨h.1, by have := h.2; omega⟩) (fun h => ⟨h.1, by have := h.2; omega⟩)⟩)
  exact ⟨p, fun _ => rfl, ⟨(fun q h => by cases h), fun q h => (by cases h), (fun f h => by cases h), (aAllc ⟨_, rfl, (rF_b (r := 7092) (by decide) rfl).mpr q0⟩ (fun f h => by cases h))⟩, [], List.mem_cons_self, fun f h => (by cases h)⟩
theorem rw_rxJs {K : Nat → Nat} {n : Nat} {JX : (Nat → jcell) → Prop} : aGho (rF K n) fa_T K n JX ag_rxJs := by
  refine aGho_of ⟨rfl, rfl⟩ ?_
  intro p σ ρ hH hX hA hM0
  have hG := aAG_of hA.1 (fun i e v he hv => (hA.2 i e v he hv).1)
  clear hA
  obtain ⟨v0, v1, v2, v3, v4, rfl, g0, g1, g2, g3, g4⟩ := rA_5 hG
  clear hG
  obtain ⟨x0, rfl, b0, d0⟩ := aG_int g0
  dsimp only at b0 d0
  obtain ⟨x1, rfl, b1, d1⟩ := aG_int g1
  dsimp only at b1 d1
  obtain ⟨x2, rfl, b2, d2⟩ := aG_int g2
  dsimp only at b2 d2
  obtain ⟨x3, rfl, b3, d3⟩ := aG_int g3
  dsimp only at b3 d3
  obtain ⟨x4, rfl, b4, d4⟩ := aG_int g4
  dsimp only at b4 d4
  obtain ⟨m1, m2, m3, m4⟩ := hM0
  have l0 : 0 ≤ (1 * x4.toInt + (-1 * x2.toInt + 0)) + -1 := by
    obtain ⟨z, e6, e7⟩ := m3 ([(4, 1), (2, -1)], -1) (List.mem_of_getElem? (i := 0) rfl)
    obtain rfl : (1 * x4.toInt + (-1 * x2.toInt + 0)) = z := Option.some.inj (show some (1 * x4.toInt + (-1 * x2.toInt + 0)) = some z from e6)
    exact e7
  have l1 : 0 ≤ (-1 * x4.toInt + (1 * x2.toInt + 0)) + 1 := by
    obtain ⟨z, e6, e7⟩ := m3 ([(4, -1), (2, 1)], 1) (List.mem_of_getElem? (i := 1) rfl)
    obtain rfl : (-1 * x4.toInt + (1 * x2.toInt + 0)) = z := Option.some.inj (show some (-1 * x4.toInt + (1 * x2.toInt + 0)) = some z from e6)
    exact e7
  have f0 : rB K n p 443 [rI x0, rI x1, rI x2, rI x3] σ := by
    obtain ⟨w, e6, e7⟩ := m4 (7092, [0, 1, 2, 3]) (List.mem_of_getElem? (i := 0) rfl)
    obtain rfl : [rI x0, rI x1, rI x2, rI x3] = w := Option.some.inj (show some [rI x0, rI x1, rI x2, rI x3] = some w from e6)
    exact (rF_b (r := 7092) (by decide) rfl).mp e7
  have f0 := ro_443.mp f0
  clear m1 m2 m3 m4
  have q0 : rB K n p 437 [rI x0, rI x1, rI x4, rI x3] σ := ro_437.mpr (by
    rw [show x4.toInt = x2.toInt + 1 by omega]
    exact f0)
  exact ⟨p, fun _ => rfl, ⟨(fun q h => by cases h), fun q h => (by cases h), (fun f h => by cases h), (aAllc ⟨_, rfl, (rF_b (r := 6996) (by decide) rfl).mpr q0⟩ (fun f h => by cases h))⟩, [], List.mem_cons_self, fun f h => (by cases h)⟩
theorem rw_rxJe0 {K : Nat → Nat} {n : Nat} {JX : (Nat → jcell) → Prop} : aGho (rF K n) fa_T K n JX ag_rxJe0 := by
  refine aGho_of ⟨rfl, rfl⟩ ?_
  intro p σ ρ hH hX hA hM0
  have hG := aAG_of hA.1 (fun i e v he hv => (hA.2 i e v he hv).1)
  clear hA
  obtain ⟨v0, v1, v2, v3, v4, rfl, g0, g1, g2, g3, g4⟩ := rA_5 hG
  clear hG
  obtain ⟨x0, rfl, b0, d0⟩ := aG_int g0
  dsimp only at b0 d0
  obtain ⟨x1, rfl, b1, d1⟩ := aG_int g1
  dsimp only at b1 d1
  obtain ⟨x2, rfl, b2, d2⟩ := aG_int g2
  dsimp only at b2 d2
  obtain ⟨x3, rfl, b3, d3⟩ := aG_int g3
  dsimp only at b3 d3
  obtain ⟨x4, rfl, b4, d4⟩ := aG_int g4
  dsimp only at b4 d4
  obtain ⟨m1, m2, m3, m4⟩ := hM0
  have f0 : rB K n p 437 [rI x0, rI x1, rI x3, rI x4] σ := by
    obtain ⟨w, e6, e7⟩ := m4 (6996, [0, 1, 3, 4]) (List.mem_of_getElem? (i := 0) rfl)
    obtain rfl : [rI x0, rI x1, rI x3, rI x4] = w := Option.some.inj (show some [rI x0, rI x1, rI x3, rI x4] = some w from e6)
    exact (rF_b (r := 6996) (by decide) rfl).mp e7
  have f0 := ro_437.mp f0
  have f1 : rB K n p 440 [rI x0, rI x1, rI x2] σ := by
    obtain ⟨w, e6, e7⟩ := m4 (7043, [0, 1, 2]) (List.mem_of_getElem? (i := 1) rfl)
    obtain rfl : [rI x0, rI x1, rI x2] = w := Option.some.inj (show some [rI x0, rI x1, rI x2] = some w from e6)
    exact (rF_b (r := 7043) (by decide) rfl).mp e7
  have f1 := ro_440.mp f1
  clear m1 m2 m3 m4
  have q0 : rB K n p 441 [rI x0, rI x1, rI x4] σ := ro_441.mpr (by
    obtain ⟨hsd, k3, k4⟩ := f0
    have hw : rWt (p.1.1 x0.toInt % 8) x0.toInt x1.toInt = 1 := by
      unfold rWt
      rw [if_pos (rGO_sup k3 b0 d0 hsd)]
      unfold rLs at f1
      rw [if_neg (by omega)]
    rw [rSm_s b1, hw]
    unfold rLs at f1 k4
    omega)
  exact ⟨p, fun _ => rfl, ⟨(fun q h => by cases h), fun q h => (by cases h), (fun f h => by cases h), (aAllc ⟨_, rfl, (rF_b (r := 7059) (by decide) rfl).mpr q0⟩ (fun f h => by cases h))⟩, [], List.mem_cons_self, fun f h => (by cases h)⟩
theorem rw_rxJe1 {K : Nat → Nat} {n : Nat} {JX : (Nat → jcell) → Prop} : aGho (rF K n) fa_T K n JX ag_rxJe1 := by
  refine aGho_of ⟨rfl, rfl⟩ ?_
  intro p σ ρ hH hX hA hM0
  have hG := aAG_of hA.1 (fun i e v he hv => (hA.2 i e v he hv).1)
  clear hA
  obtain ⟨v0, v1, v2, v3, v4, rfl, g0, g1, g2, g3, g4⟩ := rA_5 hG
  clear hG
  obtain ⟨x0, rfl, b0, d0⟩ := aG_int g0
  dsimp only at b0 d0
  obtain ⟨x1, rfl, b1, d1⟩ := aG_int g1
  dsimp only at b1 d1
  obtain ⟨x2, rfl, b2, d2⟩ := aG_int g2
  dsimp only at b2 d2
  obtain ⟨x3, rfl, b3, d3⟩ := aG_int g3
  dsimp only at b3 d3
  obtain ⟨x4, rfl, b4, d4⟩ := aG_int g4
  dsimp only at b4 d4
  obtain ⟨m1, m2, m3, m4⟩ := hM0
  have f0 : rB K n p 437 [rI x0, rI x1, rI x3, rI x4] σ := by
    obtain ⟨w, e6, e7⟩ := m4 (6996, [0, 1, 3, 4]) (List.mem_of_getElem? (i := 0) rfl)
    obtain rfl : [rI x0, rI x1, rI x3, rI x4] = w := Option.some.inj (show some [rI x0, rI x1, rI x3, rI x4] = some w from e6)
    exact (rF_b (r := 6996) (by decide) rfl).mp e7
  have f0 := ro_437.mp f0
  have f1 : rB K n p 440 [rI x0, rI x1, rI x2] σ := by
    obtain ⟨w, e6, e7⟩ := m4 (7043, [0, 1, 2]) (List.mem_of_getElem? (i := 1) rfl)
    obtain rfl : [rI x0, rI x1, rI x2] = w := Option.some.inj (show some [rI x0, rI x1, rI x2] = some w from e6)
    exact (rF_b (r := 7043) (by decide) rfl).mp e7
  have f1 := ro_440.mp f1
  clear m1 m2 m3 m4
  have q0 : rB K n p 441 [rI x0, rI x1, rI x4] σ := ro_441.mpr (by
    obtain ⟨hsd, k3, k4⟩ := f0
    have hw : rWt (p.1.1 x0.toInt % 8) x0.toInt x1.toInt = 4 := by
      unfold rWt
      rw [if_pos (rGO_sup k3 b0 d0 hsd)]
      unfold rLs at f1
      rw [if_pos (by omega)]
    rw [rSm_s b1, hw]
    unfold rLs at f1 k4
    omega)
  exact ⟨p, fun _ => rfl, ⟨(fun q h => by cases h), fun q h => (by cases h), (fun f h => by cases h), (aAllc ⟨_, rfl, (rF_b (r := 7059) (by decide) rfl).mpr q0⟩ (fun f h => by cases h))⟩, [], List.mem_cons_self, fun f h => (by cases h)⟩
theorem rw_rxEs {K : Nat → Nat} {n : Nat} {JX : (Nat → jcell) → Prop} : aGho (rF K n) fa_T K n JX ag_rxEs := by
  refine aGho_of ⟨rfl, rfl⟩ ?_
  intro p σ ρ hH hX hA hM0
  have hG := aAG_of hA.1 (fun i e v he hv => (hA.2 i e v he hv).1)
  clear hA
  obtain ⟨v0, v1, v2, v3, rfl, g0, g1, g2, g3⟩ := rA_4 hG
  clear hG
  obtain ⟨x0, rfl, b0, d0⟩ := aG_int g0
  dsimp only at b0 d0
  obtain ⟨x1, rfl, b1, d1⟩ := aG_int g1
  dsimp only at b1 d1
  obtain ⟨x2, rfl, b2, d2⟩ := aG_int g2
  dsimp only at b2 d2
  obtain ⟨x3, rfl, b3, d3⟩ := aG_int g3
  dsimp only at b3 d3
  obtain ⟨m1, m2, m3, m4⟩ := hM0
  have l0 : 0 ≤ (1 * x3.toInt + (-1 * x1.toInt + 0)) + -1 := by
    obtain ⟨z, e6, e7⟩ := m3 ([(3, 1), (1, -1)], -1) (List.mem_of_getElem? (i := 0) rfl)
    obtain rfl : (1 * x3.toInt + (-1 * x1.toInt + 0)) = z := Option.some.inj (show some (1 * x3.toInt + (-1 * x1.toInt + 0)) = some z from e6)
    exact e7
  have l1 : 0 ≤ (-1 * x3.toInt + (1 * x1.toInt + 0)) + 1 := by
    obtain ⟨z, e6, e7⟩ := m3 ([(3, -1), (1, 1)], 1) (List.mem_of_getElem? (i := 1) rfl)
    obtain rfl : (-1 * x3.toInt + (1 * x1.toInt + 0)) = z := Option.some.inj (show some (-1 * x3.toInt + (1 * x1.toInt + 0)) = some z from e6)
    exact e7
  have f0 : rB K n p 441 [rI x0, rI x1, rI x2] σ := by
    obtain ⟨w, e6, e7⟩ := m4 (7059, [0, 1, 2]) (List.mem_of_getElem? (i := 0) rfl)
    obtain rfl : [rI x0, rI x1, rI x2] = w := Option.some.inj (show some [rI x0, rI x1, rI x2] = some w from e6)
    exact (rF_b (r := 7059) (by decide) rfl).mp e7
  have f0 := ro_441.mp f0
  clear m1 m2 m3 m4
  have q0 : rB K n p 436 [rI x0, rI x3, rI x2] σ := ro_436.mpr (by
    rw [show x3.toInt = x1.toInt + 1 by omega]
    exact f0)
  exact ⟨p, fun _ => rfl, ⟨(fun q h => by cases h), fun q h => (by cases h), (fun f h => by cases h), (aAllc ⟨_, rfl, (rF_b (r := 6979) (by decide) rfl).mpr q0⟩ (fun f h => by cases h))⟩, [], List.mem_cons_self, fun f h => (by cases h)⟩
theorem rw_rxF {K : Nat → Nat} {n : Nat} {JX : (Nat → jcell) → Prop} : aGho (rF K n) fa_T K n JX ag_rxF := by
  refine aGho_of ⟨rfl, rfl⟩ ?_
  intro p σ ρ hH hX hA hM0
  have hG := aAG_of hA.1 (fun i e v he hv => (hA.2 i e v he hv).1)
  clear hA
  obtain ⟨v0, v1, v2, rfl, g0, g1, g2⟩ := rA_3 hG
  clear hG
  obtain ⟨x0, rfl, b0, d0⟩ := aG_int g0
  dsimp only at b0 d0
  obtain ⟨x1, rfl, b1, d1⟩ := aG_int g1
  dsimp only at b1 d1
  obtain ⟨x2, rfl, b2, d2⟩ := aG_int g2
  dsimp only at b2 d2
  obtain ⟨m1, m2, m3, m4⟩ := hM0
  have f0 : rB K n p 436 [rI x0, rI x1, rI x2] σ := by
    obtain ⟨w, e6, e7⟩ := m4 (6979, [0, 1, 2]) (List.mem_of_getElem? (i := 0) rfl)
    obtain rfl : [rI x0, rI x1, rI x2] = w := Option.some.inj (show some [rI x0, rI x1, rI x2] = some w from e6)
    exact (rF_b (r := 6979) (by decide) rfl).mp e7
  have f0 := ro_436.mp f0
  clear m1 m2 m3 m4
  have q0 : rB K n p 448 [rI x0, rI x2] σ := ro_448.mpr (by
    have hb := rSm_b (k := p.1.1 x0.toInt % 8) (s := x0.toInt) (t := x1.toInt.toNat) (by omega) (by omega) (by omega) (by omega) (by omega)
    omega)
  exact ⟨p, fun _ => rfl, ⟨(fun q h => by cases h), fun q h => (by cases h), (fun f h => by cases h), (aAllc ⟨_, rfl, (rF_b (r := 7170) (by decide) rfl).mpr q0⟩ (fun f h => by cases h))⟩, [], List.mem_cons_self, fun f h => (by cases h)⟩
theorem rw_rxFs {K : Nat → Nat} {n : Nat} {JX : (Nat → jcell) → Prop} : aGho (rF K n) fa_T K n JX ag_rxFs := by
  refine aGho_of ⟨rfl, rfl⟩ ?_
  intro p σ ρ hH hX hA hM0
  have hG := aAG_of hA.1 (fun i e v he hv => (hA.2 i e v he hv).1)
  clear hA
  obtain ⟨v0, v1, v2, rfl, g0, g1, g2⟩ := rA_3 hG
  clear hG
  obtain ⟨x0, rfl, b0, d0⟩ := aG_int g0
  dsimp only at b0 d0
  obtain ⟨x1, rfl, b1, d1⟩ := aG_int g1
  dsimp only at b1 d1
  obtain ⟨x2, rfl, b2, d2⟩ := aG_int g2
  dsimp only at b2 d2
  obtain ⟨m1, m2, m3, m4⟩ := hM0
  have l0 : 0 ≤ (1 * x2.toInt + (-1 * x0.toInt + 0)) + -1 := by
    obtain ⟨z, e6, e7⟩ := m3 ([(2, 1), (0, -1)], -1) (List.mem_of_getElem? (i := 0) rfl)
    obtain rfl : (1 * x2.toInt + (-1 * x0.toInt + 0)) = z := Option.some.inj (show some (1 * x2.toInt + (-1 * x0.toInt + 0)) = some z from e6)
    exact e7
  have l1 : 0 ≤ (-1 * x2.toInt + (1 * x0.toInt + 0)) + 1 := by
    obtain ⟨z, e6, e7⟩ := m3 ([(2, -1), (0, 1)], 1) (List.mem_of_getElem? (i := 1) rfl)
    obtain rfl : (-1 * x2.toInt + (1 * x0.toInt + 0)) = z := Option.some.inj (show some (-1 * x2.toInt + (1 * x0.toInt + 0)) = some z from e6)
    exact e7
  have f0 : rB K n p 448 [rI x0, rI x1] σ := by
    obtain ⟨w, e6, e7⟩ := m4 (7170, [0, 1]) (List.mem_of_getElem? (i := 0) rfl)
    obtain rfl : [rI x0, rI x1] = w := Option.some.inj (show some [rI x0, rI x1] = some w from e6)
    exact (rF_b (r := 7170) (by decide) rfl).mp e7
  have f0 := ro_448.mp f0
  clear m1 m2 m3 m4
  have q0 : rB K n p 435 [rI x2, rI x1] σ := ro_435.mpr (by
    omega)
  exact ⟨p, fun _ => rfl, ⟨(fun q h => by cases h), fun q h => (by cases h), (fun f h => by cases h), (aAllc ⟨_, rfl, (rF_b (r := 6962) (by decide) rfl).mpr q0⟩ (fun f h => by cases h))⟩, [], List.mem_cons_self, fun f h => (by cases h)⟩

